theorem al_X {x1 x2 x3 x4 x5 x6 : Int32} {M M1 : eM} (hf : fX8_addLook 30 x1 x2 x3 x4 x5 x6 M = some M1) : M1.2.1 = M.2.1 := by
  have pe : ∀ x2 x3 x4 x5 (M M1 : eM), fX8_putEntry 30 (30 + 1) x2 x3 x4 x5 M = some M1 → M1.2.1 = M.2.1 := by
    intro x2 x3 x4 x5 M M1 hf
    replace hf := (fX8_putEntry.eq_1 ..).symm.trans hf
    replace hf := (fX8_putEntry_0.eq_1 ..).symm.trans hf
    have hf := (ea_ck_s (ea_ck_s (ea_ck_s hf).2).2).2
    have hf := Option.some.inj hf
    rw [← hf]
    rfl
  have ps : ∀ x1 x2 x3 x4 (M M1 : eM), fX8_putShades (30 + 1) x1 x2 x3 x4 M = some M1 → M1.2.1 = M.2.1 := by
    intro x1 x2 x3 x4 M M1 hf
    replace hf := (fX8_putShades.eq_1 ..).symm.trans hf
    replace hf := (fX8_putShades_0.eq_1 ..).symm.trans hf
    have hf := (ea_ck_s (ea_ck_s (ea_ck_s hf).2).2).2
    have hf := Option.some.inj hf
    rw [← hf]
    rfl
  replace hf := (fX8_addLook.eq_1 ..).symm.trans hf
  replace hf := (fX8_addLook_0.eq_1 ..).symm.trans hf
  rcases ea_if_s hf with ⟨_, hf⟩ | ⟨_, hf⟩
  · rw [← Option.some.inj hf]
  · obtain ⟨M3, he, hf⟩ := ea_cv_s hf
    obtain ⟨M5, he2, hf⟩ := ea_cv_s hf
    have hf := Option.some.inj hf
    rw [← hf]
    exact (ps _ _ _ _ _ _ he2).trans (pe _ _ _ _ _ _ he)
theorem al_Y {x1 x2 x3 x4 x5 x6 x7 y : Int32} {M M1 : eM} (hf : fX11_addLook x1 x2 x3 x4 x5 x6 x7 M = some (y, M1)) : M1.2.1 = M.2.1 := by
  replace hf := (fX11_addLook.eq_1 ..).symm.trans hf
  replace hf := (fX11_addLook_0.eq_1 ..).symm.trans hf
  rw [ev_lt_] at hf
  rcases ea_if_s hf with ⟨_, hf⟩ | ⟨_, hf⟩
  · have hf := congrArg Prod.snd (Option.some.inj hf)
    have hf : M = M1 := hf
    rw [← hf]
  · rw [ev_lt_] at hf
    have hf := (ea_ck_s (ea_ck_s (ea_ck_s (ea_ck_s (ea_ck_s (ea_ck_s (ea_ck_s hf).2).2).2).2).2).2).2
    have hf := congrArg Prod.snd (Option.some.inj hf)
    exact (congrArg (fun N : eM => N.2.1) hf).symm
/-- what a told side makes of a TELLING -/
def tsq (q : Nat → Nat) (step : Nat) : Nat → Nat := if q 0 < 90 then ad_q q 0 step else q
def tsl (q : Nat → Nat) (l : Nat → Nat → Nat) (row : List Nat) : Nat → Nat → Nat := if q 0 < 90 then ad_l l (q 0) row else l
section WO
variable {c th : Nat} {n : Nat → Nat} {v : Nat → Nat → Nat} {o w q : Nat → Nat} {l t r : Nat → Nat → Nat}
theorem pn_LX.same {M M' : eM} {a : Nat} (h : pn_LX M a q l t r) (h1 : M'.1 = M.1) : pn_LX M' a q l t r := h.fr (fun _ _ _ => by rw [h1])
theorem pn_LY.same {M M' : eM} (hok : pn_Lok q l t r) (h : pn_LY M 0 q l t r) (h1 : M'.1 = M.1) : pn_LY M' 0 q l t r := h.fr hok (fun _ _ _ => by rw [h1])
theorem px_tell {M : eM} (hC : pn_C M c n v th o w) (hok : pn_Lok q l t r) (hL : pn_LX M 30 q l t r) {step cell side x st year : Nat} (hst : st < n 5) (hs : step ≤ 999) (hc : cell < 48) (hsd : side ≤ 1) (hx : x < th) (hy : year ≤ 999) : ∃ M', fX10_tellSide (nI step) (nI cell) (nI side) (nI x) (nI st) (nI year) M = some M' ∧ pn_LX M' 30 (tsq q step) (tsl q l [step, cell, side, sp_col v o w x (sp_hours n v st (cell % n 0) year side) 0, sp_col v o w x (sp_hours n v st (cell % n 0) year side) 1, sp_col v o w x (sp_hours n v st (cell % n 0) year side) 2, 0]) t r ∧ (∀ c k, ¬ (30 ≤ c ∧ c ≤ 33) → M'.1 c k = M.1 c k) ∧ M'.2.2 = M.2.2 ∧ M'.2.1 = M.2.1 := by
  have ho := hC.2.2.2.1
  have hq := hok.1
  have hth := hC.2.2.2.2.2.2.1.1.1
  have hX := hC.2.2.2.2.1
  have hcc := hC.1
  have h0 := ho.1
  have hcol : cell % n 0 < n 0 := Nat.mod_lt _ (by omega)
  have e3 := hL.1.1
  unfold fX10_tellSide fX10_tellSide_0 tsq tsl
  rw [e3]
  by_cases h90 : q 0 < 90
  · rw [if_pos h90, if_pos h90, if_neg (by rw [show (90 : Int32) = nI 90 from rfl, pn_leI (by omega) (by omega)]; omega), gx_thread hC, ev_ci]
    have hb : pb (nI x) 0 (nI th - 1) = 1 := pb_of (f := x) (a := 0) (k := th) (by omega) hx (by omega)
    have hle := sp_hours_le ho hst hcol (year := year) (side := side)
    have sh := fun k (hk : k < 3) => px_shade hC.2.1 hcc hX ho hC.2.2.2.2.2.2.2.1 hC.2.2.2.2.2.2.1.1 hx (show sp_hours n v st (cell % n 0) year side < 2 ^ 31 by omega) hk
    have s0 : fX9_shadeOf (nI x) (nI (sp_hours n v st (cell % n 0) year side)) 0 M = _ := sh 0 (by decide)
    have s1 : fX9_shadeOf (nI x) (nI (sp_hours n v st (cell % n 0) year side)) 1 M = _ := sh 1 (by decide)
    have s2 : fX9_shadeOf (nI x) (nI (sp_hours n v st (cell % n 0) year side)) 2 M = _ := sh 2 (by decide)
    obtain ⟨M1, r1, g1, f1, y1, k1⟩ := px_addLook hok hL h90 (step := step) (cell := cell) (side := side) (g := 0) (A := fun k => sp_col v o w x (sp_hours n v st (cell % n 0) year side) k) (nI (sp_col v o w x (sp_hours n v st (cell % n 0) year side) 0)) (nI (sp_col v o w x (sp_hours n v st (cell % n 0) year side) 1)) (nI (sp_col v o w x (sp_hours n v st (cell % n 0) year side) 2)) rfl rfl rfl
    refine ⟨M1, ?_, g1, k1, f1.2, al_X r1⟩
    rw [hb, if_neg (by decide), hC.2.1, ea_ck_t (pn_is hcc), ea_ck_t (pn_is hcc), px_col hX ho hc, ev_ci, px_hours hcc hX ho hst hcol hy hsd, ev_ci, s0, ev_ci, s1, ev_ci, s2, ev_ci, r1, ev_cv]
  · rw [if_neg h90, if_neg h90, if_pos (by rw [show (90 : Int32) = nI 90 from rfl, pn_leI (by omega) (by omega)]; omega)]
    exact ⟨M, rfl, hL, fun _ _ _ => rfl, rfl, rfl⟩
theorem py_tell {M : eM} (hC : pn_C M c n v th o w) (hok : pn_Lok q l t r) (hL : pn_LY M 0 q l t r) {step cell side x st year m : Nat} (hst : st < n 5) (hs : step ≤ 999) (hc : cell < 48) (hsd : side ≤ 1) (hx : x < th) (hy : year ≤ 999) (k170 : Int32 → Int32 → Int32 → Int32 → eM → Option (Int32 × eM)) (f : Nat) : ∃ M', fX11_world_88 k170 (f + 1) (nI step) (nI st) (nI m) (nI cell) (nI x) (nI year) (nI side) M = fX11_world_88 k170 f (nI step) (nI st) (nI (m + (tsq q step 0 - q 0))) (nI cell) (nI x) (nI year) (nI (side + 1)) M' ∧ pn_LY M' 0 (tsq q step) (tsl q l [step, cell, side, sp_col v o w x (sp_hours n v st (cell % n 0) year side) 0, sp_col v o w x (sp_hours n v st (cell % n 0) year side) 1, sp_col v o w x (sp_hours n v st (cell % n 0) year side) 2, 0]) t r ∧ FrT M M' ∧ (∀ c k, c ≠ 114 → M'.1 c k = M.1 c k) ∧ M'.2.1 = M.2.1 := by
  have ho := hC.2.2.2.1
  have hq := hok.1
  have hY := hC.2.2.2.2.2.1
  have h0 := ho.1
  have hcol : cell % n 0 < n 0 := Nat.mod_lt _ (by omega)
  have e0 := hY.1.1
  have hrm : nI cell - nI cell / nI (n 0) * nI (n 0) = nI (cell % n 0) := ev_rem (by omega) (by omega) (by omega)
  have hle := sp_hours_le ho hst hcol (year := year) (side := side)
  have sh := fun k (hk : k < 3) => py_colour hY ho hC.2.2.2.2.2.2.2.2 hC.2.2.2.2.2.2.1.1 hx (show sp_hours n v st (cell % n 0) year side < 2 ^ 31 by omega) hk
  have s0 : fX11_colourOf (nI x) (nI (sp_hours n v st (cell % n 0) year side)) 0 M = _ := sh 0 (by decide)
  have s1 : fX11_colourOf (nI x) (nI (sp_hours n v st (cell % n 0) year side)) 1 M = _ := sh 1 (by decide)
  have s2 : fX11_colourOf (nI x) (nI (sp_hours n v st (cell % n 0) year side)) 2 M = _ := sh 2 (by decide)
  rw [fX11_world_88, if_neg (by rw [show (2 : Int32) = nI 2 from rfl, pn_leI (by omega) (by omega)]; omega), show (0 : Int32).toNatClampNeg = 0 from rfl, e0, ea_ck_t (pn_nz (by omega) (by omega)), hrm, py_hours hY ho hst hcol hy hsd, ev_ci, s0, ev_ci, s1, ev_ci, s2, ev_ci]
  unfold tsq tsl
  by_cases h90 : q 0 < 90
  · rw [if_pos h90, if_pos h90]
    obtain ⟨M1, r1, g1, f1, k1⟩ := py_addLook hok hL h90 (step := step) (cell := cell) (side := side) (g := 0) (A := fun k => sp_col v o w x (sp_hours n v st (cell % n 0) year side) k)
    have r1 : fX11_addLook (nI step) (nI cell) (nI side) (nI (sp_col v o w x (sp_hours n v st (cell % n 0) year side) 0)) (nI (sp_col v o w x (sp_hours n v st (cell % n 0) year side) 1)) (nI (sp_col v o w x (sp_hours n v st (cell % n 0) year side) 2)) 0 M = some (nI (q 0 + 1), M1) := r1
    refine ⟨M1, ?_, g1, f1, k1, al_Y r1⟩
    rw [r1, ev_ci, if_neg (by rw [pn_le0 (by omega)]; omega), show ad_q q 0 step 0 = q 0 + 1 from if_pos rfl, show q 0 + 1 - q 0 = 1 by omega]
    unfold fX11_world_161
    rw [show nI side + 1 = nI (side + 1) from nI_add side 1, show nI m + 1 = nI (m + 1) from nI_add m 1]
  · rw [if_neg h90, if_neg h90]
    have hq90 : q 0 = 90 := by omega
    have e90 : M.1 114 (0 : Int32).toNatClampNeg = nI 90 := by have := hL.1 0 (by decide); rw [Nat.zero_add, hq90] at this; exact this
    have r1 : fX11_addLook (nI step) (nI cell) (nI side) (nI (sp_col v o w x (sp_hours n v st (cell % n 0) year side) 0)) (nI (sp_col v o w x (sp_hours n v st (cell % n 0) year side) 1)) (nI (sp_col v o w x (sp_hours n v st (cell % n 0) year side) 2)) 0 M = some (-3, M) := by
      unfold fX11_addLook fX11_addLook_0
      rw [e90, ea_lt_t, if_pos (show nI 90 = (90 : Int32) from rfl)]
    refine ⟨M, ?_, hL, FrT.rf, fun _ _ _ => rfl, rfl⟩
    rw [r1, ev_ci, if_pos (by decide), Nat.sub_self]
    unfold fX11_world_161
    rw [show nI side + 1 = nI (side + 1) from nI_add side 1, show nI m + 0 = nI (m + 0) from nI_add m 0]
theorem ts_ok (hok : pn_Lok q l t r) {step cell side : Nat} (hs : step ≤ 999) (hc : cell < 48) (hsd : side ≤ 1) (A : Nat → Nat) (hA : ∀ k, k < 3 → A k ≤ 99) : pn_Lok (tsq q step) (tsl q l [step, cell, side, A 0, A 1, A 2, 0]) t r := by
  unfold tsq tsl
  by_cases h90 : q 0 < 90
  · rw [if_pos h90, if_pos h90]
    exact ad_ok (n := q) hok h90 hs hc hsd hA (by decide) (fun h => absurd h (by decide))
  · rw [if_neg h90, if_neg h90]
    exact hok
theorem ts_fact {step cell N : Nat} {row : List Nat} (hcell : cell < N) (hr1 : row.getD 1 0 = cell) (hl : ∀ i, i < q 0 → l i 1 < N) : q 0 ≤ tsq q step 0 ∧ tsq q step 1 = q 1 ∧ tsq q step 2 = q 2 ∧ ∀ i, i < tsq q step 0 → tsl q l row i 1 < N := by
  unfold tsq tsl
  by_cases h90 : q 0 < 90
  · rw [if_pos h90, if_pos h90]
    refine ⟨?_, rfl, rfl, fun i hi => ?_⟩
    · show q 0 ≤ (if 0 = 0 then q 0 + 1 else _)
      rw [if_pos rfl]; omega
    · have hi : i < q 0 + 1 := hi
      show (if i = q 0 then row.getD 1 0 else l i 1) < N
      by_cases e : i = q 0
      · rw [if_pos e, hr1]; exact hcell
      · rw [if_neg e]; exact hl i (by omega)
  · rw [if_neg h90, if_neg h90]
    exact ⟨Nat.le_refl _, rfl, rfl, hl⟩
end WO
/-- all CELLS told, on both sides -/
theorem world_both {th : Nat} {n : Nat → Nat} {v : Nat → Nat → Nat} {o w : Nat → Nat} {t r : Nat → Nat → Nat} (ho : pn_ok n v) (hTh : pn_Th n th o w) (h0 : 0 < n 4) {step st : Nat} (hst : st < n 5) (hs : step ≤ 999) : ∀ (d f k : Nat) (q : Nat → Nat) (l : Nat → Nat → Nat) (s : Nat), n 0 * n 1 - k = d → k ≤ n 0 * n 1 → d < f → pn_Lok q l t r → (∀ i, i < q 0 → l i 1 < n 0 * n 1) → s < 2147483648 → ∃ q' l', pn_Lok q' l' t r ∧ q 0 ≤ q' 0 ∧ q' 1 = q 1 ∧ q' 2 = q 2 ∧ (∀ i, i < q' 0 → l' i 1 < n 0 * n 1) ∧
    (∀ M c x4, pn_C M c n v th o w → pn_LX M 30 q l t r → (M.2.1 78 0).toInt = (s : Int) → ∃ M', fX10_world_65 fX10_world_149 f (nI step) (nI st) x4 (nI k) M = some (nI (q' 0) - x4, M') ∧ pn_LX M' 30 q' l' t r ∧ (∀ c k, ¬ (30 ≤ c ∧ c ≤ 33) → M'.1 c k = M.1 c k) ∧ M'.2.2 = M.2.2) ∧
    (∀ M c m, pn_C M c n v th o w → pn_LY M 0 q l t r → (M.2.1 100 47).toInt = (s : Int) → ∃ M', fX11_world_42 f (nI step) (nI st) (nI m) (nI k) M = some (nI (m + (q' 0 - q 0)), M') ∧ pn_LY M' 0 q' l' t r ∧ FrT M M' ∧ (∀ c k, c ≠ 114 → M'.1 c k = M.1 c k)) := by
  have hcl : n 0 * n 1 ≤ 48 := Nat.mul_le_mul ho.1.2 ho.2.1.2
  have h7 := ho.2.2.2.2.2.2.2.1
  have h4 := ho.2.2.2.2.1
  intro d
  induction d with
  | zero =>
    intro f k q l s hd hk hf hok hl hs2
    obtain ⟨f, rfl⟩ : ∃ f', f = f' + 1 := ⟨f - 1, by omega⟩
    refine ⟨q, l, hok, Nat.le_refl _, rfl, rfl, hl, fun M c x4 hC hL hM => ⟨M, ?_, hL, fun _ _ _ => rfl, rfl⟩, fun M c m hC hL hM => ⟨M, ?_, hL, FrT.rf, fun _ _ _ => rfl⟩⟩
    · rw [fX10_world_65, hC.2.1, ea_ck_t (pn_is hC.1), gx_cells hC, ev_ci, if_pos (by rw [pn_leI (by omega) (by omega)]; omega)]
      unfold fX10_world_149
      rw [hL.1.1]
    · rw [fX11_world_42, gy_cells hC, ev_ci, if_pos (by rw [pn_leI (by omega) (by omega)]; omega), Nat.sub_self, Nat.add_zero]
  | succ d ih =>
    intro f k q l s hd hk hf hok hl hs2
    obtain ⟨f, rfl⟩ : ∃ f', f = f' + 1 := ⟨f - 1, by omega⟩
    obtain ⟨x, s1, hx, hs1, dX, dY⟩ := draw_both ho hTh h0 hs2
    have hp : drw s1 (1 + n 7) < 1 + n 7 := Nat.mod_lt _ (by omega)
    have l2 := nxs_lt s1
    generalize hpe : drw s1 (1 + n 7) = p at hp
    have hyr := yrP_le ho (p := p) (by omega)
    -- the two sides
    generalize hA0 : (fun c => sp_col v o w x (sp_hours n v st (k % n 0) (yrP v p) 0) c) = A0
    generalize hA1 : (fun c => sp_col v o w x (sp_hours n v st (k % n 0) (yrP v p) 1) c) = A1
    have b0 : ∀ c, c < 3 → A0 c ≤ 99 := fun c _ => by rw [← hA0]; exact sp_col_le
    have b1 : ∀ c, c < 3 → A1 c ≤ 99 := fun c _ => by rw [← hA1]; exact sp_col_le
    have ok1 := ts_ok hok hs (show k < 48 by omega) (side := 0) (by decide) A0 b0
    have fc1 := ts_fact (q := q) (l := l) (step := step) (row := [step, k, 0, A0 0, A0 1, A0 2, 0]) (show k < n 0 * n 1 by omega) rfl hl
    have tX0 : ∀ M c, pn_C M c n v th o w → pn_LX M 30 q l t r → ∃ M', fX10_tellSide (nI step) (nI k) (nI 0) (nI x) (nI st) (nI (yrP v p)) M = some M' ∧ pn_LX M' 30 (tsq q step) (tsl q l [step, k, 0, A0 0, A0 1, A0 2, 0]) t r ∧ (∀ c k, ¬ (30 ≤ c ∧ c ≤ 33) → M'.1 c k = M.1 c k) ∧ M'.2.2 = M.2.2 ∧ M'.2.1 = M.2.1 := fun M c hC hL => by
      rw [← hA0]
      exact px_tell hC hok hL hst hs (by omega) (by decide) hx hyr
    have tY0 : ∀ M c m (k170 : Int32 → Int32 → Int32 → Int32 → eM → Option (Int32 × eM)) g, pn_C M c n v th o w → pn_LY M 0 q l t r → ∃ M', fX11_world_88 k170 (g + 1) (nI step) (nI st) (nI m) (nI k) (nI x) (nI (yrP v p)) (nI 0) M = fX11_world_88 k170 g (nI step) (nI st) (nI (m + (tsq q step 0 - q 0))) (nI k) (nI x) (nI (yrP v p)) (nI (0 + 1)) M' ∧ pn_LY M' 0 (tsq q step) (tsl q l [step, k, 0, A0 0, A0 1, A0 2, 0]) t r ∧ FrT M M' ∧ (∀ c k, c ≠ 114 → M'.1 c k = M.1 c k) ∧ M'.2.1 = M.2.1 := fun M c m k170 g hC hL => by
      rw [← hA0]
      exact py_tell hC hok hL hst hs (by omega) (by decide) hx hyr k170 g
    generalize tsq q step = q1 at ok1 fc1 tX0 tY0
    generalize tsl q l [step, k, 0, A0 0, A0 1, A0 2, 0] = l1 at ok1 fc1 tX0 tY0
    have ok2 := ts_ok ok1 hs (show k < 48 by omega) (side := 1) (by decide) A1 b1
    have fc2 := ts_fact (q := q1) (l := l1) (step := step) (row := [step, k, 1, A1 0, A1 1, A1 2, 0]) (show k < n 0 * n 1 by omega) rfl fc1.2.2.2
    have tX1 : ∀ M c, pn_C M c n v th o w → pn_LX M 30 q1 l1 t r → ∃ M', fX10_tellSide (nI step) (nI k) (nI 1) (nI x) (nI st) (nI (yrP v p)) M = some M' ∧ pn_LX M' 30 (tsq q1 step) (tsl q1 l1 [step, k, 1, A1 0, A1 1, A1 2, 0]) t r ∧ (∀ c k, ¬ (30 ≤ c ∧ c ≤ 33) → M'.1 c k = M.1 c k) ∧ M'.2.2 = M.2.2 ∧ M'.2.1 = M.2.1 := fun M c hC hL => by
      rw [← hA1]
      exact px_tell hC ok1 hL hst hs (by omega) (by decide) hx hyr
    have tY1 : ∀ M c m (k170 : Int32 → Int32 → Int32 → Int32 → eM → Option (Int32 × eM)) g, pn_C M c n v th o w → pn_LY M 0 q1 l1 t r → ∃ M', fX11_world_88 k170 (g + 1) (nI step) (nI st) (nI m) (nI k) (nI x) (nI (yrP v p)) (nI 1) M = fX11_world_88 k170 g (nI step) (nI st) (nI (m + (tsq q1 step 0 - q1 0))) (nI k) (nI x) (nI (yrP v p)) (nI (1 + 1)) M' ∧ pn_LY M' 0 (tsq q1 step) (tsl q1 l1 [step, k, 1, A1 0, A1 1, A1 2, 0]) t r ∧ FrT M M' ∧ (∀ c k, c ≠ 114 → M'.1 c k = M.1 c k) ∧ M'.2.1 = M.2.1 := fun M c m k170 g hC hL => by
      rw [← hA1]
      exact py_tell hC ok1 hL hst hs (by omega) (by decide) hx hyr k170 g
    generalize tsq q1 step = q2 at ok2 fc2 tX1 tY1
    generalize tsl q1 l1 [step, k, 1, A1 0, A1 1, A1 2, 0] = l2' at ok2 fc2 tX1 tY1
    obtain ⟨q', l', i1, i2, i3, i4, i5, iX, iY⟩ := ih f (k + 1) q2 l2' (nxs s1) (by omega) (by omega) (by omega) ok2 fc2.2.2.2 l2
    refine ⟨q', l', i1, by have := fc1.1; have := fc2.1; omega, i3.trans (fc2.2.1.trans fc1.2.1), i4.trans (fc2.2.2.1.trans fc1.2.2.1), i5, fun M c x4 hC hL hM => ?_, fun M c m hC hL hM => ?_⟩
    · obtain ⟨M1, d1, d2, d3, d4⟩ := dX M c hC hM
      obtain ⟨M2, g1, g2, g3, g4⟩ := px_draw (k := 1 + n 7) d4 hs1 (by omega) (by omega)
      rw [hpe] at g1
      have hC1 := hC.same d2 d3
      have hC2 := hC1.same g2 g3
      obtain ⟨M3, t1, t2, t3, t4, t5⟩ := tX0 M2 c hC2 ((hL.same d2).same g2)
      have hC3 : pn_C M3 c n v th o w := hC2.fr (FrC.ofX t3 t4)
      obtain ⟨M4, u1, u2, u3, u4, u5⟩ := tX1 M3 c hC3 t2
      have hC4 : pn_C M4 c n v th o w := hC3.fr (FrC.ofX u3 u4)
      obtain ⟨M5, w1, w2, w3, w4⟩ := iX M4 c x4 hC4 u2 (by rw [u5, t5]; exact g4)
      refine ⟨M5, ?_, w2, fun c k hk => by rw [w3 c k hk, u3 c k hk, t3 c k hk, g2, d2], w4.trans (u4.trans (t4.trans (g3.trans d3)))⟩
      have x6 : M1.1 c 6 = nI (n 7) := hC1.2.2.2.2.1.1.2.2.2.2.2.2.2.1
      have t1 : fX10_tellSide (nI step) (nI k) 0 (nI x) (nI st) (nI (yrP v p)) M2 = some M3 := t1
      have u1 : fX10_tellSide (nI step) (nI k) 1 (nI x) (nI st) (nI (yrP v p)) M3 = some M4 := u1
      rw [fX10_world_65, hC.2.1, ea_ck_t (pn_is hC.1), gx_cells hC, ev_ci, if_neg (by rw [pn_leI (by omega) (by omega)]; omega), d1, ev_ci, hC1.2.1, ea_ck_t (pn_is hC.1), ea_ck_t (pn_is hC.1), x6, show (1 : Int32) + nI (n 7) = nI (1 + n 7) from nI_add 1 _, g1, ev_ci, px_year hC.1 hC2.2.2.2.2.1 ho (by omega), ev_ci, t1, ev_cv, u1, ev_cv, show nI k + 1 = nI (k + 1) from nI_add k 1]
      exact w1
    · obtain ⟨M1, d1, d2, d3, d4⟩ := dY M c hC hM
      obtain ⟨M2, g1, g2, g3, g4⟩ := py_draw (k := 1 + n 7) d4 hs1 (by omega) (by omega)
      rw [hpe] at g1
      have hC1 := hC.same d2 d3
      have hC2 := hC1.same g2 g3
      obtain ⟨M3, t1, t2, t3, t4, t5⟩ := tY0 M2 c m (fX11_world_170 (fX11_world_42 f)) 99999 hC2 ((hL.same hok d2).same hok g2)
      have hC3 : pn_C M3 c n v th o w := hC2.fr t3.C
      obtain ⟨M4, u1, u2, u3, u4, u5⟩ := tY1 M3 c (m + (q1 0 - q 0)) (fX11_world_170 (fX11_world_42 f)) 99998 hC3 t2
      have hC4 : pn_C M4 c n v th o w := hC3.fr u3.C
      obtain ⟨M5, w1, w2, w3, w4⟩ := iY M4 c (m + (q1 0 - q 0) + (q2 0 - q1 0)) hC4 u2 (by rw [u5, t5]; exact g4)
      have f12 : FrT M M2 := ⟨fun c k _ _ => by rw [g2, d2], g3.trans d3⟩
      refine ⟨M5, ?_, w2, ((f12.trans t3).trans u3).trans w3, fun c k hk => by rw [w4 c k hk, u4 c k hk, t4 c k hk, g2, d2]⟩
      have y7 : M1.1 102 7 = nI (n 7) := hC1.2.2.2.2.2.1.1.2.2.2.2.2.2.2.1
      have y4 : M.1 102 4 = nI (n 4) := hC.2.2.2.2.2.1.1.2.2.2.2.1
      have ec : m + (q1 0 - q 0) + (q2 0 - q1 0) + (q' 0 - q2 0) = m + (q' 0 - q 0) := by
        have := fc1.1
        have := fc2.1
        omega
      rw [ec] at w1
      rw [fX11_world_42, gy_cells hC, ev_ci, if_neg (by rw [pn_leI (by omega) (by omega)]; omega), show (4 : Int32).toNatClampNeg = 4 from rfl, y4, if_neg (by rw [pn_le0 (by omega)]; omega), d1, ev_ci, show (7 : Int32).toNatClampNeg = 7 from rfl, y7, show (1 : Int32) + nI (n 7) = nI (1 + n 7) from nI_add 1 _, g1, ev_ci, py_year hC2.2.2.2.2.2.1 ho (by omega), ev_ci]
      refine (show fX11_world_88 _ ea_N (nI step) (nI st) (nI m) (nI k) (nI x) (nI (yrP v p)) 0 M2 = _ from t1).trans (u1.trans ?_)
      show fX11_world_88 _ (99997 + 1) (nI step) (nI st) _ (nI k) (nI x) (nI (yrP v p)) (nI 2) M4 = _
      rw [fX11_world_88, if_pos (by decide)]
      unfold fX11_world_170
      rw [show nI k + 1 = nI (k + 1) from nI_add k 1]
      exact w1
