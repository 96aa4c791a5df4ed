def pb3 (a b c : Int32) : Int32 := if pb a 0 99 = 0 then 0 else if pb b 0 99 = 0 then 0 else if pb c 0 99 = 0 then 0 else 1
theorem px_cols (a b c : Int32) (M : eM) : fX10_areShades a b c M = some (pb3 a b c, M) := by
  unfold fX10_areShades fX10_areShades_0 pb3
  rw [ea_ci_t (px_in ..)]
  by_cases h1 : pb a 0 99 = 0
  · rw [if_pos h1, if_pos h1]
  · rw [if_neg h1, if_neg h1, ea_ci_t (px_in ..)]
    by_cases h2 : pb b 0 99 = 0
    · rw [if_pos h2, if_pos h2]
    · rw [if_neg h2, if_neg h2, ea_ci_t (px_in ..)]
      by_cases h3 : pb c 0 99 = 0
      · rw [if_pos h3, if_pos h3]
      · rw [if_neg h3, if_neg h3]
theorem py_cols (a b c : Int32) (M : eM) : fX11_areColours a b c M = some (pb3 a b c, M) := px_cols a b c M
theorem pb3_s {a b c : Int32} : pb3 a b c = 0 ∨ (pb3 a b c = 1 ∧ ∃ x y z, x < 100 ∧ y < 100 ∧ z < 100 ∧ a = nI x ∧ b = nI y ∧ c = nI z) := by
  unfold pb3
  rcases pb_01 a 0 (nI 100 - 1) with h1 | h1
  · rw [show pb a 0 99 = 0 from h1]; exact Or.inl rfl
  rcases pb_01 b 0 (nI 100 - 1) with h2 | h2
  · rw [show pb b 0 99 = 0 from h2]
    by_cases e : pb a 0 99 = 0
    · rw [if_pos e]; exact Or.inl rfl
    · rw [if_neg e, if_pos rfl]; exact Or.inl rfl
  rcases pb_01 c 0 (nI 100 - 1) with h3 | h3
  · rw [show pb c 0 99 = 0 from h3, show pb a 0 99 = 1 from h1, show pb b 0 99 = 1 from h2]
    exact Or.inl rfl
  rw [show pb c 0 99 = 1 from h3, show pb a 0 99 = 1 from h1, show pb b 0 99 = 1 from h2]
  obtain ⟨x, hx, rfl⟩ := pb_nat0 (by decide) h1
  obtain ⟨y, hy, rfl⟩ := pb_nat0 (by decide) h2
  obtain ⟨z, hz, rfl⟩ := pb_nat0 (by decide) h3
  exact Or.inr ⟨rfl, x, y, z, hx, hy, hz, rfl, rfl, rfl⟩
theorem gx_tell {M : eM} {q : Nat → Nat} {l t r : Nat → Nat → Nat} (h : pn_LX M 30 q l t r) (x : Int32) : fX10_mayTell x M = some (pb x (nI (q 3)) (nI 1000 - 1), M) := by
  unfold fX10_mayTell fX10_mayTell_0
  rw [h.1.2.2.2, ea_ci_t (px_in ..), ea_ck_t (pb_ok ..)]
  rfl
theorem gy_tell {M : eM} {q : Nat → Nat} {l t r : Nat → Nat → Nat} (h : pn_LY M 0 q l t r) (x : Int32) : fX11_isTelling x M = some (pb x (nI (q 3)) (nI 1000 - 1), M) := by
  have e : M.1 114 (3 : Int32).toNatClampNeg = nI (q 3) := by have := h.1 3 (by decide); rw [Nat.zero_add] at this; exact this
  unfold fX11_isTelling fX11_isTelling_0
  rw [e, ea_ci_t (py_in ..), ea_ck_t (pb_ok ..)]
  rfl
theorem FrC.ofX {M M1 : eM} (h : ∀ c k, ¬ (30 ≤ c ∧ c ≤ 33) → M1.1 c k = M.1 c k) (hr : M1.2.2 = M.2.2) : FrC M M1 := ⟨fun c k hk => h c k (isKC_out hk).1, hr⟩
/-- the common step of look and gone behind the guards -/
theorem st_add {M : eM} (hM : Inv M) {c : Nat} {n : Nat → Nat} {v : Nat → Nat → Nat} {th : Nat} {o w : Nat → Nat} {len : Nat} {q : Nat → Nat} {l t r : Nat → Nat → Nat} (h1 : pn_C M c n v th o w) (h2 : pn_P M len) (h3 : pn_L M n q l t r) (h4 : ∀ j, j < 3 → pn_S M n j) {step cell side g : Nat} {A : Nat → Nat} (hs : q 3 ≤ step ∧ step ≤ 999) (hc : cell < n 0 * n 1) (hsd : side ≤ 1) (hA : ∀ k, k < 3 → A k ≤ 99) (hg : g ≤ 1) (hgA : g = 1 → ∀ k, k < 3 → A k = 0) (hq : q 0 < 90) (x4 x5 x6 : Int32) (e4 : x4 = if g = 1 then -5 else nI (A 0)) (e5 : x5 = if g = 1 then -5 else nI (A 1)) (e6 : x6 = if g = 1 then -5 else nI (A 2)) :
    ∃ M1 M2, fX8_addLook 30 (nI step) (nI cell) (nI side) x4 x5 x6 M = some M1 ∧ M1.1 30 3 = nI (q 0 + 1) ∧ pn_C M1 c n v th o w ∧ pn_LY M1 0 q l t r ∧ fX11_addLook (nI step) (nI cell) (nI side) (nI (A 0)) (nI (A 1)) (nI (A 2)) (nI g) M1 = some (nI (q 0 + 1), M2) ∧ Inv M2 := by
  obtain ⟨hok, hLX, hLY, k1, k2, k3⟩ := id h3
  have ho := h1.2.2.2.1
  have hcl : n 0 * n 1 ≤ 48 := Nat.mul_le_mul ho.1.2 ho.2.1.2
  obtain ⟨M1, r1, x1, f1, y1, g1⟩ := px_addLook hok hLX hq (step := step) (cell := cell) (side := side) x4 x5 x6 e4 e5 e6
  have hLY1 : pn_LY M1 0 q l t r := hLY.fr hok (fun k _ _ => g1 _ _ (by decide))
  obtain ⟨M2, r2, x2, f2, g2⟩ := py_addLook hok hLY1 hq (step := step) (cell := cell) (side := side) (g := g) (A := A)
  refine ⟨M1, M2, r1, y1, h1.fr f1.C, hLY1, r2, Inv_tell (f1.trans f2) h1 h2 h4 (n := n) ⟨ad_ok (n := n) hok hq hs.2 (by omega) hsd hA hg hgA, x1.fr (fun d k hd => g2 _ _ (by omega)), x2, ?_, k2, k3⟩⟩
  intro i hi
  have hi : i < q 0 + 1 := hi
  by_cases hiq : i = q 0
  · subst hiq
    rw [show ad_l l (q 0) [step, cell, side, A 0, A 1, A 2, g] (q 0) 1 = cell from if_pos rfl]
    exact hc
  · rw [show ad_l l (q 0) [step, cell, side, A 0, A 1, A 2, g] i 1 = l i 1 from if_neg hiq]
    exact k1 i (by omega)
theorem st_look (a b d x y z : Int32) : ea_st Inv (fX10_look a b d x y z) (fX11_look a b d x y z) := by
  intro M hM
  obtain ⟨c, n, v, th, o, w, len, q, l, t, r, h1, h2, h3, h4⟩ := id hM
  obtain ⟨hok, hLX, hLY, -⟩ := id h3
  have ho := h1.2.2.2.1
  have hcl : n 0 * n 1 ≤ 48 := Nat.mul_le_mul ho.1.2 ho.2.1.2
  have hq3 := hok.2.2.2.1
  have X : fX10_look a b d x y z M = (if pb a (nI (q 3)) (nI 1000 - 1) = 0 then some (-2, M) else if pb b 0 (nI (n 0 * n 1) - 1) = 0 then some (-2, M) else if pb d 0 (nI 2 - 1) = 0 then some (-2, M) else if pb3 x y z = 0 then some (-2, M) else if nI (q 0) < (90 : Int32) then ea_cv (fX8_addLook 30 a b d x y z M) (fun M19 => some (M19.1 30 3, M19)) else some (-3, M)) := by
    unfold fX10_look fX10_look_0
    rw [ea_ci_t (gx_tell hLX a), ea_ci_t (gx_cell h1 b), ea_ci_t (gx_side d), ea_ci_t (px_cols x y z M), hLX.1.1]
  have Y : ∀ M1, pn_C M1 c n v th o w → pn_LY M1 0 q l t r → fX11_look a b d x y z M1 = (if pb a (nI (q 3)) (nI 1000 - 1) = 0 then some (-2, M1) else if pb b 0 (nI (n 0 * n 1) - 1) = 0 then some (-2, M1) else if pb d 0 (nI 2 - 1) = 0 then some (-2, M1) else if pb3 x y z = 0 then some (-2, M1) else ea_ci (fX11_addLook a b d x y z 0 M1) (fun r18 M19 => some (r18, M19))) := by
    intro M1 hC hL
    unfold fX11_look fX11_look_0
    rw [ea_ci_t (gy_tell hL a), ea_ci_t (gy_cell hC b), ea_ci_t (gy_side d), ea_ci_t (py_cols x y z M1)]
  by_cases c1 : pb a (nI (q 3)) (nI 1000 - 1) = 0
  · exact ⟨-2, M, M, by rw [X, if_pos c1], by rw [Y M h1 hLY, if_pos c1], hM⟩
  by_cases c2 : pb b 0 (nI (n 0 * n 1) - 1) = 0
  · exact ⟨-2, M, M, by rw [X, if_neg c1, if_pos c2], by rw [Y M h1 hLY, if_neg c1, if_pos c2], hM⟩
  by_cases c3 : pb d 0 (nI 2 - 1) = 0
  · exact ⟨-2, M, M, by rw [X, if_neg c1, if_neg c2, if_pos c3], by rw [Y M h1 hLY, if_neg c1, if_neg c2, if_pos c3], hM⟩
  by_cases c4 : pb3 x y z = 0
  · exact ⟨-2, M, M, by rw [X, if_neg c1, if_neg c2, if_neg c3, if_pos c4], by rw [Y M h1 hLY, if_neg c1, if_neg c2, if_neg c3, if_pos c4], hM⟩
  obtain ⟨step, s1, s2, ea⟩ := pb_nat (by omega) (by decide) ((pb_01 _ _ _).resolve_left c1)
  obtain ⟨cell, hcell, eb⟩ := pb_nat0 (by omega) ((pb_01 _ _ _).resolve_left c2)
  obtain ⟨sd, hsd, ed⟩ := pb_nat0 (by decide) ((pb_01 _ _ _).resolve_left c3)
  obtain ⟨-, ca, cb, cc, ha, hb, hc, ex, ey, ez⟩ := (pb3_s (a := x) (b := y) (c := z)).resolve_left c4
  have e90 : (nI (q 0) < (90 : Int32)) ↔ q 0 < 90 := nI_ltI (b := 90) (by have := hok.1; omega) (by decide)
  by_cases hq : q 0 < 90
  · obtain ⟨M1, M2, r1, y1, hC1, hL1, r2, hI⟩ := st_add hM h1 h2 h3 h4 (step := step) (cell := cell) (side := sd) (g := 0) (A := fun k => [ca, cb, cc].getD k 0) ⟨s1, by omega⟩ hcell (by omega) (fun k hk => by rcases (show k = 0 ∨ k = 1 ∨ k = 2 by omega) with rfl | rfl | rfl <;> first | exact Nat.le_of_lt_succ ha | exact Nat.le_of_lt_succ hb | exact Nat.le_of_lt_succ hc) (by decide) (fun h => absurd h (by decide)) hq x y z (by rw [ex]; rfl) (by rw [ey]; rfl) (by rw [ez]; rfl)
    refine ⟨nI (q 0 + 1), M1, M2, ?_, ?_, hI⟩
    · rw [X, if_neg c1, if_neg c2, if_neg c3, if_neg c4, if_pos (e90.mpr hq), ea, eb, ed, ea_cv_t r1, y1]
    · rw [Y M1 hC1 hL1, if_neg c1, if_neg c2, if_neg c3, if_neg c4, ea, eb, ed, ex, ey, ez]
      exact ea_ci_t r2
  · have hq90 : q 0 = 90 := by have := hok.1; omega
    refine ⟨-3, M, M, by rw [X, if_neg c1, if_neg c2, if_neg c3, if_neg c4, if_neg (fun h => hq (e90.mp h))], ?_, hM⟩
    rw [Y M h1 hLY, if_neg c1, if_neg c2, if_neg c3, if_neg c4]
    have e0 : M.1 114 (0 : Int32).toNatClampNeg = nI 90 := by have := hLY.1 0 (by decide); rw [Nat.zero_add, hq90] at this; exact this
    have : fX11_addLook a b d x y z 0 M = some (-3, M) := by
      unfold fX11_addLook fX11_addLook_0
      rw [e0, ea_lt_t, if_pos (show nI 90 = (90 : Int32) from rfl)]
    rw [ea_ci_t this]
theorem st_gone (a b d : Int32) : ea_st Inv (fX10_gone a b d) (fX11_gone a b d) := by
  intro M hM
  obtain ⟨c, n, v, th, o, w, len, q, l, t, r, h1, h2, h3, h4⟩ := id hM
  obtain ⟨hok, hLX, hLY, -⟩ := id h3
  have ho := h1.2.2.2.1
  have hcl : n 0 * n 1 ≤ 48 := Nat.mul_le_mul ho.1.2 ho.2.1.2
  have hq3 := hok.2.2.2.1
  have X : fX10_gone a b d M = (if pb a (nI (q 3)) (nI 1000 - 1) = 0 then some (-2, M) else if pb b 0 (nI (n 0 * n 1) - 1) = 0 then some (-2, M) else if pb d 0 (nI 2 - 1) = 0 then some (-2, M) else if nI (q 0) < (90 : Int32) then ea_cv (fX8_addLook 30 a b d (-5) (-5) (-5) M) (fun M15 => some (M15.1 30 3, M15)) else some (-3, M)) := by
    unfold fX10_gone fX10_gone_0
    rw [ea_ci_t (gx_tell hLX a), ea_ci_t (gx_cell h1 b), ea_ci_t (gx_side d), hLX.1.1]
  have Y : ∀ M1, pn_C M1 c n v th o w → pn_LY M1 0 q l t r → fX11_gone a b d M1 = (if pb a (nI (q 3)) (nI 1000 - 1) = 0 then some (-2, M1) else if pb b 0 (nI (n 0 * n 1) - 1) = 0 then some (-2, M1) else if pb d 0 (nI 2 - 1) = 0 then some (-2, M1) else ea_ci (fX11_addLook a b d 0 0 0 1 M1) (fun r18 M19 => some (r18, M19))) := by
    intro M1 hC hL
    unfold fX11_gone fX11_gone_0
    rw [ea_ci_t (gy_tell hL a), ea_ci_t (gy_cell hC b), ea_ci_t (gy_side d)]
  by_cases c1 : pb a (nI (q 3)) (nI 1000 - 1) = 0
  · exact ⟨-2, M, M, by rw [X, if_pos c1], by rw [Y M h1 hLY, if_pos c1], hM⟩
  by_cases c2 : pb b 0 (nI (n 0 * n 1) - 1) = 0
  · exact ⟨-2, M, M, by rw [X, if_neg c1, if_pos c2], by rw [Y M h1 hLY, if_neg c1, if_pos c2], hM⟩
  by_cases c3 : pb d 0 (nI 2 - 1) = 0
  · exact ⟨-2, M, M, by rw [X, if_neg c1, if_neg c2, if_pos c3], by rw [Y M h1 hLY, if_neg c1, if_neg c2, if_pos c3], hM⟩
  obtain ⟨step, s1, s2, ea⟩ := pb_nat (by omega) (by decide) ((pb_01 _ _ _).resolve_left c1)
  obtain ⟨cell, hcell, eb⟩ := pb_nat0 (by omega) ((pb_01 _ _ _).resolve_left c2)
  obtain ⟨sd, hsd, ed⟩ := pb_nat0 (by decide) ((pb_01 _ _ _).resolve_left c3)
  have e90 : (nI (q 0) < (90 : Int32)) ↔ q 0 < 90 := nI_ltI (b := 90) (by have := hok.1; omega) (by decide)
  by_cases hq : q 0 < 90
  · obtain ⟨M1, M2, r1, y1, hC1, hL1, r2, hI⟩ := st_add hM h1 h2 h3 h4 (step := step) (cell := cell) (side := sd) (g := 1) (A := fun _ => 0) ⟨s1, by omega⟩ hcell (by omega) (fun k _ => by decide) (by decide) (fun _ _ _ => rfl) hq (-5) (-5) (-5) rfl rfl rfl
    refine ⟨nI (q 0 + 1), M1, M2, ?_, ?_, hI⟩
    · rw [X, if_neg c1, if_neg c2, if_neg c3, if_pos (e90.mpr hq), ea, eb, ed, ea_cv_t r1, y1]
    · rw [Y M1 hC1 hL1, if_neg c1, if_neg c2, if_neg c3, ea, eb, ed]
      exact ea_ci_t r2
  · have hq90 : q 0 = 90 := by have := hok.1; omega
    refine ⟨-3, M, M, by rw [X, if_neg c1, if_neg c2, if_neg c3, if_neg (fun h => hq (e90.mp h))], ?_, hM⟩
    rw [Y M h1 hLY, if_neg c1, if_neg c2, if_neg c3]
    have e0 : M.1 114 (0 : Int32).toNatClampNeg = nI 90 := by have := hLY.1 0 (by decide); rw [Nat.zero_add, hq90] at this; exact this
    have : fX11_addLook a b d 0 0 0 1 M = some (-3, M) := by
      unfold fX11_addLook fX11_addLook_0
      rw [e0, ea_lt_t, if_pos (show nI 90 = (90 : Int32) from rfl)]
    rw [ea_ci_t this]
