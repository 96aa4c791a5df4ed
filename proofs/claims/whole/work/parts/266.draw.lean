theorem pl_add {x y : Int64} {a b : Int} (hx : x.toInt = a) (hy : y.toInt = b) (h1 : -9223372036854775808 ≤ a + b) (h2 : a + b < 9223372036854775808) : (x + y).toInt = a + b := by
  rw [Int64.toInt_add, hx, hy]
  exact Int.bmod_eq_of_le (by omega) (by omega)
theorem pl_sub {x y : Int64} {a b : Int} (hx : x.toInt = a) (hy : y.toInt = b) (h1 : -9223372036854775808 ≤ a - b) (h2 : a - b < 9223372036854775808) : (x - y).toInt = a - b := by
  rw [Int64.toInt_sub, hx, hy]
  exact Int.bmod_eq_of_le (by omega) (by omega)
theorem pl_mul {x y : Int64} {a b : Int} (hx : x.toInt = a) (hy : y.toInt = b) (h1 : -9223372036854775808 ≤ a * b) (h2 : a * b < 9223372036854775808) : (x * y).toInt = a * b := by
  rw [Int64.toInt_mul, hx, hy]
  exact Int.bmod_eq_of_le (by omega) (by omega)
theorem pl_div {x y : Int64} {a b : Int} (hx : x.toInt = a) (hy : y.toInt = b) (h1 : -9223372036854775808 ≤ a.tdiv b) (h2 : a.tdiv b < 9223372036854775808) : (x / y).toInt = a.tdiv b := by
  rw [Int64.toInt_div, hx, hy]
  exact Int.bmod_eq_of_le (by omega) (by omega)
def nxs (s : Nat) : Nat := (1103515245 * s + 12345) % 2147483648
def drw (s k : Nat) : Nat := nxs s / 65536 % k
theorem nxs_lt (s : Nat) : nxs s < 2147483648 := Nat.mod_lt _ (by decide)
theorem pl_nx {X : Int64} {s : Nat} (hX : X.toInt = (s : Int)) (hs : s < 2147483648) : (((1103515245 : Int64) * X + (12345 : Int64)) - ((1103515245 : Int64) * X + (12345 : Int64)) / (2147483648 : Int64) * (2147483648 : Int64)).toInt = (nxs s : Int) := by
  have c1 : (1103515245 : Int64).toInt = 1103515245 := by decide
  have c2 : (12345 : Int64).toInt = 12345 := by decide
  have c3 : (2147483648 : Int64).toInt = 2147483648 := by decide
  have m1 := pl_mul c1 hX (by omega) (by omega)
  have a1 := pl_add m1 c2 (by omega) (by omega)
  have t1 : (1103515245 * (s : Int) + 12345).tdiv 2147483648 = (1103515245 * (s : Int) + 12345) / 2147483648 := Int.tdiv_eq_ediv_of_nonneg (by omega)
  have d1 := pl_div a1 c3 (by rw [t1]; omega) (by rw [t1]; omega)
  rw [t1] at d1
  have m2 := pl_mul d1 c3 (by omega) (by omega)
  have s1 := pl_sub a1 m2 (by omega) (by omega)
  rw [s1]
  unfold nxs
  omega
theorem pl_dr {Y : Int64} {s k : Nat} (hY : Y.toInt = (s : Int)) (hs : s < 2147483648) (h0 : 0 < k) (hk : k < 2147483648) : ((Y / (65536 : Int64)) - (Y / (65536 : Int64)) / (nI k).toInt64 * (nI k).toInt64).toInt32 = nI (s / 65536 % k) := by
  have c3 : (65536 : Int64).toInt = 65536 := by decide
  have ck : ((nI k).toInt64).toInt = (k : Int) := by rw [Int32.toInt_toInt64, nI_toInt hk]
  have t1 : (s : Int).tdiv 65536 = ((s / 65536 : Nat) : Int) := by rw [Int.tdiv_eq_ediv_of_nonneg (by omega)]; omega
  have d1 := pl_div hY c3 (by rw [t1]; omega) (by rw [t1]; omega)
  rw [t1] at d1
  generalize hz : s / 65536 = z at d1
  have hzl : z < 32768 := by omega
  have t2 : ((z : Nat) : Int).tdiv (k : Int) = ((z / k : Nat) : Int) := by rw [Int.tdiv_eq_ediv_of_nonneg (Int.natCast_nonneg _)]; rfl
  have hzk : z / k ≤ z := Nat.div_le_self _ _
  have hmul : z / k * k ≤ z := Nat.div_mul_le_self z k
  have hmod : z % k = z - z / k * k := by
    have := Nat.div_add_mod z k
    rw [Nat.mul_comm] at this
    omega
  have hml : z % k ≤ z := Nat.mod_le z k
  generalize z / k = y at t2 hzk hmul hmod
  generalize z % k = m at hmod hml
  have d2 := pl_div d1 ck (by rw [t2]; omega) (by rw [t2]; omega)
  rw [t2] at d2
  have ep : ((y : Nat) : Int) * ((k : Nat) : Int) = ((y * k : Nat) : Int) := (Int.natCast_mul y k).symm
  generalize y * k = p at ep hmul hmod
  have m2 := pl_mul d2 ck (by rw [ep]; omega) (by rw [ep]; omega)
  rw [ep] at m2
  have s1 := pl_sub d1 m2 (by omega) (by omega)
  apply pz_nI (by omega)
  rw [Int64.toInt_toInt32, s1]
  have e : ((z : Nat) : Int) - ((p : Nat) : Int) = ((m : Nat) : Int) := by omega
  rw [e]
  exact Int.bmod_eq_of_le (by omega) (by omega)
theorem ev_pL {M : eM} {c k : Nat} {x : Int64} : (ea_pL M c k x).2.1 c k = x := by
  show (if c = c then vp_updL (M.2.1 c) k x else M.2.1 c) k = x
  rw [if_pos rfl]
  unfold vp_updL
  simp
theorem px_draw {M : eM} {s k : Nat} (hs : (M.2.1 78 0).toInt = (s : Int)) (hl : s < 2147483648) (h0 : 0 < k) (hk : k < 2147483648) : ∃ M', fX0_draw (nI k) M = some (nI (drw s k), M') ∧ M'.1 = M.1 ∧ M'.2.2 = M.2.2 ∧ (M'.2.1 78 0).toInt = (nxs s : Int) := by
  have nx := pl_nx hs hl
  have dr := pl_dr (k := k) nx (nxs_lt s) h0 hk
  have hz : ea_nzL (nI k).toInt64 = true := by
    unfold ea_nzL
    refine decide_eq_true (fun e => ?_)
    have ck : ((nI k).toInt64).toInt = (k : Int) := by rw [Int32.toInt_toInt64, nI_toInt hk]
    rw [e] at ck
    have : (0 : Int64).toInt = 0 := by decide
    omega
  refine ⟨ea_pL M 78 0 (((1103515245 : Int64) * M.2.1 78 0 + (12345 : Int64)) - ((1103515245 : Int64) * M.2.1 78 0 + (12345 : Int64)) / (2147483648 : Int64) * (2147483648 : Int64)), ?_, rfl, rfl, by rw [ev_pL]; exact nx⟩
  unfold fX0_draw fX0_draw_0
  rw [if_neg (by rw [pn_le0 hk]; omega), ea_ck_t hz, ev_pL, dr]
  rfl
theorem py_draw {M : eM} {s k : Nat} (hs : (M.2.1 100 47).toInt = (s : Int)) (hl : s < 2147483648) (h0 : 0 < k) (hk : k < 2147483648) : ∃ M', fX11_draw (nI k) M = some (nI (drw s k), M') ∧ M'.1 = M.1 ∧ M'.2.2 = M.2.2 ∧ (M'.2.1 100 47).toInt = (nxs s : Int) := by
  have nx := pl_nx hs hl
  have dr := pl_dr (k := k) nx (nxs_lt s) h0 hk
  have hz : ea_nzL (nI k).toInt64 = true := by
    unfold ea_nzL
    refine decide_eq_true (fun e => ?_)
    have ck : ((nI k).toInt64).toInt = (k : Int) := by rw [Int32.toInt_toInt64, nI_toInt hk]
    rw [e] at ck
    have : (0 : Int64).toInt = 0 := by decide
    omega
  refine ⟨ea_pL M 100 47 (((1103515245 : Int64) * M.2.1 100 47 + (12345 : Int64)) - ((1103515245 : Int64) * M.2.1 100 47 + (12345 : Int64)) / (2147483648 : Int64) * (2147483648 : Int64)), ?_, rfl, rfl, by rw [ev_pL]; exact nx⟩
  unfold fX11_draw fX11_draw_0
  rw [ea_ck_t hz, ev_pL, dr]
  rfl
theorem pn_C.same {M M' : eM} {c : Nat} {n : Nat → Nat} {v : Nat → Nat → Nat} {th : Nat} {o w : Nat → Nat} (h : pn_C M c n v th o w) (h1 : M'.1 = M.1) (h2 : M'.2.2 = M.2.2) : pn_C M' c n v th o w := h.fr ⟨fun _ _ _ => by rw [h1], h2⟩
/-- a THREAD by its rows -/
def tho (o w : Nat → Nat) (x y t : Nat) : Bool := decide (o t = x) && decide (w t = y)
section DT
variable {c th : Nat} {n : Nat → Nat} {v : Nat → Nat → Nat} {o w : Nat → Nat}
theorem px_tho {M : eM} (h : pn_C M c n v th o w) {x y : Nat} (hx : x < 1000) (hy : y < 1000) : fX9_numberOf (nI x) (nI y) M = some (enc2 (fdr (tho o w x y) 0 th), M) := by
  have hTh := h.2.2.2.2.2.2.1
  have hth := hTh.1.1
  have hTX := h.2.2.2.2.2.2.2.1
  have h4 := h.2.2.2.1.2.2.2.2.1
  rw [px_num hth hTX.1, fdr_congr (p' := tho o w x y) (fun t _ h2 => ?_)]
  obtain ⟨e5, e6⟩ := hTX.2 t (by omega)
  obtain ⟨ox, wx⟩ := hTh.1.2 t (by omega)
  unfold np tho
  rw [e5, e6, decide_eq_decide.mpr (nI_eq (show o t < 2 ^ 31 by omega) (show x < 2 ^ 31 by omega)), decide_eq_decide.mpr (nI_eq (show w t < 2 ^ 31 by omega) (show y < 2 ^ 31 by omega))]
theorem np_tho {M : eM} (h : pn_C M c n v th o w) {x y : Nat} (hx : x < 1000) (hy : y < 1000) : fdr (np M (nI x) (nI y)) 0 th = fdr (tho o w x y) 0 th := by
  have hTh := h.2.2.2.2.2.2.1
  have hTX := h.2.2.2.2.2.2.2.1
  have h4 := h.2.2.2.1.2.2.2.2.1
  refine fdr_congr (fun t _ h2 => ?_)
  obtain ⟨e5, e6⟩ := hTX.2 t (by omega)
  obtain ⟨ox, wx⟩ := hTh.1.2 t (by omega)
  unfold np tho
  rw [e5, e6, decide_eq_decide.mpr (nI_eq (show o t < 2 ^ 31 by omega) (show x < 2 ^ 31 by omega)), decide_eq_decide.mpr (nI_eq (show w t < 2 ^ 31 by omega) (show y < 2 ^ 31 by omega))]
theorem py_one {M : eM} (h : pn_C M c n v th o w) {f a : Nat} (hf : f < n 4) (ha : 1 ≤ a ∧ a ≤ 9) (x4 : Int32) : fX11_thread (nI f) (nI a) (-1) x4 M = some (enc2 (fdr (tho o w (9 * f + a - 1) 45) 0 th), M) := by
  have h4 := h.2.2.2.1.2.2.2.2.1
  rw [py_thr h.2.2.2.2.2.2.1.1.1 h.2.2.2.2.2.2.2.2.1, fdr_congr (fun t _ h2 => tp_one h hf ha x4 t (by omega)), np_tho h (by omega) (by omega)]
theorem py_two {M : eM} (h : pn_C M c n v th o w) {f a g b : Nat} (hf : f < n 4) (ha : 1 ≤ a ∧ a ≤ 9) (hg : g < n 4) (hb : 1 ≤ b ∧ b ≤ 9) : fX11_thread (nI f) (nI a) (nI g) (nI b) M = some (enc2 (fdr (tho o w (9 * f + a - 1) (9 * g + b - 1)) 0 th), M) := by
  have h4 := h.2.2.2.1.2.2.2.2.1
  rw [py_thr h.2.2.2.2.2.2.1.1.1 h.2.2.2.2.2.2.2.2.1, fdr_congr (fun t _ h2 => tp_two h hf ha hg hb t (by omega)), np_tho h (by omega) (by omega)]
theorem tho_ex {x y t : Nat} (ht : t < th) (h1 : o t = x) (h2 : w t = y) : ∃ t', t' < th ∧ fdr (tho o w x y) 0 th = some t' := by
  obtain ⟨t', e⟩ := fdr_ex (p := tho o w x y) (j := 0) (m := th) (i := t) (Nat.zero_le _) (by omega) (by unfold tho; rw [decide_eq_true h1, decide_eq_true h2]; rfl)
  have := fdr_some e
  exact ⟨t', by omega, e⟩
/-- a THREAD drawn, on both sides -/
theorem draw_both (ho : pn_ok n v) (hTh : pn_Th n th o w) (h0 : 0 < n 4) {s : Nat} (hs : s < 2147483648) : ∃ (t s' : Nat), t < th ∧ s' < 2147483648 ∧ (∀ M c, pn_C M c n v th o w → (M.2.1 78 0).toInt = (s : Int) → ∃ M', fX10_drawThread M = some (nI t, M') ∧ M'.1 = M.1 ∧ M'.2.2 = M.2.2 ∧ (M'.2.1 78 0).toInt = (s' : Int)) ∧ (∀ M c, pn_C M c n v th o w → (M.2.1 100 47).toInt = (s : Int) → ∃ M', fX11_drawThread M = some (nI t, M') ∧ M'.1 = M.1 ∧ M'.2.2 = M.2.2 ∧ (M'.2.1 100 47).toInt = (s' : Int)) := by
  have h4 := ho.2.2.2.2.1
  have h3 := ho.2.2.2.1
  have f1 : drw s (n 4) < n 4 := Nat.mod_lt _ h0
  have a1 : drw (nxs s) 9 < 9 := Nat.mod_lt _ (by decide)
  have l1 := nxs_lt s
  have l2 := nxs_lt (nxs s)
  have l3 := nxs_lt (nxs (nxs s))
  have d3 : drw (nxs (nxs s)) 3 < 3 := Nat.mod_lt _ (by decide)
  generalize hf : drw s (n 4) = f at f1
  generalize ha : drw (nxs s) 9 = a at a1
  generalize hd : drw (nxs (nxs s)) 3 = d at d3
  -- the first three draws on each side
  have X3 : ∀ M c, pn_C M c n v th o w → (M.2.1 78 0).toInt = (s : Int) → ∃ M', M'.1 = M.1 ∧ M'.2.2 = M.2.2 ∧ (M'.2.1 78 0).toInt = (nxs (nxs (nxs s)) : Int) ∧ fX10_drawThread M = (if nI d = 0 then (if (nI (n 4)) ≤ (1 : Int32) then (fX10_drawThread_70 (nI (n 4)) (nI f) (nI (9 * f + (a + 1) - 1)) M') else (if nI (n 3) = (2 : Int32) then (fX10_drawThread_71 (nI (n 4)) (nI f) (nI (9 * f + (a + 1) - 1)) (1 : Int32) M') else (fX10_drawThread_70 (nI (n 4)) (nI f) (nI (9 * f + (a + 1) - 1)) M'))) else (fX10_drawThread_70 (nI (n 4)) (nI f) (nI (9 * f + (a + 1) - 1)) M')) := by
    intro M c hC hM
    obtain ⟨M1, p1, p2, p3, p4⟩ := px_draw hM hs h0 (by omega)
    obtain ⟨M2, q1, q2, q3, q4⟩ := px_draw (k := 9) p4 l1 (by decide) (by decide)
    obtain ⟨M3, r1, r2, r3, r4⟩ := px_draw (k := 3) q4 l2 (by decide) (by decide)
    rw [hf] at p1
    rw [ha] at q1
    rw [hd] at r1
    have q1 : fX0_draw 9 M1 = _ := q1
    have r1 : fX0_draw 3 M2 = _ := r1
    have e3 : M3.2.2 = M.2.2 := r3.trans (q3.trans p3)
    have e1 : M3.1 = M.1 := r2.trans (q2.trans p2)
    refine ⟨M3, e1, e3, r4, ?_⟩
    have rw1 := px_row (M := M2) (f := f) (a := a + 1) (by omega)
    have x8 := hC.2.2.2.2.1.1.2.2.2.2.1
    have x3 : M3.1 c 3 = nI (n 3) := by rw [e1]; exact hC.2.2.2.2.1.1.2.2.2.1
    unfold fX10_drawThread fX10_drawThread_0
    rw [hC.2.1, ea_ck_t (pn_is hC.1), x8, p1, ev_ci, q1, ev_ci, show nI a + 1 = nI (a + 1) from nI_add a 1, rw1, ev_ci, r1, ev_ci, e3, hC.2.1, ea_ck_t (pn_is hC.1), x3]
  have Y3 : ∀ M c, pn_C M c n v th o w → (M.2.1 100 47).toInt = (s : Int) → ∃ M', M'.1 = M.1 ∧ M'.2.2 = M.2.2 ∧ (M'.2.1 100 47).toInt = (nxs (nxs (nxs s)) : Int) ∧ fX11_drawThread M = (if nI d = 0 then (if (nI (n 4)) < (2 : Int32) then (fX11_drawThread_48 (nI f) (nI (1 + a)) M') else (if (2 : Int32) ≤ nI (n 3) then (ea_ci (fX11_draw (nI (n 4) - (1 : Int32)) M') (fun r14 M15 => if r14 < nI f then (fX11_drawThread_82 (nI f) (nI (1 + a)) r14 M15) else (fX11_drawThread_82 (nI f) (nI (1 + a)) (r14 + (1 : Int32)) M15))) else (fX11_drawThread_48 (nI f) (nI (1 + a)) M'))) else (fX11_drawThread_48 (nI f) (nI (1 + a)) M')) := by
    intro M c hC hM
    have y4 := hC.2.2.2.2.2.1.1.2.2.2.2.1
    have y3 := hC.2.2.2.2.2.1.1.2.2.2.1
    obtain ⟨M1, p1, p2, p3, p4⟩ := py_draw hM hs h0 (by omega)
    obtain ⟨M2, q1, q2, q3, q4⟩ := py_draw (k := 9) p4 l1 (by decide) (by decide)
    obtain ⟨M3, r1, r2, r3, r4⟩ := py_draw (k := 3) q4 l2 (by decide) (by decide)
    rw [hf] at p1
    rw [ha] at q1
    rw [hd] at r1
    have q1 : fX11_draw 9 M1 = _ := q1
    have r1 : fX11_draw 3 M2 = _ := r1
    have e3 : M3.2.2 = M.2.2 := r3.trans (q3.trans p3)
    have e1 : M3.1 = M.1 := r2.trans (q2.trans p2)
    refine ⟨M3, e1, e3, r4, ?_⟩
    unfold fX11_drawThread fX11_drawThread_0
    rw [show (4 : Int32).toNatClampNeg = 4 from rfl, show (3 : Int32).toNatClampNeg = 3 from rfl, y4, p1, ev_ci, q1, ev_ci, r1, ev_ci, e1, y4, y3, show (1 : Int32) + nI a = nI (1 + a) from nI_add 1 a]
  have one : (¬ (d = 0 ∧ 2 ≤ n 4 ∧ n 3 = 2)) → ∃ (t s' : Nat), t < th ∧ s' < 2147483648 ∧ (∀ M c, pn_C M c n v th o w → (M.2.1 78 0).toInt = (s : Int) → ∃ M', fX10_drawThread M = some (nI t, M') ∧ M'.1 = M.1 ∧ M'.2.2 = M.2.2 ∧ (M'.2.1 78 0).toInt = (s' : Int)) ∧ (∀ M c, pn_C M c n v th o w → (M.2.1 100 47).toInt = (s : Int) → ∃ M', fX11_drawThread M = some (nI t, M') ∧ M'.1 = M.1 ∧ M'.2.2 = M.2.2 ∧ (M'.2.1 100 47).toInt = (s' : Int)) := by
    intro hno
    obtain ⟨t0, g1, g2, g3⟩ := hTh.2.2.2.2.1 (9 * f + (a + 1) - 1) (by omega)
    obtain ⟨t, ht, et⟩ := tho_ex (o := o) (w := w) g1 g2 g3
    refine ⟨t, nxs (nxs (nxs s)), ht, l3, fun M c hC hM => ?_, fun M c hC hM => ?_⟩
    · obtain ⟨M', m1, m2, m3, m4⟩ := X3 M c hC hM
      refine ⟨M', ?_, m1, m2, m3⟩
      have fin : fX10_drawThread_70 (nI (n 4)) (nI f) (nI (9 * f + (a + 1) - 1)) M' = some (nI t, M') := by
        have pt := px_tho (hC.same m1 m2) (x := 9 * f + (a + 1) - 1) (y := 45) (by omega) (by omega)
        rw [et] at pt
        have pt : fX9_numberOf (nI (9 * f + (a + 1) - 1)) 45 M' = some (nI t, M') := pt
        unfold fX10_drawThread_70 fX10_drawThread_71
        rw [if_pos rfl, pt, ev_ci]
      rw [m4, fin]
      by_cases q1 : d = 0
      · rw [if_pos (by rw [q1]; rfl)]
        by_cases q2 : 2 ≤ n 4
        · rw [if_neg (by rw [show (1 : Int32) = nI 1 from rfl, pn_leI (by omega) (by omega)]; omega), if_neg (by rw [show (2 : Int32) = nI 2 from rfl, pn_eqI (by omega) (by omega)]; exact fun q3 => hno ⟨q1, q2, q3⟩)]
        · rw [if_pos (by rw [show (1 : Int32) = nI 1 from rfl, pn_leI (by omega) (by omega)]; omega)]
      · rw [if_neg (by rw [pn_eq0 (by omega)]; exact q1)]
    · obtain ⟨M', m1, m2, m3, m4⟩ := Y3 M c hC hM
      refine ⟨M', ?_, m1, m2, m3⟩
      have fin : fX11_drawThread_48 (nI f) (nI (1 + a)) M' = some (nI t, M') := by
        have pt := py_one (hC.same m1 m2) f1 (a := 1 + a) ⟨by omega, by omega⟩ 0
        rw [show 9 * f + (1 + a) - 1 = 9 * f + (a + 1) - 1 by omega, et] at pt
        unfold fX11_drawThread_48
        rw [pt, ev_ci]
        rfl
      rw [m4, fin]
      by_cases q1 : d = 0
      · rw [if_pos (by rw [q1]; rfl)]
        by_cases q2 : 2 ≤ n 4
        · rw [if_neg (by rw [show (2 : Int32) = nI 2 from rfl, pn_ltI (by omega) (by omega)]; omega), if_neg (by rw [show (2 : Int32) = nI 2 from rfl, pn_leI (by omega) (by omega)]; exact fun q3 => hno ⟨q1, q2, by omega⟩)]
        · rw [if_pos (by rw [show (2 : Int32) = nI 2 from rfl, pn_ltI (by omega) (by omega)]; omega)]
      · rw [if_neg (by rw [pn_eq0 (by omega)]; exact q1)]
  by_cases two : d = 0 ∧ 2 ≤ n 4 ∧ n 3 = 2
  · obtain ⟨e1, e2, e3⟩ := two
    have l4 := nxs_lt (nxs (nxs (nxs s)))
    have l5 := nxs_lt (nxs (nxs (nxs (nxs s))))
    have g1 : drw (nxs (nxs (nxs s))) (n 4 - 1) < n 4 - 1 := Nat.mod_lt _ (by omega)
    have b1 : drw (nxs (nxs (nxs (nxs s)))) 9 < 9 := Nat.mod_lt _ (by decide)
    generalize hg : drw (nxs (nxs (nxs s))) (n 4 - 1) = g0 at g1
    generalize hb : drw (nxs (nxs (nxs (nxs s)))) 9 = b at b1
    -- the second STUFF
    generalize hgg : (if g0 < f then g0 else g0 + 1) = g
    have hgn : g < n 4 ∧ g ≠ f ∧ (g0 < f → g = g0) ∧ (¬ g0 < f → g = g0 + 1) := by
      rw [← hgg]
      by_cases q : g0 < f
      · rw [if_pos q]; exact ⟨by omega, by omega, fun _ => rfl, fun z => absurd q z⟩
      · rw [if_neg q]; exact ⟨by omega, by omega, fun z => absurd z q, fun _ => rfl⟩
    obtain ⟨x, y, hxy1, hxy2, hy⟩ : ∃ x y, (f < g → x = 9 * f + (a + 1) - 1 ∧ y = 9 * g + (b + 1) - 1) ∧ (¬ f < g → x = 9 * g + (b + 1) - 1 ∧ y = 9 * f + (a + 1) - 1) ∧ y < 9 * n 4 ∧ x / 9 < y / 9 := by
      by_cases q : f < g
      · exact ⟨9 * f + (a + 1) - 1, 9 * g + (b + 1) - 1, fun _ => ⟨rfl, rfl⟩, fun z => absurd q z, by omega, by omega⟩
      · exact ⟨9 * g + (b + 1) - 1, 9 * f + (a + 1) - 1, fun z => absurd z q, fun _ => ⟨rfl, rfl⟩, by omega, by omega⟩
    obtain ⟨t0, k1, k2, k3⟩ := hTh.2.2.2.2.2 e3 x y hy.1 hy.2
    obtain ⟨t, ht, et⟩ := tho_ex (o := o) (w := w) k1 k2 k3
    refine ⟨t, nxs (nxs (nxs (nxs (nxs s)))), ht, l5, fun M c hC hM => ?_, fun M c hC hM => ?_⟩
    · obtain ⟨M', m1, m2, m3, m4⟩ := X3 M c hC hM
      obtain ⟨M4, p1, p2, p3, p4⟩ := px_draw (k := n 4 - 1) m3 l3 (by omega) (by omega)
      obtain ⟨M5, r1, r2, r3, r4⟩ := px_draw (k := 9) p4 l4 (by decide) (by decide)
      rw [hg] at p1
      rw [hb] at r1
      have r1 : fX0_draw 9 M4 = _ := r1
      refine ⟨M5, ?_, r2.trans (p2.trans m1), r3.trans (p3.trans m2), r4⟩
      have hC5 := hC.same (r2.trans (p2.trans m1)) (r3.trans (p3.trans m2))
      have pt := px_tho hC5 (x := x) (y := y) (by omega) (by omega)
      rw [et] at pt
      have pt : fX9_numberOf (nI x) (nI y) M5 = some (nI t, M5) := pt
      have rw1 := px_row (M := M5) (f := g) (a := b + 1) (by omega)
      have mm : ea_min (nI (9 * f + (a + 1) - 1)) (nI (9 * g + (b + 1) - 1)) = nI x ∧ ea_max (nI (9 * f + (a + 1) - 1)) (nI (9 * g + (b + 1) - 1)) = nI y := by
        rw [ev_min (by omega) (by omega), ev_max (by omega) (by omega)]
        by_cases q : f < g
        · obtain ⟨z1, z2⟩ := hxy1 q
          rw [if_pos (by omega), if_neg (by omega), z1, z2]
          exact ⟨rfl, rfl⟩
        · obtain ⟨z1, z2⟩ := hxy2 q
          rw [if_neg (by omega), if_pos (by omega), z1, z2]
          exact ⟨rfl, rfl⟩
      have fin : ∀ t0 t1 : Int32, t1 + t0 = nI g → fX10_drawThread_114 (nI (9 * f + (a + 1) - 1)) t0 t1 M4 = some (nI t, M5) := by
        intro t0 t1 ht0
        unfold fX10_drawThread_114
        rw [r1, ev_ci, ht0, show nI b + 1 = nI (b + 1) from nI_add b 1, rw1, ev_ci, mm.1, mm.2, pt, ev_ci]
      rw [m4, if_pos (by rw [e1]; rfl), if_neg (by rw [show (1 : Int32) = nI 1 from rfl, pn_leI (by omega) (by omega)]; omega), if_pos (by rw [e3]; rfl)]
      unfold fX10_drawThread_71
      rw [if_neg (by decide), show nI (n 4) - 1 = nI (n 4 - 1) from ev_sub (b := 1) (by omega), p1, ev_ci]
      by_cases q : g0 < f
      · rw [if_pos (by rw [pn_ltI (by omega) (by omega)]; exact q)]
        exact fin 0 (nI g0) (by rw [hgn.2.2.1 q]; exact nI_add g0 0)
      · rw [if_neg (by rw [pn_ltI (by omega) (by omega)]; exact q)]
        exact fin 1 (nI g0) (by rw [hgn.2.2.2 q]; exact nI_add g0 1)
    · obtain ⟨M', m1, m2, m3, m4⟩ := Y3 M c hC hM
      obtain ⟨M4, p1, p2, p3, p4⟩ := py_draw (k := n 4 - 1) m3 l3 (by omega) (by omega)
      obtain ⟨M5, r1, r2, r3, r4⟩ := py_draw (k := 9) p4 l4 (by decide) (by decide)
      rw [hg] at p1
      rw [hb] at r1
      have r1 : fX11_draw 9 M4 = _ := r1
      refine ⟨M5, ?_, r2.trans (p2.trans m1), r3.trans (p3.trans m2), r4⟩
      have hC5 := hC.same (r2.trans (p2.trans m1)) (r3.trans (p3.trans m2))
      have fin : fX11_drawThread_82 (nI f) (nI (1 + a)) (nI g) M4 = some (nI t, M5) := by
        unfold fX11_drawThread_82
        rw [r1, ev_ci, show (1 : Int32) + nI b = nI (1 + b) from nI_add 1 b]
        by_cases q : f < g
        · have pt := py_two hC5 f1 (a := 1 + a) ⟨by omega, by omega⟩ hgn.1 (b := 1 + b) ⟨by omega, by omega⟩
          obtain ⟨z1, z2⟩ := hxy1 q
          rw [show 9 * f + (1 + a) - 1 = x by omega, show 9 * g + (1 + b) - 1 = y by omega, et] at pt
          rw [if_neg (by rw [pn_leI (by omega) (by omega)]; omega), pt, ev_ci]
          rfl
        · have pt := py_two hC5 hgn.1 (a := 1 + b) ⟨by omega, by omega⟩ f1 (b := 1 + a) ⟨by omega, by omega⟩
          obtain ⟨z1, z2⟩ := hxy2 q
          rw [show 9 * g + (1 + b) - 1 = x by omega, show 9 * f + (1 + a) - 1 = y by omega, et] at pt
          rw [if_pos (by rw [pn_leI (by omega) (by omega)]; omega), pt, ev_ci]
          rfl
      rw [m4, if_pos (by rw [e1]; rfl), if_neg (by rw [show (2 : Int32) = nI 2 from rfl, pn_ltI (by omega) (by omega)]; omega), if_pos (by rw [show (2 : Int32) = nI 2 from rfl, pn_leI (by omega) (by omega)]; omega), show nI (n 4) - 1 = nI (n 4 - 1) from ev_sub (b := 1) (by omega), p1, ev_ci]
      by_cases q : g0 < f
      · rw [if_pos (by rw [pn_ltI (by omega) (by omega)]; exact q), ← hgn.2.2.1 q]
        exact fin
      · rw [if_neg (by rw [pn_ltI (by omega) (by omega)]; exact q), show nI g0 + 1 = nI (g0 + 1) from nI_add g0 1, ← hgn.2.2.2 q]
        exact fin
  · exact one two
end DT
