theorem fkN_f {ok : Nat → Bool} {j : Nat} (h : fkN ok j = false) : ∀ d, fkN ok (j + d) = false
  | 0 => h
  | d + 1 => by
    show (fkN ok (j + d) && ok (j + d)) = false
    rw [fkN_f h d]; rfl
theorem py_plain {a b : Nat} (ha : a ≤ 10000000) (hb : b ≤ 10000000) (M : eM) : fX11_plain (nI a - nI b) M = some (nI (if a < b then b - a else a - b), M) := by
  unfold fX11_plain fX11_plain_0
  have e := pk_sub_toInt (a := a) (b := b) (by omega) (by omega)
  by_cases h : a < b
  · rw [if_neg (by rw [Int32.le_iff_toInt_le, e, show (0 : Int32).toInt = 0 from by decide]; omega), if_pos h]
    congr 2
    apply Int32.toInt_inj.mp
    rw [nI_toInt (by omega), Int32.neg_sub, pk_sub_toInt (by omega) (by omega)]
    omega
  · rw [if_neg h, ev_sub (by omega), if_pos (nI_pos' (by omega))]
theorem near_d {a b s : Nat} : near a b s = decide ((if a < b then b - a else a - b) ≤ s) := by
  by_cases h : a < b
  · rw [if_pos h]
    by_cases h2 : b - a ≤ s
    · rw [decide_eq_true h2]; exact near_t (by omega)
    · rw [decide_eq_false h2]; exact near_f (by omega)
  · rw [if_neg h]
    by_cases h2 : a - b ≤ s
    · rw [decide_eq_true h2]; exact near_t (by omega)
    · rw [decide_eq_false h2]; exact near_f (by omega)
theorem sp_col_le {v : Nat → Nat → Nat} {o w : Nat → Nat} {x h c : Nat} : sp_col v o w x h c ≤ 99 := by unfold sp_col; omega
def HX (M : eM) (n : Nat → Nat) (v : Nat → Nat → Nat) (s col : Nat) (S : List (Nat → Nat)) (y : Nat) : Prop := ∀ i, i < S.length → M.1 121 (22 * y + i) = nI (hrs n v s col S y i)
def FL (M : eM) (v : Nat → Nat → Nat) (L : List (Nat × Nat)) : Prop := M.1 100 33 = nI L.length ∧ ∀ i, i < L.length → M.1 119 i = nI (L.getD i (0, 0)).1 ∧ M.1 120 i = nI (yrP v (L.getD i (0, 0)).2)
section FM
variable {M : eM} {cc th : Nat} {n : Nat → Nat} {v : Nat → Nat → Nat} {o w q : Nat → Nat} {l t r : Nat → Nat → Nat} {s col : Nat} {S : List (Nat → Nat)}
theorem py_year (hY : pn_Y M n v) (ho : pn_ok n v) {p : Nat} (hp : p < n 7 + 1) : fX11_yearAt (nI p) M = some (nI (yrP v p), M) := by
  have h7 := ho.2.2.2.2.2.2.2.1
  unfold fX11_yearAt fX11_yearAt_0 yrP
  by_cases h : p = 0
  · subst h
    simp (disch := omega) only [ev_ck, ev_ci, ev_cv, ev_lt_, ↓reduceIte, ev_lens, ev_ix, ev_nz, ev_cl, ev_cll, ev_add, ev_addl, ev_ladd, ev_mul, ev_mull, ev_lmul, ev_sub, ev_subl, ev_lsub, ev_lt, ev_ltl, ev_llt, ev_le, ev_lel, ev_lle, ev_eq, ev_eql, ev_leq, ev_nm1, ev_nm5, ev_m1n, ev_neg1, ev_ltT, ev_ltF, ev_leT, ev_leF, ev_eqT, ev_eqF, ev_one0, ev_zero1, Nat.reduceAdd, Nat.reduceMul, Nat.reduceSub, ea_pI_eq, ev_pIn, ev_pIe, ea_pI_r, eq_self]
    rfl
  · have e : M.1 102 (11 + p - 1) = nI (v 1 (p - 1)) := by rw [show 11 + p - 1 = 11 + (p - 1) by omega]; exact hY.2.2.1 (p - 1) (by omega)
    rw [if_neg h]
    simp (disch := omega) only [ev_ck, ev_ci, ev_cv, ev_lt_, ↓reduceIte, ev_lens, ev_ix, ev_nz, ev_cl, ev_cll, ev_add, ev_addl, ev_ladd, ev_mul, ev_mull, ev_lmul, ev_sub, ev_subl, ev_lsub, ev_lt, ev_ltl, ev_llt, ev_le, ev_lel, ev_lle, ev_eq, ev_eql, ev_leq, ev_nm1, ev_nm5, ev_m1n, ev_neg1, ev_ltT, ev_ltF, ev_leT, ev_leF, ev_eqT, ev_eqF, ev_one0, ev_zero1, Nat.reduceAdd, Nat.reduceMul, Nat.reduceSub, ea_pI_eq, ev_pIn, ev_pIe, ea_pI_r, eq_self, e]
theorem py_isSo (hC : Ctx M cc n v th o w q l t r) (hs : s < n 5) (hcol : col < n 0) (hW : WX M S) (hSo : ∀ x, x ∈ S → rok x) (hSl : S.length ≤ 22) {x y : Nat} (hx : x < th) (hy : y < n 7 + 1) (hH : HX M n v s col S y) : fX11_isSo 121 (nI x) (nI (22 * y)) M = some (if fkN (okS n v o w s col S x y) S.length = true then 1 else 0, M) := by
  have ho := hC.1.2.2.2.1
  have h7 := ho.2.2.2.2.2.2.2.1
  have h2 := ho.2.2.1
  have hY := hC.1.2.2.2.2.2.1
  have hTh := hC.1.2.2.2.2.2.2.1
  have hTY := hC.1.2.2.2.2.2.2.2.2
  have e2 := hY.1.2.2.1
  have st : ∀ (k67 : Int32 → Int32 → Int32 → eM → Option (Int32 × eM)) (k i c : Nat), i < S.length → c < 3 → fX11_isSo_15 k67 121 (k + 1) (nI x) (nI (22 * y)) (nI i) (nI c) M = if near (sp_col v o w x (hrs n v s col S y i) c) (nth S i (2 + c)) (n 2) = true then fX11_isSo_15 k67 121 k (nI x) (nI (22 * y)) (nI i) (nI (c + 1)) M else some (0, M) := by
    intro k67 k i c hi hc
    have ro := nth_ok hSo i
    have hle := sp_hours_le ho hs hcol (year := yrP v y) (side := nth S i 0)
    have hm : hrs n v s col S y i < 2 ^ 31 := by unfold hrs; have := ro.2.1; omega
    have cl := py_colour hY ho hTY hTh.1 hx hm hc
    have eh := hH i hi
    have ew := (hW.2 i hi).2.2 c hc
    have b1 := ro.2.2 c hc
    have b2 := sp_col_le (v := v) (o := o) (w := w) (x := x) (h := hrs n v s col S y i) (c := c)
    have pp := py_plain (a := sp_col v o w x (hrs n v s col S y i) c) (b := nth S i (2 + c)) (by omega) (by omega) M
    rw [fX11_isSo_15]
    simp (disch := omega) only [ev_ck, ev_ci, ev_cv, ev_lt_, ↓reduceIte, ev_lens, ev_ix, ev_nz, ev_cl, ev_cll, ev_add, ev_addl, ev_ladd, ev_mul, ev_mull, ev_lmul, ev_subl, ev_lsub, ev_lt, ev_ltl, ev_llt, ev_le, ev_lel, ev_lle, ev_eq, ev_eql, ev_leq, ev_nm1, ev_nm5, ev_m1n, ev_neg1, ev_ltT, ev_ltF, ev_leT, ev_leF, ev_eqT, ev_eqF, ev_one0, ev_zero1, Nat.reduceAdd, Nat.reduceMul, Nat.reduceSub, ea_pI_eq, ev_pIn, ev_pIe, ea_pI_r, eq_self, eh, cl, ew, pp, e2]
    have hb : (if sp_col v o w x (hrs n v s col S y i) c < nth S i (2 + c) then nth S i (2 + c) - sp_col v o w x (hrs n v s col S y i) c else sp_col v o w x (hrs n v s col S y i) c - nth S i (2 + c)) < 2147483648 := by
      by_cases h : sp_col v o w x (hrs n v s col S y i) c < nth S i (2 + c)
      · rw [if_pos h]; omega
      · rw [if_neg h]; omega
    have w1 := pn_leI hb (show n 2 < 2 ^ 31 by omega)
    rw [near_d]
    by_cases h : (if sp_col v o w x (hrs n v s col S y i) c < nth S i (2 + c) then nth S i (2 + c) - sp_col v o w x (hrs n v s col S y i) c else sp_col v o w x (hrs n v s col S y i) c - nth S i (2 + c)) ≤ n 2
    · rw [if_pos (w1.mpr h), if_pos (decide_eq_true h)]
    · rw [if_neg (fun q => h (w1.mp q)), if_neg (by rw [decide_eq_false h]; decide)]
  have lp : ∀ (d f i : Nat), S.length - i = d → i ≤ S.length → d < f → fkN (okS n v o w s col S x y) i = true → fX11_isSo_3 121 f (nI x) (nI (22 * y)) (nI i) M = some (if fkN (okS n v o w s col S x y) S.length = true then 1 else 0, M) := by
    intro d
    induction d with
    | zero =>
      intro f i hd hi hf hk
      obtain ⟨f, rfl⟩ : ∃ f', f = f' + 1 := ⟨f - 1, by omega⟩
      obtain rfl : i = S.length := by omega
      rw [if_pos hk]
      simp (disch := omega) only [ev_ck, ev_ci, ev_cv, ev_lt_, ↓reduceIte, ev_lens, ev_ix, ev_nz, ev_cl, ev_cll, ev_add, ev_addl, ev_ladd, ev_mul, ev_mull, ev_lmul, ev_sub, ev_subl, ev_lsub, ev_lt, ev_ltl, ev_llt, ev_le, ev_lel, ev_lle, ev_eq, ev_eql, ev_leq, ev_nm1, ev_nm5, ev_m1n, ev_neg1, ev_ltT, ev_ltF, ev_leT, ev_leF, ev_eqT, ev_eqF, ev_one0, ev_zero1, Nat.reduceAdd, Nat.reduceMul, Nat.reduceSub, ea_pI_eq, ev_pIn, ev_pIe, ea_pI_r, eq_self, fX11_isSo_3, hW.1]
    | succ d ih =>
      intro f i hd hi hf hk
      obtain ⟨f, rfl⟩ : ∃ f', f = f' + 1 := ⟨f - 1, by omega⟩
      have nx := ih f (i + 1) (by omega) (by omega) (by omega)
      rw [fkN_s, hk, Bool.true_and] at nx
      have no : okS n v o w s col S x y i = false → fkN (okS n v o w s col S x y) S.length = false := by
        intro e
        have := fkN_f (ok := okS n v o w s col S x y) (j := i + 1) (by rw [fkN_s, e, Bool.and_false]) (S.length - (i + 1))
        rw [show i + 1 + (S.length - (i + 1)) = S.length by omega] at this
        exact this
      rw [fX11_isSo_3]
      simp (disch := omega) only [ev_ck, ev_ci, ev_cv, ev_lt_, ↓reduceIte, ev_lens, ev_ix, ev_nz, ev_cl, ev_cll, ev_add, ev_addl, ev_ladd, ev_mul, ev_mull, ev_lmul, ev_sub, ev_subl, ev_lsub, ev_lt, ev_ltl, ev_llt, ev_le, ev_lel, ev_lle, ev_eq, ev_eql, ev_leq, ev_nm1, ev_nm5, ev_m1n, ev_neg1, ev_ltT, ev_ltF, ev_leT, ev_leF, ev_eqT, ev_eqF, ev_one0, ev_zero1, Nat.reduceAdd, Nat.reduceMul, Nat.reduceSub, ea_pI_eq, ev_pIn, ev_pIe, ea_pI_r, eq_self, hW.1]
      show fX11_isSo_15 _ 121 (99996 + 1 + 1 + 1 + 1) (nI x) (nI (22 * y)) (nI i) (nI 0) M = _
      rw [st _ _ i 0 (by omega) (by decide), st _ _ i 1 (by omega) (by decide), st _ _ i 2 (by omega) (by decide)]
      have eo : okS n v o w s col S x y i = (near (sp_col v o w x (hrs n v s col S y i) 0) (nth S i (2 + 0)) (n 2) && (near (sp_col v o w x (hrs n v s col S y i) 1) (nth S i (2 + 1)) (n 2) && near (sp_col v o w x (hrs n v s col S y i) 2) (nth S i (2 + 2)) (n 2))) := rfl
      by_cases q0 : near (sp_col v o w x (hrs n v s col S y i) 0) (nth S i (2 + 0)) (n 2) = true
      · rw [if_pos q0]
        by_cases q1 : near (sp_col v o w x (hrs n v s col S y i) 1) (nth S i (2 + 1)) (n 2) = true
        · rw [if_pos q1]
          by_cases q2 : near (sp_col v o w x (hrs n v s col S y i) 2) (nth S i (2 + 2)) (n 2) = true
          · rw [if_pos q2, fX11_isSo_15, if_pos (by decide)]
            unfold fX11_isSo_67
            rw [show nI i + 1 = nI (i + 1) from nI_add i 1]
            exact nx (by rw [eo, q0, q1, q2]; rfl)
          · rw [if_neg q2, no (by rw [eo, q0, q1, Bool.eq_false_iff.mpr q2]; rfl), if_neg (by decide)]
        · rw [if_neg q1, no (by rw [eo, q0, Bool.eq_false_iff.mpr q1]; rfl), if_neg (by decide)]
      · rw [if_neg q0, no (by rw [eo, Bool.eq_false_iff.mpr q0]; rfl), if_neg (by decide)]
  exact lp S.length ea_N 0 (by omega) (by omega) (by unfold ea_N; omega) rfl
theorem WX.fr {M M' : eM} (h : WX M S) (f : ∀ c k, (c = 100 ∧ k = 29) ∨ (116 ≤ c ∧ c ≤ 118) → M'.1 c k = M.1 c k) : WX M' S := by
  refine ⟨by rw [f _ _ (by omega)]; exact h.1, fun i hi => ?_⟩
  obtain ⟨g1, g2, g3⟩ := h.2 i hi
  exact ⟨by rw [f _ _ (by omega)]; exact g1, by rw [f _ _ (by omega)]; exact g2, fun c hc => by rw [f _ _ (by omega)]; exact g3 c hc⟩
theorem py_f34 (hC0 : Ctx M cc n v th o w q l t r) (hs : s < n 5) (hcol : col < n 0) (hW0 : WX M S) (hSo : ∀ x, x ∈ S → rok x) (hSl : S.length ≤ 22) {y : Nat} (hy : y < n 7 + 1) (k90 : Int32 → Int32 → Int32 → eM → Option eM) :
    ∀ (d f i : Nat) (M1 : eM), S.length - i = d → i ≤ S.length → d < f → (∀ c k, (c ≠ 121 ∨ k < 22 * y) → M1.1 c k = M.1 c k) → M1.2.2 = M.2.2 → (∀ j, j < i → M1.1 121 (22 * y + j) = nI (hrs n v s col S y j)) → ∃ M', fX11_findFits_34 k90 f (nI s) (nI col) (nI y) (nI i) M1 = k90 (nI s) (nI col) (nI y) M' ∧ (∀ c k, (c ≠ 121 ∨ k < 22 * y) → M'.1 c k = M.1 c k) ∧ M'.2.2 = M.2.2 ∧ HX M' n v s col S y := by
  have ho := hC0.1.2.2.2.1
  have h7 := ho.2.2.2.2.2.2.2.1
  intro d
  induction d with
  | zero =>
    intro f i M1 hd hi hf hF hR hj
    obtain ⟨f, rfl⟩ : ∃ f', f = f' + 1 := ⟨f - 1, by omega⟩
    obtain rfl : i = S.length := by omega
    refine ⟨M1, ?_, hF, hR, hj⟩
    have e := hW0.1
    rw [← hF _ _ (by omega)] at e
    simp (disch := omega) only [ev_ck, ev_ci, ev_cv, ev_lt_, ↓reduceIte, ev_lens, ev_ix, ev_nz, ev_cl, ev_cll, ev_add, ev_addl, ev_ladd, ev_mul, ev_mull, ev_lmul, ev_sub, ev_subl, ev_lsub, ev_lt, ev_ltl, ev_llt, ev_le, ev_lel, ev_lle, ev_eq, ev_eql, ev_leq, ev_nm1, ev_nm5, ev_m1n, ev_neg1, ev_ltT, ev_ltF, ev_leT, ev_leF, ev_eqT, ev_eqF, ev_one0, ev_zero1, Nat.reduceAdd, Nat.reduceMul, Nat.reduceSub, ea_pI_eq, ev_pIn, ev_pIe, ea_pI_r, eq_self, fX11_findFits_34, e]
  | succ d ih =>
    intro f i M1 hd hi hf hF hR hj
    obtain ⟨f, rfl⟩ : ∃ f', f = f' + 1 := ⟨f - 1, by omega⟩
    have fr : FrW M M1 := ⟨fun c k h1 h2 => hF c k (by omega), hR⟩
    have hC := hC0.kp fr.kp
    have hW : WX M1 S := hW0.fr (fun c k h => hF c k (by omega))
    obtain ⟨g1, g2, -⟩ := hW.2 i (by omega)
    have ro := nth_ok hSo i
    have hh := py_hours hC.1.2.2.2.2.2.1 ho hs hcol (yrP_le ho hy) ro.1
    have hle := sp_hours_le ho hs hcol (year := yrP v y) (side := nth S i 0)
    obtain ⟨M', r1, r2⟩ := ih f (i + 1) (ea_pI M1 121 (22 * y + i) (nI (hrs n v s col S y i))) (by omega) (by omega) (by omega) (fun c k hk => by rw [ea_pI_ne (by omega)]; exact hF c k hk) hR (fun j hj' => by
      by_cases e : j = i
      · rw [e, ea_pI_eq]
      · rw [ea_pI_ne (by omega)]; exact hj j (by omega))
    refine ⟨M', ?_, r2⟩
    have eh : nI (sp_hours n v s col (yrP v y) (nth S i 0)) + nI (nth S i 1) = nI (hrs n v s col S y i) := nI_add _ _
    have yy := py_year hC.1.2.2.2.2.2.1 ho hy
    rw [fX11_findFits_34]
    simp (disch := omega) only [ev_ck, ev_ci, ev_cv, ev_lt_, ↓reduceIte, ev_lens, ev_ix, ev_nz, ev_cl, ev_cll, ev_add, ev_addl, ev_ladd, ev_mul, ev_mull, ev_lmul, ev_sub, ev_subl, ev_lsub, ev_lt, ev_ltl, ev_llt, ev_le, ev_lel, ev_lle, ev_eq, ev_eql, ev_leq, ev_nm1, ev_nm5, ev_m1n, ev_neg1, ev_ltT, ev_ltF, ev_leT, ev_leF, ev_eqT, ev_eqF, ev_one0, ev_zero1, Nat.reduceAdd, Nat.reduceMul, Nat.reduceSub, ea_pI_eq, ev_pIn, ev_pIe, ea_pI_r, eq_self, hW.1, yy, g1, hh, g2]
    exact r1
theorem py_f19 (hC0 : Ctx M cc n v th o w q l t r) (hs : s < n 5) (hcol : col < n 0) (hW0 : WX M S) (hSo : ∀ x, x ∈ S → rok x) (hSl : S.length ≤ 22) (k96 : eM → Option eM) :
    ∀ (d f y : Nat) (M1 : eM), n 7 + 1 - y = d → y ≤ n 7 + 1 → d < f → (∀ c k, c ≠ 121 → M1.1 c k = M.1 c k) → M1.2.2 = M.2.2 → (∀ y', y' < y → HX M1 n v s col S y') → ∃ M', fX11_findFits_19 k96 f (nI s) (nI col) (nI y) M1 = k96 M' ∧ (∀ c k, c ≠ 121 → M'.1 c k = M.1 c k) ∧ M'.2.2 = M.2.2 ∧ ∀ y', y' < n 7 + 1 → HX M' n v s col S y' := by
  have ho := hC0.1.2.2.2.1
  have h7 := ho.2.2.2.2.2.2.2.1
  intro d
  induction d with
  | zero =>
    intro f y M1 hd hy hf hF hR hH
    obtain ⟨f, rfl⟩ : ∃ f', f = f' + 1 := ⟨f - 1, by omega⟩
    have fr : FrW M M1 := ⟨fun c k h1 h2 => hF c k (by omega), hR⟩
    have e7 := (hC0.kp fr.kp).1.2.2.2.2.2.1.1.2.2.2.2.2.2.2.1
    refine ⟨M1, ?_, hF, hR, fun y' h => hH y' (by omega)⟩
    simp (disch := omega) only [ev_ck, ev_ci, ev_cv, ev_lt_, ↓reduceIte, ev_lens, ev_ix, ev_nz, ev_cl, ev_cll, ev_add, ev_addl, ev_ladd, ev_mul, ev_mull, ev_lmul, ev_sub, ev_subl, ev_lsub, ev_lt, ev_ltl, ev_llt, ev_le, ev_lel, ev_lle, ev_eq, ev_eql, ev_leq, ev_nm1, ev_nm5, ev_m1n, ev_neg1, ev_ltT, ev_ltF, ev_leT, ev_leF, ev_eqT, ev_eqF, ev_one0, ev_zero1, Nat.reduceAdd, Nat.reduceMul, Nat.reduceSub, ea_pI_eq, ev_pIn, ev_pIe, ea_pI_r, eq_self, fX11_findFits_19, e7]
  | succ d ih =>
    intro f y M1 hd hy hf hF hR hH
    obtain ⟨f, rfl⟩ : ∃ f', f = f' + 1 := ⟨f - 1, by omega⟩
    have fr : FrW M M1 := ⟨fun c k h1 h2 => hF c k (by omega), hR⟩
    have hC := hC0.kp fr.kp
    have e7 := hC.1.2.2.2.2.2.1.1.2.2.2.2.2.2.2.1
    obtain ⟨M2, t1, t2, t3, t4⟩ := py_f34 hC hs hcol (hW0.fr (fun c k h => hF c k (by omega))) hSo hSl (y := y) (by omega) (fX11_findFits_90 (fX11_findFits_19 k96 f)) S.length ea_N 0 M1 (by omega) (by omega) (by unfold ea_N; omega) (fun _ _ _ => rfl) rfl (fun j hj => by omega)
    obtain ⟨M', r1, r2⟩ := ih f (y + 1) M2 (by omega) (by omega) (by omega) (fun c k hk => by rw [t2 c k (Or.inl hk)]; exact hF c k hk) (t3.trans hR) (fun y' hy' => by
      by_cases e : y' = y
      · rw [e]; exact t4
      · intro i hi
        rw [t2 _ _ (Or.inr (by omega))]
        exact hH y' (by omega) i hi)
    refine ⟨M', ?_, r2⟩
    rw [fX11_findFits_19]
    simp (disch := omega) only [ev_ck, ev_ci, ev_cv, ev_lt_, ↓reduceIte, ev_lens, ev_ix, ev_nz, ev_cl, ev_cll, ev_add, ev_addl, ev_ladd, ev_mul, ev_mull, ev_lmul, ev_sub, ev_subl, ev_lsub, ev_lt, ev_ltl, ev_llt, ev_le, ev_lel, ev_lle, ev_eq, ev_eql, ev_leq, ev_nm1, ev_nm5, ev_m1n, ev_neg1, ev_ltT, ev_ltF, ev_leT, ev_leF, ev_eqT, ev_eqF, ev_one0, ev_zero1, Nat.reduceAdd, Nat.reduceMul, Nat.reduceSub, ea_pI_eq, ev_pIn, ev_pIe, ea_pI_r, eq_self, e7]
    refine t1.trans ?_
    simp (disch := omega) only [ev_ck, ev_ci, ev_cv, ev_lt_, ↓reduceIte, ev_lens, ev_ix, ev_nz, ev_cl, ev_cll, ev_add, ev_addl, ev_ladd, ev_mul, ev_mull, ev_lmul, ev_sub, ev_subl, ev_lsub, ev_lt, ev_ltl, ev_llt, ev_le, ev_lel, ev_lle, ev_eq, ev_eql, ev_leq, ev_nm1, ev_nm5, ev_m1n, ev_neg1, ev_ltT, ev_ltF, ev_leT, ev_leF, ev_eqT, ev_eqF, ev_one0, ev_zero1, Nat.reduceAdd, Nat.reduceMul, Nat.reduceSub, ea_pI_eq, ev_pIn, ev_pIe, ea_pI_r, eq_self, fX11_findFits_90]
    exact r1
theorem getD_l {α : Type} {A B : List α} {i : Nat} {z : α} (h : i < A.length) : (A ++ B).getD i z = A.getD i z := by
  rw [List.getD_eq_getElem?_getD, List.getElem?_append_left h, ← List.getD_eq_getElem?_getD]
theorem getD_r {α : Type} {A : List α} {x z : α} : (A ++ [x]).getD A.length z = x := by
  rw [List.getD_eq_getElem?_getD, List.getElem?_append_right (Nat.le_refl _), Nat.sub_self]
  rfl
theorem fl_add {M : eM} {L : List (Nat × Nat)} (h : FL M v L) (e : Nat × Nat) : FL (ea_pI (ea_pI (ea_pI M 119 L.length (nI e.1)) 120 L.length (nI (yrP v e.2))) 100 33 (nI (L.length + 1))) v (L ++ [e]) := by
  refine ⟨by rw [List.length_append]; simp (disch := omega) only [ev_ck, ev_ci, ev_cv, ev_lt_, ↓reduceIte, ev_lens, ev_ix, ev_nz, ev_cl, ev_cll, ev_add, ev_addl, ev_ladd, ev_mul, ev_mull, ev_lmul, ev_sub, ev_subl, ev_lsub, ev_lt, ev_ltl, ev_llt, ev_le, ev_lel, ev_lle, ev_eq, ev_eql, ev_leq, ev_nm1, ev_nm5, ev_m1n, ev_neg1, ev_ltT, ev_ltF, ev_leT, ev_leF, ev_eqT, ev_eqF, ev_one0, ev_zero1, Nat.reduceAdd, Nat.reduceMul, Nat.reduceSub, ea_pI_eq, ev_pIn, ev_pIe, ea_pI_r, eq_self]; rfl, fun i hi => ?_⟩
  rw [List.length_append] at hi
  have hi : i < L.length + 1 := hi
  by_cases h1 : i < L.length
  · rw [getD_l h1]
    exact ⟨by rw [← (h.2 i h1).1]; simp (disch := omega) only [ev_ck, ev_ci, ev_cv, ev_lt_, ↓reduceIte, ev_lens, ev_ix, ev_nz, ev_cl, ev_cll, ev_add, ev_addl, ev_ladd, ev_mul, ev_mull, ev_lmul, ev_sub, ev_subl, ev_lsub, ev_lt, ev_ltl, ev_llt, ev_le, ev_lel, ev_lle, ev_eq, ev_eql, ev_leq, ev_nm1, ev_nm5, ev_m1n, ev_neg1, ev_ltT, ev_ltF, ev_leT, ev_leF, ev_eqT, ev_eqF, ev_one0, ev_zero1, Nat.reduceAdd, Nat.reduceMul, Nat.reduceSub, ea_pI_eq, ev_pIn, ev_pIe, ea_pI_r, eq_self], by rw [← (h.2 i h1).2]; simp (disch := omega) only [ev_ck, ev_ci, ev_cv, ev_lt_, ↓reduceIte, ev_lens, ev_ix, ev_nz, ev_cl, ev_cll, ev_add, ev_addl, ev_ladd, ev_mul, ev_mull, ev_lmul, ev_sub, ev_subl, ev_lsub, ev_lt, ev_ltl, ev_llt, ev_le, ev_lel, ev_lle, ev_eq, ev_eql, ev_leq, ev_nm1, ev_nm5, ev_m1n, ev_neg1, ev_ltT, ev_ltF, ev_leT, ev_leF, ev_eqT, ev_eqF, ev_one0, ev_zero1, Nat.reduceAdd, Nat.reduceMul, Nat.reduceSub, ea_pI_eq, ev_pIn, ev_pIe, ea_pI_r, eq_self]⟩
  · obtain rfl : i = L.length := by omega
    rw [getD_r]
    exact ⟨by simp (disch := omega) only [ev_ck, ev_ci, ev_cv, ev_lt_, ↓reduceIte, ev_lens, ev_ix, ev_nz, ev_cl, ev_cll, ev_add, ev_addl, ev_ladd, ev_mul, ev_mull, ev_lmul, ev_sub, ev_subl, ev_lsub, ev_lt, ev_ltl, ev_llt, ev_le, ev_lel, ev_lle, ev_eq, ev_eql, ev_leq, ev_nm1, ev_nm5, ev_m1n, ev_neg1, ev_ltT, ev_ltF, ev_leT, ev_leF, ev_eqT, ev_eqF, ev_one0, ev_zero1, Nat.reduceAdd, Nat.reduceMul, Nat.reduceSub, ea_pI_eq, ev_pIn, ev_pIe, ea_pI_r, eq_self], by simp (disch := omega) only [ev_ck, ev_ci, ev_cv, ev_lt_, ↓reduceIte, ev_lens, ev_ix, ev_nz, ev_cl, ev_cll, ev_add, ev_addl, ev_ladd, ev_mul, ev_mull, ev_lmul, ev_sub, ev_subl, ev_lsub, ev_lt, ev_ltl, ev_llt, ev_le, ev_lel, ev_lle, ev_eq, ev_eql, ev_leq, ev_nm1, ev_nm5, ev_m1n, ev_neg1, ev_ltT, ev_ltF, ev_leT, ev_leF, ev_eqT, ev_eqF, ev_one0, ev_zero1, Nat.reduceAdd, Nat.reduceMul, Nat.reduceSub, ea_pI_eq, ev_pIn, ev_pIe, ea_pI_r, eq_self]⟩
theorem py_findFits (hC : Ctx M cc n v th o w q l t r) {cell known : Nat} (hcell : cell < 48) (hk : known < 1000) (hs : s < n 5) : ∃ M', fX11_findFits (nI cell) (nI s) (nI known) M = some M' ∧ FL M' v (pl (fk n v o w s (cell % n 0) (sgs q l t r cell known)) (n 7 + 1) th) ∧ M'.1 100 34 = nI (ct (fk n v o w s (cell % n 0) (sgs q l t r cell known)) th) ∧ FrW M M' := by
  have ho := hC.1.2.2.2.1
  have h7 := ho.2.2.2.2.2.2.2.1
  have hth := hC.1.2.2.2.2.2.2.1.1.1
  have hcol : cell % n 0 < n 0 := Nat.mod_lt _ (by have := ho.1; omega)
  obtain ⟨M1, e1, W1, F1⟩ := py_words hC hcell hk
  have hSo : ∀ x, x ∈ sgs q l t r cell known → rok x := sg_upto_ok hC.2.1.1 (q 1) (Nat.le_refl _)
  have hSl : (sgs q l t r cell known).length ≤ 22 := Nat.le_trans (sg_upto_len (q 1)) (by have := hC.2.1.1.2.1; omega)
  generalize sgs q l t r cell known = S at W1 hSo hSl
  have hC1 := hC.kp F1.kp
  obtain ⟨M2, t1, t2, t3, t4⟩ := py_f19 hC1 hs hcol W1 hSo hSl fX11_findFits_96 (n 7 + 1) ea_N 0 M1 (by omega) (by omega) (by unfold ea_N; omega) (fun _ _ _ => rfl) rfl (fun y' hy' => by omega)
  have F2 : FrW M1 M2 := ⟨fun c k h1 h2 => t2 c k (by omega), t3⟩
  generalize hg : fk n v o w s (cell % n 0) S = g
  have hgf : ∀ x p, n 7 + 1 ≤ p → g x p = false := fun x p hp => by rw [← hg]; unfold fk; rw [decide_eq_false (by omega)]; rfl
  have hge : ∀ x p, p < n 7 + 1 → fkN (okS n v o w s (cell % n 0) S x p) S.length = g x p := fun x p hp => by rw [← hg]; unfold fk; rw [decide_eq_true hp]; exact (Bool.true_and _).symm
  -- the frame of what follows: 100.33, 100.34, 119, 120
  have inner : ∀ (k202 : Int32 → Int32 → eM → Option eM) (x : Nat) (x6 : Int32), x < th → ∀ (d f y : Nat) (M3 : eM), n 7 + 1 - y = d → y ≤ n 7 + 1 → d < f → (∀ c k, (c ≠ 119 ∧ c ≠ 120 ∧ (c ≠ 100 ∨ (k ≠ 33 ∧ k ≠ 34))) → M3.1 c k = M2.1 c k) → M3.2.2 = M2.2.2 → M3.1 100 34 = nI (ct g x) → FL M3 v (pl g (n 7 + 1) x ++ plk (g x) x y) → ∃ M', fX11_findFits_127 k202 f (nI x) x6 (nI y) M3 = k202 (nI x) x6 M' ∧ (∀ c k, (c ≠ 119 ∧ c ≠ 120 ∧ (c ≠ 100 ∨ (k ≠ 33 ∧ k ≠ 34))) → M'.1 c k = M2.1 c k) ∧ M'.2.2 = M2.2.2 ∧ M'.1 100 34 = nI (ct g x) ∧ FL M' v (pl g (n 7 + 1) (x + 1)) := by
    intro k202 x x6 hx d
    induction d with
    | zero =>
      intro f y M3 hd hy hf hF hR h34 hL
      obtain ⟨f, rfl⟩ : ∃ f', f = f' + 1 := ⟨f - 1, by omega⟩
      obtain rfl : y = n 7 + 1 := by omega
      have fr : FrW M2 M3 := ⟨fun c k h1 h2 => hF c k (by omega), hR⟩
      have e7 := (hC.kp ((F1.trans F2).trans fr).kp).1.2.2.2.2.2.1.1.2.2.2.2.2.2.2.1
      refine ⟨M3, ?_, hF, hR, h34, hL⟩
      simp (disch := omega) only [ev_ck, ev_ci, ev_cv, ev_lt_, ↓reduceIte, ev_lens, ev_ix, ev_nz, ev_cl, ev_cll, ev_add, ev_addl, ev_ladd, ev_mul, ev_mull, ev_lmul, ev_sub, ev_subl, ev_lsub, ev_lt, ev_ltl, ev_llt, ev_le, ev_lel, ev_lle, ev_eq, ev_eql, ev_leq, ev_nm1, ev_nm5, ev_m1n, ev_neg1, ev_ltT, ev_ltF, ev_leT, ev_leF, ev_eqT, ev_eqF, ev_one0, ev_zero1, Nat.reduceAdd, Nat.reduceMul, Nat.reduceSub, ea_pI_eq, ev_pIn, ev_pIe, ea_pI_r, eq_self, fX11_findFits_127, e7]
    | succ d ih =>
      intro f y M3 hd hy hf hF hR h34 hL
      obtain ⟨f, rfl⟩ : ∃ f', f = f' + 1 := ⟨f - 1, by omega⟩
      have fr : FrW M2 M3 := ⟨fun c k h1 h2 => hF c k (by omega), hR⟩
      have hC3 := hC.kp ((F1.trans F2).trans fr).kp
      have hY3 := hC3.1.2.2.2.2.2.1
      have e7 := hY3.1.2.2.2.2.2.2.2.1
      have W3 : WX M3 S := (W1.fr (fun c k h => t2 c k (by omega))).fr (fun c k h => hF c k (by omega))
      have so := py_isSo hC3 hs hcol W3 hSo hSl hx (y := y) (by omega) (fun i hi => by rw [hF _ _ (by omega)]; exact t4 y (by omega) i hi)
      rw [hge x y (by omega)] at so
      have hlen : (pl g (n 7 + 1) x ++ plk (g x) x y).length ≤ 4 * x + y := by
        rw [List.length_append]
        have := pl_len g (show n 7 + 1 ≤ 4 by omega) x
        have := plk_len (g x) x y
        omega
      by_cases hb : g x y = true
      · rw [hb, if_pos rfl] at so
        have e33 := hL.1
        have hadd := fl_add hL (x, y)
        generalize hLL : pl g (n 7 + 1) x ++ plk (g x) x y = L at hL e33 hlen hadd
        obtain ⟨M', r1, r2⟩ := ih f (y + 1) (ea_pI (ea_pI (ea_pI M3 119 L.length (nI x)) 120 L.length (nI (yrP v y))) 100 33 (nI (L.length + 1))) (by omega) (by omega) (by omega) (fun c k hk => by simp (disch := omega) only [ev_ck, ev_ci, ev_cv, ev_lt_, ↓reduceIte, ev_lens, ev_ix, ev_nz, ev_cl, ev_cll, ev_add, ev_addl, ev_ladd, ev_mul, ev_mull, ev_lmul, ev_sub, ev_subl, ev_lsub, ev_lt, ev_ltl, ev_llt, ev_le, ev_lel, ev_lle, ev_eq, ev_eql, ev_leq, ev_nm1, ev_nm5, ev_m1n, ev_neg1, ev_ltT, ev_ltF, ev_leT, ev_leF, ev_eqT, ev_eqF, ev_one0, ev_zero1, Nat.reduceAdd, Nat.reduceMul, Nat.reduceSub, ea_pI_eq, ev_pIn, ev_pIe, ea_pI_r, eq_self]; exact hF c k hk) hR (by simp (disch := omega) only [ev_ck, ev_ci, ev_cv, ev_lt_, ↓reduceIte, ev_lens, ev_ix, ev_nz, ev_cl, ev_cll, ev_add, ev_addl, ev_ladd, ev_mul, ev_mull, ev_lmul, ev_sub, ev_subl, ev_lsub, ev_lt, ev_ltl, ev_llt, ev_le, ev_lel, ev_lle, ev_eq, ev_eql, ev_leq, ev_nm1, ev_nm5, ev_m1n, ev_neg1, ev_ltT, ev_ltF, ev_leT, ev_leF, ev_eqT, ev_eqF, ev_one0, ev_zero1, Nat.reduceAdd, Nat.reduceMul, Nat.reduceSub, ea_pI_eq, ev_pIn, ev_pIe, ea_pI_r, eq_self]; exact h34) (by rw [plk_s, hb, if_pos rfl, ← List.append_assoc, hLL]; exact hadd)
        refine ⟨M', ?_, r2⟩
        have hq : pn_Y (ea_pI M3 119 L.length (nI x)) n v := hY3.fr ⟨fun c k hk => by have := isKC_in hk; rw [ea_pI_ne (by omega)], rfl⟩
        have yy := py_year hq ho (p := y) (by omega)
        rw [fX11_findFits_127]
        simp (disch := omega) only [ev_ck, ev_ci, ev_cv, ev_lt_, ↓reduceIte, ev_lens, ev_ix, ev_nz, ev_cl, ev_cll, ev_add, ev_addl, ev_ladd, ev_mul, ev_mull, ev_lmul, ev_sub, ev_subl, ev_lsub, ev_lt, ev_ltl, ev_llt, ev_le, ev_lel, ev_lle, ev_eq, ev_eql, ev_leq, ev_nm1, ev_nm5, ev_m1n, ev_neg1, ev_ltT, ev_ltF, ev_leT, ev_leF, ev_eqT, ev_eqF, ev_one0, ev_zero1, Nat.reduceAdd, Nat.reduceMul, Nat.reduceSub, ea_pI_eq, ev_pIn, ev_pIe, ea_pI_r, eq_self, e7, so, e33, yy, fX11_findFits_196]
        exact r1
      · have hb := Bool.eq_false_iff.mpr hb
        rw [hb, if_neg (by decide)] at so
        obtain ⟨M', r1, r2⟩ := ih f (y + 1) M3 (by omega) (by omega) (by omega) hF hR h34 (by rw [plk_s, hb, if_neg (by decide), List.append_nil]; exact hL)
        refine ⟨M', ?_, r2⟩
        rw [fX11_findFits_127]
        simp (disch := omega) only [ev_ck, ev_ci, ev_cv, ev_lt_, ↓reduceIte, ev_lens, ev_ix, ev_nz, ev_cl, ev_cll, ev_add, ev_addl, ev_ladd, ev_mul, ev_mull, ev_lmul, ev_sub, ev_subl, ev_lsub, ev_lt, ev_ltl, ev_llt, ev_le, ev_lel, ev_lle, ev_eq, ev_eql, ev_leq, ev_nm1, ev_nm5, ev_m1n, ev_neg1, ev_ltT, ev_ltF, ev_leT, ev_leF, ev_eqT, ev_eqF, ev_one0, ev_zero1, Nat.reduceAdd, Nat.reduceMul, Nat.reduceSub, ea_pI_eq, ev_pIn, ev_pIe, ea_pI_r, eq_self, e7, so, fX11_findFits_196]
        exact r1
  have outer : ∀ (d f x : Nat) (M3 : eM), th - x = d → x ≤ th → d < f → (∀ c k, (c ≠ 119 ∧ c ≠ 120 ∧ (c ≠ 100 ∨ (k ≠ 33 ∧ k ≠ 34))) → M3.1 c k = M2.1 c k) → M3.2.2 = M2.2.2 → M3.1 100 34 = nI (ct g x) → FL M3 v (pl g (n 7 + 1) x) → ∃ M', fX11_findFits_109 f (nI x) M3 = some M' ∧ (∀ c k, (c ≠ 119 ∧ c ≠ 120 ∧ (c ≠ 100 ∨ (k ≠ 33 ∧ k ≠ 34))) → M'.1 c k = M2.1 c k) ∧ M'.2.2 = M2.2.2 ∧ M'.1 100 34 = nI (ct g th) ∧ FL M' v (pl g (n 7 + 1) th) := by
    intro d
    induction d with
    | zero =>
      intro f x M3 hd hx hf hF hR h34 hL
      obtain ⟨f, rfl⟩ : ∃ f', f = f' + 1 := ⟨f - 1, by omega⟩
      obtain rfl : x = th := by omega
      have fr : FrW M2 M3 := ⟨fun c k h1 h2 => hF c k (by omega), hR⟩
      have e22 := (hC.kp ((F1.trans F2).trans fr).kp).1.2.2.2.2.2.2.2.2.1
      refine ⟨M3, ?_, hF, hR, h34, hL⟩
      simp (disch := omega) only [ev_ck, ev_ci, ev_cv, ev_lt_, ↓reduceIte, ev_lens, ev_ix, ev_nz, ev_cl, ev_cll, ev_add, ev_addl, ev_ladd, ev_mul, ev_mull, ev_lmul, ev_sub, ev_subl, ev_lsub, ev_lt, ev_ltl, ev_llt, ev_le, ev_lel, ev_lle, ev_eq, ev_eql, ev_leq, ev_nm1, ev_nm5, ev_m1n, ev_neg1, ev_ltT, ev_ltF, ev_leT, ev_leF, ev_eqT, ev_eqF, ev_one0, ev_zero1, Nat.reduceAdd, Nat.reduceMul, Nat.reduceSub, ea_pI_eq, ev_pIn, ev_pIe, ea_pI_r, eq_self, fX11_findFits_109, e22]
    | succ d ih =>
      intro f x M3 hd hx hf hF hR h34 hL
      obtain ⟨f, rfl⟩ : ∃ f', f = f' + 1 := ⟨f - 1, by omega⟩
      have fr : FrW M2 M3 := ⟨fun c k h1 h2 => hF c k (by omega), hR⟩
      have e22 := (hC.kp ((F1.trans F2).trans fr).kp).1.2.2.2.2.2.2.2.2.1
      obtain ⟨M4, s1, s2, s3, s4, s5⟩ := inner (fX11_findFits_202 (fX11_findFits_109 f)) x (M3.1 100 33) (by omega) (n 7 + 1) ea_N 0 M3 (by omega) (by omega) (by unfold ea_N; omega) hF hR h34 (by show FL M3 v (_ ++ []); rw [List.append_nil]; exact hL)
      have hln := pl_len g (show n 7 + 1 ≤ 4 by omega) x
      have hln2 := pl_len g (show n 7 + 1 ≤ 4 by omega) (x + 1)
      obtain ⟨-, -, p3, -⟩ := plk_pop (x := x) (show n 7 + 1 ≤ 4 by omega) (hgf x)
      have hct : ct g (x + 1) = ct g x + (if decide (mk (g x) ≠ 0) = true then 1 else 0) := rfl
      have hctl : ct g x ≤ x := cnt_le _ _
      have e33 := s5.1
      have es : (pl g (n 7 + 1) (x + 1)).length = (pl g (n 7 + 1) x).length + (plk (g x) x (n 7 + 1)).length := by rw [pl_s, List.length_append]
      obtain ⟨M', r1, r2⟩ := ih f (x + 1) (ea_pI M4 100 34 (nI (ct g (x + 1)))) (by omega) (by omega) (by omega) (fun c k hk => by rw [ea_pI_ne (by omega)]; exact s2 c k hk) s3 (by simp (disch := omega) only [ev_ck, ev_ci, ev_cv, ev_lt_, ↓reduceIte, ev_lens, ev_ix, ev_nz, ev_cl, ev_cll, ev_add, ev_addl, ev_ladd, ev_mul, ev_mull, ev_lmul, ev_sub, ev_subl, ev_lsub, ev_lt, ev_ltl, ev_llt, ev_le, ev_lel, ev_lle, ev_eq, ev_eql, ev_leq, ev_nm1, ev_nm5, ev_m1n, ev_neg1, ev_ltT, ev_ltF, ev_leT, ev_leF, ev_eqT, ev_eqF, ev_one0, ev_zero1, Nat.reduceAdd, Nat.reduceMul, Nat.reduceSub, ea_pI_eq, ev_pIn, ev_pIe, ea_pI_r, eq_self]) ⟨by simp (disch := omega) only [ev_ck, ev_ci, ev_cv, ev_lt_, ↓reduceIte, ev_lens, ev_ix, ev_nz, ev_cl, ev_cll, ev_add, ev_addl, ev_ladd, ev_mul, ev_mull, ev_lmul, ev_sub, ev_subl, ev_lsub, ev_lt, ev_ltl, ev_llt, ev_le, ev_lel, ev_lle, ev_eq, ev_eql, ev_leq, ev_nm1, ev_nm5, ev_m1n, ev_neg1, ev_ltT, ev_ltF, ev_leT, ev_leF, ev_eqT, ev_eqF, ev_one0, ev_zero1, Nat.reduceAdd, Nat.reduceMul, Nat.reduceSub, ea_pI_eq, ev_pIn, ev_pIe, ea_pI_r, eq_self]; exact s5.1, fun i hi => ⟨by simp (disch := omega) only [ev_ck, ev_ci, ev_cv, ev_lt_, ↓reduceIte, ev_lens, ev_ix, ev_nz, ev_cl, ev_cll, ev_add, ev_addl, ev_ladd, ev_mul, ev_mull, ev_lmul, ev_sub, ev_subl, ev_lsub, ev_lt, ev_ltl, ev_llt, ev_le, ev_lel, ev_lle, ev_eq, ev_eql, ev_leq, ev_nm1, ev_nm5, ev_m1n, ev_neg1, ev_ltT, ev_ltF, ev_leT, ev_leF, ev_eqT, ev_eqF, ev_one0, ev_zero1, Nat.reduceAdd, Nat.reduceMul, Nat.reduceSub, ea_pI_eq, ev_pIn, ev_pIe, ea_pI_r, eq_self]; exact (s5.2 i hi).1, by simp (disch := omega) only [ev_ck, ev_ci, ev_cv, ev_lt_, ↓reduceIte, ev_lens, ev_ix, ev_nz, ev_cl, ev_cll, ev_add, ev_addl, ev_ladd, ev_mul, ev_mull, ev_lmul, ev_sub, ev_subl, ev_lsub, ev_lt, ev_ltl, ev_llt, ev_le, ev_lel, ev_lle, ev_eq, ev_eql, ev_leq, ev_nm1, ev_nm5, ev_m1n, ev_neg1, ev_ltT, ev_ltF, ev_leT, ev_leF, ev_eqT, ev_eqF, ev_one0, ev_zero1, Nat.reduceAdd, Nat.reduceMul, Nat.reduceSub, ea_pI_eq, ev_pIn, ev_pIe, ea_pI_r, eq_self]; exact (s5.2 i hi).2⟩⟩
      refine ⟨M', ?_, r2⟩
      rw [fX11_findFits_109]
      simp (disch := omega) only [ev_ck, ev_ci, ev_cv, ev_lt_, ↓reduceIte, ev_lens, ev_ix, ev_nz, ev_cl, ev_cll, ev_add, ev_addl, ev_ladd, ev_mul, ev_mull, ev_lmul, ev_sub, ev_subl, ev_lsub, ev_lt, ev_ltl, ev_llt, ev_le, ev_lel, ev_lle, ev_eq, ev_eql, ev_leq, ev_nm1, ev_nm5, ev_m1n, ev_neg1, ev_ltT, ev_ltF, ev_leT, ev_leF, ev_eqT, ev_eqF, ev_one0, ev_zero1, Nat.reduceAdd, Nat.reduceMul, Nat.reduceSub, ea_pI_eq, ev_pIn, ev_pIe, ea_pI_r, eq_self, e22]
      refine (show fX11_findFits_127 _ ea_N (nI x) (M3.1 100 33) 0 M3 = _ from s1).trans ?_
      rw [hL.1]
      by_cases hz : mk (g x) = 0
      · rw [p3.mpr hz] at es
        have es : (pl g (n 7 + 1) (x + 1)).length = (pl g (n 7 + 1) x).length + 0 := es
        rw [hct, if_neg (by simp [hz])] at r1
        simp (disch := omega) only [ev_ck, ev_ci, ev_cv, ev_lt_, ↓reduceIte, ev_lens, ev_ix, ev_nz, ev_cl, ev_cll, ev_add, ev_addl, ev_ladd, ev_mul, ev_mull, ev_lmul, ev_sub, ev_subl, ev_lsub, ev_lt, ev_ltl, ev_llt, ev_le, ev_lel, ev_lle, ev_eq, ev_eql, ev_leq, ev_nm1, ev_nm5, ev_m1n, ev_neg1, ev_ltT, ev_ltF, ev_leT, ev_leF, ev_eqT, ev_eqF, ev_one0, ev_zero1, Nat.reduceAdd, Nat.reduceMul, Nat.reduceSub, ea_pI_eq, ev_pIn, ev_pIe, ea_pI_r, eq_self, fX11_findFits_202, fX11_findFits_221, e33, s4]
        exact r1
      · have : 0 < (plk (g x) x (n 7 + 1)).length := List.length_pos_iff.mpr (fun q => hz (p3.mp q))
        rw [hct, if_pos (by simp [hz])] at r1
        simp (disch := omega) only [ev_ck, ev_ci, ev_cv, ev_lt_, ↓reduceIte, ev_lens, ev_ix, ev_nz, ev_cl, ev_cll, ev_add, ev_addl, ev_ladd, ev_mul, ev_mull, ev_lmul, ev_sub, ev_subl, ev_lsub, ev_lt, ev_ltl, ev_llt, ev_le, ev_lel, ev_lle, ev_eq, ev_eql, ev_leq, ev_nm1, ev_nm5, ev_m1n, ev_neg1, ev_ltT, ev_ltF, ev_leT, ev_leF, ev_eqT, ev_eqF, ev_one0, ev_zero1, Nat.reduceAdd, Nat.reduceMul, Nat.reduceSub, ea_pI_eq, ev_pIn, ev_pIe, ea_pI_r, eq_self, fX11_findFits_202, fX11_findFits_221, e33, s4]
        exact r1
  obtain ⟨M', r1, r2, r3, r4, r5⟩ := outer th ea_N 0 (ea_pI (ea_pI M2 100 33 (0 : Int32)) 100 34 (0 : Int32)) (by omega) (by omega) (by unfold ea_N; omega) (fun c k hk => by simp (disch := omega) only [ev_ck, ev_ci, ev_cv, ev_lt_, ↓reduceIte, ev_lens, ev_ix, ev_nz, ev_cl, ev_cll, ev_add, ev_addl, ev_ladd, ev_mul, ev_mull, ev_lmul, ev_sub, ev_subl, ev_lsub, ev_lt, ev_ltl, ev_llt, ev_le, ev_lel, ev_lle, ev_eq, ev_eql, ev_leq, ev_nm1, ev_nm5, ev_m1n, ev_neg1, ev_ltT, ev_ltF, ev_leT, ev_leF, ev_eqT, ev_eqF, ev_one0, ev_zero1, Nat.reduceAdd, Nat.reduceMul, Nat.reduceSub, ea_pI_eq, ev_pIn, ev_pIe, ea_pI_r, eq_self]) rfl (by simp (disch := omega) only [ev_ck, ev_ci, ev_cv, ev_lt_, ↓reduceIte, ev_lens, ev_ix, ev_nz, ev_cl, ev_cll, ev_add, ev_addl, ev_ladd, ev_mul, ev_mull, ev_lmul, ev_sub, ev_subl, ev_lsub, ev_lt, ev_ltl, ev_llt, ev_le, ev_lel, ev_lle, ev_eq, ev_eql, ev_leq, ev_nm1, ev_nm5, ev_m1n, ev_neg1, ev_ltT, ev_ltF, ev_leT, ev_leF, ev_eqT, ev_eqF, ev_one0, ev_zero1, Nat.reduceAdd, Nat.reduceMul, Nat.reduceSub, ea_pI_eq, ev_pIn, ev_pIe, ea_pI_r, eq_self]; rfl) ⟨by simp (disch := omega) only [ev_ck, ev_ci, ev_cv, ev_lt_, ↓reduceIte, ev_lens, ev_ix, ev_nz, ev_cl, ev_cll, ev_add, ev_addl, ev_ladd, ev_mul, ev_mull, ev_lmul, ev_sub, ev_subl, ev_lsub, ev_lt, ev_ltl, ev_llt, ev_le, ev_lel, ev_lle, ev_eq, ev_eql, ev_leq, ev_nm1, ev_nm5, ev_m1n, ev_neg1, ev_ltT, ev_ltF, ev_leT, ev_leF, ev_eqT, ev_eqF, ev_one0, ev_zero1, Nat.reduceAdd, Nat.reduceMul, Nat.reduceSub, ea_pI_eq, ev_pIn, ev_pIe, ea_pI_r, eq_self]; rfl, fun i hi => absurd hi (Nat.not_lt_zero _)⟩
  refine ⟨M', ?_, r5, r4, (F1.trans F2).trans ⟨fun c k h1 h2 => r2 c k (by omega), r3⟩⟩
  have e0 := hC1.1.2.2.2.2.2.1.1.1
  have h0 := ho.1
  unfold fX11_findFits fX11_findFits_0
  rw [e1, ev_cv, show (0 : Int32).toNatClampNeg = 0 from rfl, e0, ea_ck_t (pn_nz (by omega) (by omega)), ev_lt_, ev_rem (by omega) (by omega) (by omega)]
  refine t1.trans ?_
  exact r1
end FM
