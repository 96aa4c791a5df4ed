section MA
variable {M : eM} {cc th : Nat} {n : Nat → Nat} {v : Nat → Nat → Nat} {o w q : Nat → Nat} {l t r : Nat → Nat → Nat}
def FrM (M M' : eM) : Prop := (∀ c k, c ≠ 125 → c ≠ 126 → M'.1 c k = M.1 c k) ∧ M'.2.2 = M.2.2
theorem FrM.kp {M M' : eM} (h : FrM M M') : Kp M M' := ⟨⟨fun c k hk => h.1 c k (by have := isInv_in hk; omega) (by have := isInv_in hk; omega), h.2⟩, fun c k a b => h.1 c k (by omega) (by omega)⟩
theorem py_mostAlike (hC0 : Ctx M cc n v th o w q l t r) {L : List (Nat × Nat)} (hL0 : FL M v L) (hLm : ∀ e, e ∈ L → e.1 < th ∧ e.2 < n 7 + 1) (hLl : L.length ≤ 3420) {col s hr : Nat} (hcol : col < n 0) (hs : s < n 5) (hh : hr ≤ 999) : ∃ m M', fX11_mostAlike (nI s) (nI col) (nI hr) M = some (nI m, M') ∧ MXT (fun z => lcn (fun e => cdv v o w e.1 (sp_hours n v s col (yrP v e.2) 0 + hr)) z L) m ∧ m ≤ 3420 ∧ FrM M M' := by
  have ho := hC0.1.2.2.2.1
  have h7 := ho.2.2.2.2.2.2.2.1
  -- the table cleared
  have clr : ∀ (d f k : Nat) (M1 : eM), 8192 - k = d → k ≤ 8192 → d < f → (∀ j, j < k → M1.1 126 j = 0) → FrM M M1 → ∃ M2, fX11_mostAlike_3 fX11_mostAlike_25 f (nI s) (nI col) (nI hr) (nI k) M1 = fX11_mostAlike_25 (nI s) (nI col) (nI hr) M2 ∧ (∀ j, j < 8192 → M2.1 126 j = 0) ∧ FrM M M2 := by
    intro d
    induction d with
    | zero =>
      intro f k M1 hd hk hf h0 hF
      obtain ⟨f, rfl⟩ : ∃ f', f = f' + 1 := ⟨f - 1, by omega⟩
      refine ⟨M1, ?_, fun j hj => h0 j (by omega), hF⟩
      simp (disch := omega) only [ev_ck, ev_ci, ev_cv, ev_lt_, ↓reduceIte, ev_lens, ev_ix, ev_nz, ev_cl, ev_cll, ev_add, ev_addl, ev_ladd, ev_mul, ev_mull, ev_lmul, ev_sub, ev_subl, ev_lsub, ev_lt, ev_ltl, ev_llt, ev_le, ev_lel, ev_lle, ev_eq, ev_eql, ev_leq, ev_nm1, ev_nm5, ev_m1n, ev_neg1, ev_ltT, ev_ltF, ev_leT, ev_leF, ev_eqT, ev_eqF, ev_one0, ev_zero1, Nat.reduceAdd, Nat.reduceMul, Nat.reduceSub, ea_pI_eq, ev_pIn, ev_pIe, ea_pI_r, eq_self, fX11_mostAlike_3]
    | succ d ih =>
      intro f k M1 hd hk hf h0 hF
      obtain ⟨f, rfl⟩ : ∃ f', f = f' + 1 := ⟨f - 1, by omega⟩
      obtain ⟨M2, r1, r2⟩ := ih f (k + 1) (ea_pI M1 126 k 0) (by omega) (by omega) (by omega) (fun j hj => by
        by_cases e : j = k
        · rw [e, ea_pI_eq]
        · rw [ea_pI_ne (by omega)]; exact h0 j (by omega)) ⟨fun c k a b => by rw [ea_pI_ne (by omega)]; exact hF.1 c k a b, hF.2⟩
      refine ⟨M2, ?_, r2⟩
      simp (disch := omega) only [ev_ck, ev_ci, ev_cv, ev_lt_, ↓reduceIte, ev_lens, ev_ix, ev_nz, ev_cl, ev_cll, ev_add, ev_addl, ev_ladd, ev_mul, ev_mull, ev_lmul, ev_sub, ev_subl, ev_lsub, ev_lt, ev_ltl, ev_llt, ev_le, ev_lel, ev_lle, ev_eq, ev_eql, ev_leq, ev_nm1, ev_nm5, ev_m1n, ev_neg1, ev_ltT, ev_ltF, ev_leT, ev_leF, ev_eqT, ev_eqF, ev_one0, ev_zero1, Nat.reduceAdd, Nat.reduceMul, Nat.reduceSub, ea_pI_eq, ev_pIn, ev_pIe, ea_pI_r, eq_self, fX11_mostAlike_3]
      exact r1
  obtain ⟨M1, c1, c2, c3⟩ := clr 8192 ea_N 0 M (by omega) (by omega) (by unfold ea_N; omega) (fun j hj => by omega) ⟨fun _ _ _ _ => rfl, rfl⟩
  generalize hF : (fun e : Nat × Nat => cdv v o w e.1 (sp_hours n v s col (yrP v e.2) 0 + hr)) = F
  generalize hA : (fun i => F (L.getD i (0, 0))) = A
  have hAi : ∀ i, A i = F (L.getD i (0, 0)) := fun i => by rw [← hA]
  have hAb : ∀ i, A i < 1000000 := fun i => by rw [hAi, ← hF]; exact cdv_lt
  have lp : ∀ (d f i : Nat) (m : Nat) (M2 : eM) (C Y : Nat → Nat), L.length - i = d → i ≤ L.length → d < f → TBL M2 A i C Y → MXT (muA A i) m → m ≤ i → FrM M M2 → ∃ m' M', fX11_mostAlike_31 f (nI s) (nI col) (nI hr) (nI m) (nI i) M2 = some (nI m', M') ∧ MXT (muA A L.length) m' ∧ m' ≤ 3420 ∧ FrM M M' := by
    intro d
    induction d with
    | zero =>
      intro f i m M2 C Y hd hi hf hT hm hmi hFr
      obtain ⟨f, rfl⟩ : ∃ f', f = f' + 1 := ⟨f - 1, by omega⟩
      have ei : i = L.length := by omega
      have e33 : M2.1 100 33 = nI L.length := by rw [hFr.1 _ _ (by omega) (by omega)]; exact hL0.1
      refine ⟨m, M2, ?_, by rw [← ei]; exact hm, by omega, hFr⟩
      simp (disch := omega) only [ev_ck, ev_ci, ev_cv, ev_lt_, ↓reduceIte, ev_lens, ev_ix, ev_nz, ev_cl, ev_cll, ev_add, ev_addl, ev_ladd, ev_mul, ev_mull, ev_lmul, ev_sub, ev_subl, ev_lsub, ev_lt, ev_ltl, ev_llt, ev_le, ev_lel, ev_lle, ev_eq, ev_eql, ev_leq, ev_nm1, ev_nm5, ev_m1n, ev_neg1, ev_ltT, ev_ltF, ev_leT, ev_leF, ev_eqT, ev_eqF, ev_one0, ev_zero1, Nat.reduceAdd, Nat.reduceMul, Nat.reduceSub, ea_pI_eq, ev_pIn, ev_pIe, ea_pI_r, eq_self, fX11_mostAlike_31, e33]
    | succ d ih =>
      intro f i m M2 C Y hd hi hf hT hm hmi hFr
      obtain ⟨f, rfl⟩ : ∃ f', f = f' + 1 := ⟨f - 1, by omega⟩
      have hC := hC0.kp hFr.kp
      have hY := hC.1.2.2.2.2.2.1
      have e33 : M2.1 100 33 = nI L.length := by rw [hFr.1 _ _ (by omega) (by omega)]; exact hL0.1
      have g1 : M2.1 119 i = nI (L.getD i (0, 0)).1 := by rw [hFr.1 _ _ (by omega) (by omega)]; exact (hL0.2 i (by omega)).1
      have g2 : M2.1 120 i = nI (yrP v (L.getD i (0, 0)).2) := by rw [hFr.1 _ _ (by omega) (by omega)]; exact (hL0.2 i (by omega)).2
      have hm0' := hLm _ (getD_mem (z := (0, 0)) (show i < L.length by omega))
      have eA : A i = cdv v o w (L.getD i (0, 0)).1 (sp_hours n v s col (yrP v (L.getD i (0, 0)).2) 0 + hr) := by rw [hAi, ← hF]
      generalize L.getD i (0, 0) = e at g1 g2 hm0' eA
      have hle := sp_hours_le ho hs hcol (year := yrP v e.2) (side := 0)
      have hrs' := py_hours hY ho hs hcol (yrP_le ho hm0'.2) (side := 0) (by decide)
      have hrs' : fX11_hoursOf (nI s) (nI col) (nI (yrP v e.2)) 0 M2 = _ := hrs'
      have sh := fun c (hc : c < 3) => py_colour hY ho hC.1.2.2.2.2.2.2.2.2 hC.1.2.2.2.2.2.2.1.1 hm0'.1 (show sp_hours n v s col (yrP v e.2) 0 + hr < 2 ^ 31 by omega) hc
      have s0 : fX11_colourOf (nI e.1) (nI (sp_hours n v s col (yrP v e.2) 0 + hr)) 0 M2 = _ := sh 0 (by decide)
      have s1 : fX11_colourOf (nI e.1) (nI (sp_hours n v s col (yrP v e.2) 0 + hr)) 1 M2 = _ := sh 1 (by decide)
      have s2 : fX11_colourOf (nI e.1) (nI (sp_hours n v s col (yrP v e.2) 0 + hr)) 2 M2 = _ := sh 2 (by decide)
      obtain ⟨e0, q1, q2⟩ := tb_empty hT (by omega) (A i)
      obtain ⟨e1, p1, p2, p3, p4⟩ := py_probe hT (by omega) (hAb i) (x1 := nI s) (x2 := nI col) (x3 := nI hr) (x4 := nI m) (x5 := nI i) (fX11_mostAlike_157 (fX11_mostAlike_31 f)) q1 q2 e0 ea_N 0 (by omega) (by omega) (by unfold ea_N; omega) (fun e' he' => by omega)
      obtain ⟨ys, hT2⟩ := tb_ins hT (by omega) (hAb i) (e1 := e1) (by omega) p2 p3
      have sl : slt (A i) e1 < 8192 := slt_lt
      have y6 := (hT.1 (slt (A i) e1) sl).1
      have ms := muA_s A i (A i)
      rw [if_pos rfl] at ms
      rw [ys] at y6
      have hmu : muA A i (A i) ≤ i := cnt_le _ _
      have hx2 : mx2 m (muA A (i + 1) (A i)) ≤ i + 1 := mx2_le (by omega) (by omega)
      obtain ⟨m', M3, r1, r2⟩ := ih f (i + 1) (mx2 m (muA A (i + 1) (A i))) _ _ _ (by omega) (by omega) (by omega) hT2 (MXT_s hm) hx2 ⟨fun c k a b => by simp (disch := omega) only [ev_ck, ev_ci, ev_cv, ev_lt_, ↓reduceIte, ev_lens, ev_ix, ev_nz, ev_cl, ev_cll, ev_add, ev_addl, ev_ladd, ev_mul, ev_mull, ev_lmul, ev_sub, ev_subl, ev_lsub, ev_lt, ev_ltl, ev_llt, ev_le, ev_lel, ev_lle, ev_eq, ev_eql, ev_leq, ev_nm1, ev_nm5, ev_m1n, ev_neg1, ev_ltT, ev_ltF, ev_leT, ev_leF, ev_eqT, ev_eqF, ev_one0, ev_zero1, Nat.reduceAdd, Nat.reduceMul, Nat.reduceSub, ea_pI_eq, ev_pIn, ev_pIe, ea_pI_r, eq_self]; exact hFr.1 c k a b, hFr.2⟩
      refine ⟨m', M3, ?_, r2⟩
      have ec : nI (10000 * sp_col v o w e.1 (sp_hours n v s col (yrP v e.2) 0 + hr) 0 + 100 * sp_col v o w e.1 (sp_hours n v s col (yrP v e.2) 0 + hr) 1 + sp_col v o w e.1 (sp_hours n v s col (yrP v e.2) 0 + hr) 2) = nI (A i) := by
        have ez : 10000 * sp_col v o w e.1 (sp_hours n v s col (yrP v e.2) 0 + hr) 0 + 100 * sp_col v o w e.1 (sp_hours n v s col (yrP v e.2) 0 + hr) 1 + sp_col v o w e.1 (sp_hours n v s col (yrP v e.2) 0 + hr) 2 = A i := by
          rw [eA]
          unfold cdv
          omega
        rw [ez]
      have hsl0 : nI (A i * 31) - nI (A i * 31) / (8192 : Int32) * (8192 : Int32) = nI (slt (A i) 0) := by
        have hb := hAb i
        rw [show slt (A i) 0 = A i * 31 % 8192 from by unfold slt hm0; omega]
        exact ev_rem (b := 8192) (by omega) (by decide) (by decide)
      rw [fX11_mostAlike_31]
      simp (disch := omega) only [ev_ck, ev_ci, ev_cv, ev_lt_, ↓reduceIte, ev_lens, ev_ix, ev_nz, ev_cl, ev_cll, ev_add, ev_addl, ev_ladd, ev_mul, ev_mull, ev_lmul, ev_lsub, ev_lt, ev_ltl, ev_llt, ev_le, ev_lel, ev_lle, ev_eq, ev_eql, ev_leq, ev_nm1, ev_nm5, ev_m1n, ev_neg1, ev_ltT, ev_ltF, ev_leT, ev_leF, ev_eqT, ev_eqF, ev_one0, ev_zero1, Nat.reduceAdd, Nat.reduceMul, Nat.reduceSub, ea_pI_eq, ev_pIn, ev_pIe, ea_pI_r, eq_self, e33, g1, g2, hrs', s0, s1, s2, ec]
      rw [hsl0, p4]
      unfold mx2 at r1
      by_cases hq : muA A (i + 1) (A i) ≤ m
      · rw [if_pos hq] at r1
        simp (disch := omega) only [ev_ck, ev_ci, ev_cv, ev_lt_, ↓reduceIte, ev_lens, ev_ix, ev_nz, ev_cl, ev_cll, ev_add, ev_addl, ev_ladd, ev_mul, ev_mull, ev_lmul, ev_sub, ev_subl, ev_lsub, ev_lt, ev_ltl, ev_llt, ev_le, ev_lel, ev_lle, ev_eq, ev_eql, ev_leq, ev_nm1, ev_nm5, ev_m1n, ev_neg1, ev_ltT, ev_ltF, ev_leT, ev_leF, ev_eqT, ev_eqF, ev_one0, ev_zero1, Nat.reduceAdd, Nat.reduceMul, Nat.reduceSub, ea_pI_eq, ev_pIn, ev_pIe, ea_pI_r, eq_self, fX11_mostAlike_157, y6, ← ms, fX11_mostAlike_201]
        exact r1
      · rw [if_neg hq] at r1
        simp (disch := omega) only [ev_ck, ev_ci, ev_cv, ev_lt_, ↓reduceIte, ev_lens, ev_ix, ev_nz, ev_cl, ev_cll, ev_add, ev_addl, ev_ladd, ev_mul, ev_mull, ev_lmul, ev_sub, ev_subl, ev_lsub, ev_lt, ev_ltl, ev_llt, ev_le, ev_lel, ev_lle, ev_eq, ev_eql, ev_leq, ev_nm1, ev_nm5, ev_m1n, ev_neg1, ev_ltT, ev_ltF, ev_leT, ev_leF, ev_eqT, ev_eqF, ev_one0, ev_zero1, Nat.reduceAdd, Nat.reduceMul, Nat.reduceSub, ea_pI_eq, ev_pIn, ev_pIe, ea_pI_r, eq_self, fX11_mostAlike_157, y6, ← ms, fX11_mostAlike_201]
        exact r1
  have t0 : TBL M1 A 0 (fun _ => 0) (fun _ => 0) := by
    refine ⟨fun k hk => ⟨c2 k hk, Nat.le_refl _⟩, fun k _ hy => absurd hy (Nat.lt_irrefl _), fun z hz => absurd hz (Nat.lt_irrefl _), ?_⟩
    have : ∀ k, cnt (fun _ => decide (0 < 0)) k = 0 := by
      intro k
      induction k with
      | zero => rfl
      | succ k ih => rw [cnt_s, ih]; rfl
    exact Nat.le_of_eq (this 8192)
  obtain ⟨m', M3, r1, r2, r3, r4⟩ := lp L.length ea_N 0 0 M1 _ _ (by omega) (by omega) (by unfold ea_N; omega) t0 ⟨fun z => Nat.le_refl _, Or.inl rfl⟩ (Nat.le_refl _) c3
  refine ⟨m', M3, ?_, ?_, r3, r4⟩
  · unfold fX11_mostAlike fX11_mostAlike_0
    refine (show fX11_mostAlike_3 _ ea_N (nI s) (nI col) (nI hr) 0 M = _ from c1).trans ?_
    exact r1
  · have e : ∀ z, muA A L.length z = lcn F z L := fun z => by
      have := muA_take F L z L.length (Nat.le_refl _)
      rw [List.take_length] at this
      rw [← this, ← hA]
    refine ⟨fun z => by show lcn F z L ≤ m'; rw [← e z]; exact r2.1 z, ?_⟩
    rcases r2.2 with h0 | ⟨z, hz⟩
    · exact Or.inl h0
    · exact Or.inr ⟨z, by show lcn F z L = m'; rw [← e z]; exact hz⟩
end MA
