def bes (n : Nat → Nat) (v : Nat → Nat → Nat) (th : Nat) (o w q : Nat → Nat) (l t r : Nat → Nat → Nat) (s kn cell : Nat) : Bool := decide ((sgs q l t r cell kn).length = 0) || decide ((LL n v th o w q l t r s kn cell).length ≠ 0)
def acc (b : Nat → Bool) : Nat → Int32
  | 0 => 0
  | s + 1 => if b s = true then acc b s ||| ((1 : Int32) <<< (nI s &&& 31)) else acc b s
theorem fkN_le {ok : Nat → Bool} {i N : Nat} (h : fkN ok i = false) (hi : i ≤ N) : fkN ok N = false := by
  have := fkN_f h (N - i)
  rwa [show i + (N - i) = N by omega] at this
section ST
variable {M : eM} {cc th : Nat} {n : Nat → Nat} {v : Nat → Nat → Nat} {o w q : Nat → Nat} {l t r : Nat → Nat → Nat} {s kn : Nat}
theorem px_mayBe (hC : Ctx M cc n v th o w q l t r) (hs : s < n 5) (hk : kn < 1000) : ∃ M', fX10_mayBe (nI s) (nI kn) M = some (if fkN (bes n v th o w q l t r s kn) (n 0 * n 1) = true then 1 else 0, M') ∧ Kp M M' := by
  have ho := hC.1.2.2.2.1
  have hcl : n 0 * n 1 ≤ 48 := Nat.mul_le_mul ho.1.2 ho.2.1.2
  have gcs := fun M1 (h1 : Ctx M1 cc n v th o w q l t r) => gx_cells h1.1
  generalize hN : n 0 * n 1 = N at hcl gcs
  have lp : ∀ (d k i : Nat) (M1 : eM), N - i = d → i ≤ N → d < k → Kp M M1 → fkN (bes n v th o w q l t r s kn) i = true → ∃ M2, fX10_mayBe_2 k (nI s) (nI kn) (nI i) M1 = some (if fkN (bes n v th o w q l t r s kn) N = true then 1 else 0, M2) ∧ Kp M M2 := by
    intro d
    induction d with
    | zero =>
      intro k i M1 hd hi hk2 hK hb
      obtain ⟨k, rfl⟩ : ∃ f', k = f' + 1 := ⟨k - 1, by omega⟩
      obtain rfl : i = N := by omega
      have gc := gcs M1 (hC.kp hK)
      have hr := (hC.kp hK).1.2.1
      refine ⟨M1, ?_, hK⟩
      rw [if_pos hb, fX10_mayBe_2, hr]
      simp (disch := omega) only [ev_ck, ev_ci, ev_cv, ev_lt_, ↓reduceIte, ev_lens, ev_ix, ev_nz, ev_cl, ev_cll, ev_add, ev_addl, ev_ladd, ev_mul, ev_mull, ev_lmul, ev_sub, ev_subl, ev_lsub, ev_lt, ev_ltl, ev_llt, ev_le, ev_lel, ev_lle, ev_eq, ev_eql, ev_leq, ev_nm1, ev_nm5, ev_m1n, ev_neg1, ev_ltT, ev_ltF, ev_leT, ev_leF, ev_eqT, ev_eqF, ev_one0, ev_zero1, Nat.reduceAdd, Nat.reduceMul, Nat.reduceSub, ea_pI_eq, ev_pIn, ev_pIe, ea_pI_r, eq_self, pn_is hC.1.1, gc]
    | succ d ih =>
      intro k i M1 hd hi hk2 hK hb
      obtain ⟨k, rfl⟩ : ∃ f', k = f' + 1 := ⟨k - 1, by omega⟩
      have hC1 := hC.kp hK
      have gc := gcs M1 hC1
      have hr := hC1.1.2.1
      have bl := px_blank hC1 (cell := i) (by omega) hk
      rw [fX10_mayBe_2, hr]
      by_cases hz : sgs q l t r i kn = []
      · obtain ⟨M2, r1, r2⟩ := ih k (i + 1) M1 (by omega) (by omega) (by omega) hK (by rw [fkN_s, hb, Bool.true_and]; unfold bes; rw [hz]; rfl)
        refine ⟨M2, ?_, r2⟩
        rw [if_pos hz] at bl
        simp (disch := omega) only [ev_ck, ev_ci, ev_cv, ev_lt_, ↓reduceIte, ev_lens, ev_ix, ev_nz, ev_cl, ev_cll, ev_add, ev_addl, ev_ladd, ev_mul, ev_mull, ev_lmul, ev_sub, ev_subl, ev_lsub, ev_lt, ev_ltl, ev_llt, ev_le, ev_lel, ev_lle, ev_eq, ev_eql, ev_leq, ev_nm1, ev_nm5, ev_m1n, ev_neg1, ev_ltT, ev_ltF, ev_leT, ev_leF, ev_eqT, ev_eqF, ev_one0, ev_zero1, Nat.reduceAdd, Nat.reduceMul, Nat.reduceSub, ea_pI_eq, ev_pIn, ev_pIe, ea_pI_r, eq_self, pn_is hC.1.1, gc, bl, fX10_mayBe_50]
        exact r1
      · rw [if_neg hz] at bl
        have hz0 : (sgs q l t r i kn).length ≠ 0 := fun e => hz (List.eq_nil_of_length_eq_zero e)
        obtain ⟨M2, e2, f2, r2⟩ := px_find (a := 50) (Or.inl rfl) hC1 (cell := i) (by omega) hk hs
        have f6 : M2.1 50 6 = nI (LL n v th o w q l t r s kn i).length := f2.2.1
        have hl := LL_len hC (s := s) (kn := kn) (cell := i)
        by_cases hL : (LL n v th o w q l t r s kn i).length = 0
        · refine ⟨M2, ?_, hK.trans (r2.kp (Or.inl rfl))⟩
          rw [fkN_le (i := i + 1) (N := N) (by rw [fkN_s, hb, Bool.true_and]; unfold bes; rw [decide_eq_false hz0, hL]; rfl) (by omega), if_neg (by decide)]
          simp (disch := omega) only [ev_ck, ev_ci, ev_cv, ev_lt_, ↓reduceIte, ev_lens, ev_ix, ev_nz, ev_cl, ev_cll, ev_add, ev_addl, ev_ladd, ev_mul, ev_mull, ev_lmul, ev_sub, ev_subl, ev_lsub, ev_lt, ev_ltl, ev_llt, ev_le, ev_lel, ev_lle, ev_eq, ev_eql, ev_leq, ev_nm1, ev_nm5, ev_m1n, ev_neg1, ev_ltT, ev_ltF, ev_leT, ev_leF, ev_eqT, ev_eqF, ev_one0, ev_zero1, Nat.reduceAdd, Nat.reduceMul, Nat.reduceSub, ea_pI_eq, ev_pIn, ev_pIe, ea_pI_r, eq_self, pn_is hC.1.1, gc, bl, e2, f6]
        · obtain ⟨M3, r3, r4⟩ := ih k (i + 1) M2 (by omega) (by omega) (by omega) (hK.trans (r2.kp (Or.inl rfl))) (by rw [fkN_s, hb, Bool.true_and]; unfold bes; rw [decide_eq_false hz0, decide_eq_true hL]; rfl)
          refine ⟨M3, ?_, r4⟩
          simp (disch := omega) only [ev_ck, ev_ci, ev_cv, ev_lt_, ↓reduceIte, ev_lens, ev_ix, ev_nz, ev_cl, ev_cll, ev_add, ev_addl, ev_ladd, ev_mul, ev_mull, ev_lmul, ev_sub, ev_subl, ev_lsub, ev_lt, ev_ltl, ev_llt, ev_le, ev_lel, ev_lle, ev_eq, ev_eql, ev_leq, ev_nm1, ev_nm5, ev_m1n, ev_neg1, ev_ltT, ev_ltF, ev_leT, ev_leF, ev_eqT, ev_eqF, ev_one0, ev_zero1, Nat.reduceAdd, Nat.reduceMul, Nat.reduceSub, ea_pI_eq, ev_pIn, ev_pIe, ea_pI_r, eq_self, pn_is hC.1.1, gc, bl, e2, f6, fX10_mayBe_50]
          exact r3
  exact lp N ea_N 0 M (by omega) (by omega) (by unfold ea_N; omega) (Kp.rf M) rfl
theorem py_mayBe (hC : Ctx M cc n v th o w q l t r) (hs : s < n 5) (hk : kn < 1000) (x2 : Int32) (k89 : Int32 → Int32 → Int32 → Int32 → eM → Option (Int32 × eM)) : ∃ M', fX11_stories_30 k89 ea_N (nI kn) x2 (nI s) 1 0 M = k89 (nI kn) x2 (nI s) (if fkN (bes n v th o w q l t r s kn) (n 0 * n 1) = true then 1 else 0) M' ∧ Kp M M' := by
  have ho := hC.1.2.2.2.1
  have hcl : n 0 * n 1 ≤ 48 := Nat.mul_le_mul ho.1.2 ho.2.1.2
  have gcs := fun M1 (h1 : Ctx M1 cc n v th o w q l t r) => gy_cells h1.1
  generalize hN : n 0 * n 1 = N at hcl gcs
  have lp : ∀ (d k i : Nat) (M1 : eM), N - i = d → i ≤ N → d < k → Kp M M1 → ∃ M2, fX11_stories_30 k89 k (nI kn) x2 (nI s) (if fkN (bes n v th o w q l t r s kn) i = true then 1 else 0) (nI i) M1 = k89 (nI kn) x2 (nI s) (if fkN (bes n v th o w q l t r s kn) N = true then 1 else 0) M2 ∧ Kp M M2 := by
    intro d
    induction d with
    | zero =>
      intro k i M1 hd hi hk2 hK
      obtain ⟨k, rfl⟩ : ∃ f', k = f' + 1 := ⟨k - 1, by omega⟩
      obtain rfl : i = N := by omega
      have gc := gcs M1 (hC.kp hK)
      refine ⟨M1, ?_, hK⟩
      rw [fX11_stories_30, gc]
      simp (disch := omega) only [ev_ck, ev_ci, ev_cv, ev_lt_, ↓reduceIte, ev_lens, ev_ix, ev_nz, ev_cl, ev_cll, ev_add, ev_addl, ev_ladd, ev_mul, ev_mull, ev_lmul, ev_sub, ev_subl, ev_lsub, ev_lt, ev_ltl, ev_llt, ev_le, ev_lel, ev_lle, ev_eq, ev_eql, ev_leq, ev_nm1, ev_nm5, ev_m1n, ev_neg1, ev_ltT, ev_ltF, ev_leT, ev_leF, ev_eqT, ev_eqF, ev_one0, ev_zero1, Nat.reduceAdd, Nat.reduceMul, Nat.reduceSub, ea_pI_eq, ev_pIn, ev_pIe, ea_pI_r, eq_self]
    | succ d ih =>
      intro k i M1 hd hi hk2 hK
      obtain ⟨k, rfl⟩ : ∃ f', k = f' + 1 := ⟨k - 1, by omega⟩
      have hC1 := hC.kp hK
      have gc := gcs M1 hC1
      cases hb : fkN (bes n v th o w q l t r s kn) i with
      | false =>
        refine ⟨M1, ?_, hK⟩
        rw [fkN_le hb hi, fX11_stories_30, gc]
        simp (disch := omega) only [ev_ck, ev_ci, ev_cv, ev_lt_, ↓reduceIte, ev_lens, ev_ix, ev_nz, ev_cl, ev_cll, ev_add, ev_addl, ev_ladd, ev_mul, ev_mull, ev_lmul, ev_sub, ev_subl, ev_lsub, ev_lt, ev_ltl, ev_llt, ev_le, ev_lel, ev_lle, ev_eq, ev_eql, ev_leq, ev_nm1, ev_nm5, ev_m1n, ev_neg1, ev_ltT, ev_ltF, ev_leT, ev_leF, ev_eqT, ev_eqF, ev_one0, ev_zero1, Nat.reduceAdd, Nat.reduceMul, Nat.reduceSub, ea_pI_eq, ev_pIn, ev_pIe, ea_pI_r, eq_self, Bool.false_eq_true]
      | true =>
        obtain ⟨M2, e2, w2, r2⟩ := py_words hC1 (cell := i) (by omega) hk
        have hSl : (sgs q l t r i kn).length ≤ 22 := Nat.le_trans (sg_upto_len (q 1)) (by have := hC.2.1.1.2.1; omega)
        rw [fX11_stories_30, gc]
        by_cases hz : (sgs q l t r i kn).length = 0
        · obtain ⟨M3, r3, r4⟩ := ih k (i + 1) M2 (by omega) (by omega) (by omega) (hK.trans r2.kp)
          rw [fkN_s, hb, Bool.true_and, show bes n v th o w q l t r s kn i = true from by unfold bes; rw [hz]; rfl, if_pos rfl] at r3
          refine ⟨M3, ?_, r4⟩
          simp (disch := omega) only [ev_ck, ev_ci, ev_cv, ev_lt_, ↓reduceIte, ev_lens, ev_ix, ev_nz, ev_cl, ev_cll, ev_add, ev_addl, ev_ladd, ev_mul, ev_mull, ev_lmul, ev_sub, ev_subl, ev_lsub, ev_lt, ev_ltl, ev_llt, ev_le, ev_lel, ev_lle, ev_eq, ev_eql, ev_leq, ev_nm1, ev_nm5, ev_m1n, ev_neg1, ev_ltT, ev_ltF, ev_leT, ev_leF, ev_eqT, ev_eqF, ev_one0, ev_zero1, Nat.reduceAdd, Nat.reduceMul, Nat.reduceSub, ea_pI_eq, ev_pIn, ev_pIe, ea_pI_r, eq_self, e2, w2.1, fX11_stories_83]
          exact r3
        · obtain ⟨M4, e4, f4, g4, r4⟩ := py_findFits (hC1.kp r2.kp) (cell := i) (by omega) hk hs
          have f6 : M4.1 100 33 = nI (LL n v th o w q l t r s kn i).length := f4.1
          have hl := LL_len hC (s := s) (kn := kn) (cell := i)
          obtain ⟨M3, r3, r5⟩ := ih k (i + 1) M4 (by omega) (by omega) (by omega) ((hK.trans r2.kp).trans r4.kp)
          rw [fkN_s, hb, Bool.true_and] at r3
          refine ⟨M3, ?_, r5⟩
          by_cases hL : (LL n v th o w q l t r s kn i).length = 0
          · rw [show bes n v th o w q l t r s kn i = false from by unfold bes; rw [decide_eq_false hz, hL]; rfl, if_neg (by decide)] at r3
            simp (disch := omega) only [ev_ck, ev_ci, ev_cv, ev_lt_, ↓reduceIte, ev_lens, ev_ix, ev_nz, ev_cl, ev_cll, ev_add, ev_addl, ev_ladd, ev_mul, ev_mull, ev_lmul, ev_sub, ev_subl, ev_lsub, ev_lt, ev_ltl, ev_llt, ev_le, ev_lel, ev_lle, ev_eq, ev_eql, ev_leq, ev_nm1, ev_nm5, ev_m1n, ev_neg1, ev_ltT, ev_ltF, ev_leT, ev_leF, ev_eqT, ev_eqF, ev_one0, ev_zero1, Nat.reduceAdd, Nat.reduceMul, Nat.reduceSub, ea_pI_eq, ev_pIn, ev_pIe, ea_pI_r, eq_self, e2, w2.1, e4, f6, fX11_stories_83, fX11_stories_81]
            exact r3
          · rw [show bes n v th o w q l t r s kn i = true from by unfold bes; rw [decide_eq_false hz, decide_eq_true hL]; rfl, if_pos rfl] at r3
            simp (disch := omega) only [ev_ck, ev_ci, ev_cv, ev_lt_, ↓reduceIte, ev_lens, ev_ix, ev_nz, ev_cl, ev_cll, ev_add, ev_addl, ev_ladd, ev_mul, ev_mull, ev_lmul, ev_sub, ev_subl, ev_lsub, ev_lt, ev_ltl, ev_llt, ev_le, ev_lel, ev_lle, ev_eq, ev_eql, ev_leq, ev_nm1, ev_nm5, ev_m1n, ev_neg1, ev_ltT, ev_ltF, ev_leT, ev_leF, ev_eqT, ev_eqF, ev_one0, ev_zero1, Nat.reduceAdd, Nat.reduceMul, Nat.reduceSub, ea_pI_eq, ev_pIn, ev_pIe, ea_pI_r, eq_self, e2, w2.1, e4, f6, fX11_stories_83, fX11_stories_81]
            exact r3
  exact lp N ea_N 0 M (by omega) (by omega) (by unfold ea_N; omega) (Kp.rf M)
end ST
theorem sz_stories (x1 : Int32) : ea_st InvZ (fX10_stories x1) (fX11_stories x1) := by
  refine ea_qz (fun M c n v th o w q l t r hC => ?_)
  have ho := hC.1.2.2.2.1
  have h5 := ho.2.2.2.2.2.1
  have gx2 := gx_step (M := M) x1
  rcases (pb_01 x1 0 (nI 1000 - 1)) with hb2 | hb2
  · refine ⟨-2, ⟨M, by unfold fX10_stories fX10_stories_0; rw [gx2, hb2, ev_ci, if_pos rfl], Kp.rf M⟩, fun M1 h1 => ⟨M1, ?_, Kp.rf M1⟩⟩
    have gy2 := gy_step (M := M1) x1
    unfold fX11_stories fX11_stories_0
    rw [gy2, hb2, ev_ci, if_pos rfl]
  obtain ⟨kn, hk, rfl⟩ := pb_nat0 (by decide) hb2
  generalize hB : (fun s => fkN (bes n v th o w q l t r s kn) (n 0 * n 1)) = B
  have hBs : ∀ s, fkN (bes n v th o w q l t r s kn) (n 0 * n 1) = B s := fun s => by rw [← hB]
  refine ⟨acc B (n 5), ?_, fun M3 h3 => ?_⟩
  · have lp : ∀ (d k s : Nat) (M1 : eM), n 5 - s = d → s ≤ n 5 → d < k → Kp M M1 → ∃ M2, fX10_stories_14 k (nI kn) (acc B s) (nI s) M1 = some (acc B (n 5), M2) ∧ Kp M M2 := by
      intro d
      induction d with
      | zero =>
        intro k s M1 hd hs hk2 hK
        obtain ⟨k, rfl⟩ : ∃ f', k = f' + 1 := ⟨k - 1, by omega⟩
        obtain rfl : s = n 5 := by omega
        have hC1 := (hC.kp hK).1
        refine ⟨M1, ?_, hK⟩
        rw [fX10_stories_14, hC1.2.1]
        simp (disch := omega) only [ev_ck, ev_ci, ev_cv, ev_lt_, ↓reduceIte, ev_lens, ev_ix, ev_nz, ev_cl, ev_cll, ev_add, ev_addl, ev_ladd, ev_mul, ev_mull, ev_lmul, ev_sub, ev_subl, ev_lsub, ev_lt, ev_ltl, ev_llt, ev_le, ev_lel, ev_lle, ev_eq, ev_eql, ev_leq, ev_nm1, ev_nm5, ev_m1n, ev_neg1, ev_ltT, ev_ltF, ev_leT, ev_leF, ev_eqT, ev_eqF, ev_one0, ev_zero1, Nat.reduceAdd, Nat.reduceMul, Nat.reduceSub, ea_pI_eq, ev_pIn, ev_pIe, ea_pI_r, eq_self, pn_is hC.1.1, hC1.2.2.2.2.1.1.2.2.2.2.2.1]
      | succ d ih =>
        intro k s M1 hd hs hk2 hK
        obtain ⟨k, rfl⟩ : ∃ f', k = f' + 1 := ⟨k - 1, by omega⟩
        have hC1 := (hC.kp hK).1
        obtain ⟨M2, e2, k2⟩ := px_mayBe (hC.kp hK) (s := s) (by omega) hk
        rw [hBs] at e2
        obtain ⟨M3, e3, k3⟩ := ih k (s + 1) M2 (by omega) (by omega) (by omega) (hK.trans k2)
        refine ⟨M3, ?_, k3⟩
        rw [fX10_stories_14, hC1.2.1]
        have ea : acc B (s + 1) = if B s = true then acc B s ||| ((1 : Int32) <<< (nI s &&& 31)) else acc B s := rfl
        by_cases hb : B s = true
        · rw [hb, if_pos rfl] at e2
          rw [ea, if_pos hb] at e3
          simp (disch := omega) only [ev_ck, ev_ci, ev_cv, ev_lt_, ↓reduceIte, ev_lens, ev_ix, ev_nz, ev_cl, ev_cll, ev_add, ev_addl, ev_ladd, ev_mul, ev_mull, ev_lmul, ev_sub, ev_subl, ev_lsub, ev_lt, ev_ltl, ev_llt, ev_le, ev_lel, ev_lle, ev_eq, ev_eql, ev_leq, ev_nm1, ev_nm5, ev_m1n, ev_neg1, ev_ltT, ev_ltF, ev_leT, ev_leF, ev_eqT, ev_eqF, ev_one0, ev_zero1, Nat.reduceAdd, Nat.reduceMul, Nat.reduceSub, ea_pI_eq, ev_pIn, ev_pIe, ea_pI_r, eq_self, pn_is hC.1.1, hC1.2.2.2.2.1.1.2.2.2.2.2.1, e2, fX10_stories_43]
          exact e3
        · rw [if_neg hb] at e2
          rw [ea, if_neg hb] at e3
          simp (disch := omega) only [ev_ck, ev_ci, ev_cv, ev_lt_, ↓reduceIte, ev_lens, ev_ix, ev_nz, ev_cl, ev_cll, ev_add, ev_addl, ev_ladd, ev_mul, ev_mull, ev_lmul, ev_sub, ev_subl, ev_lsub, ev_lt, ev_ltl, ev_llt, ev_le, ev_lel, ev_lle, ev_eq, ev_eql, ev_leq, ev_nm1, ev_nm5, ev_m1n, ev_neg1, ev_ltT, ev_ltF, ev_leT, ev_leF, ev_eqT, ev_eqF, ev_one0, ev_zero1, Nat.reduceAdd, Nat.reduceMul, Nat.reduceSub, ea_pI_eq, ev_pIn, ev_pIe, ea_pI_r, eq_self, pn_is hC.1.1, hC1.2.2.2.2.1.1.2.2.2.2.2.1, e2, fX10_stories_43]
          exact e3
    obtain ⟨M2, e2, k2⟩ := lp (n 5) ea_N 0 M (by omega) (by omega) (by unfold ea_N; omega) (Kp.rf M)
    refine ⟨M2, ?_, k2⟩
    unfold fX10_stories fX10_stories_0
    rw [gx2, hb2, ev_ci, if_neg (by decide)]
    exact e2
  · have lp : ∀ (d k s : Nat) (M1 : eM), n 5 - s = d → s ≤ n 5 → d < k → Kp M3 M1 → ∃ M2, fX11_stories_14 k (nI kn) (acc B s) (nI s) M1 = some (acc B (n 5), M2) ∧ Kp M3 M2 := by
      intro d
      induction d with
      | zero =>
        intro k s M1 hd hs hk2 hK
        obtain ⟨k, rfl⟩ : ∃ f', k = f' + 1 := ⟨k - 1, by omega⟩
        obtain rfl : s = n 5 := by omega
        have e5 := (h3.kp hK).1.2.2.2.2.2.1.1.2.2.2.2.2.1
        refine ⟨M1, ?_, hK⟩
        simp (disch := omega) only [ev_ck, ev_ci, ev_cv, ev_lt_, ↓reduceIte, ev_lens, ev_ix, ev_nz, ev_cl, ev_cll, ev_add, ev_addl, ev_ladd, ev_mul, ev_mull, ev_lmul, ev_sub, ev_subl, ev_lsub, ev_lt, ev_ltl, ev_llt, ev_le, ev_lel, ev_lle, ev_eq, ev_eql, ev_leq, ev_nm1, ev_nm5, ev_m1n, ev_neg1, ev_ltT, ev_ltF, ev_leT, ev_leF, ev_eqT, ev_eqF, ev_one0, ev_zero1, Nat.reduceAdd, Nat.reduceMul, Nat.reduceSub, ea_pI_eq, ev_pIn, ev_pIe, ea_pI_r, eq_self, fX11_stories_14, e5]
      | succ d ih =>
        intro k s M1 hd hs hk2 hK
        obtain ⟨k, rfl⟩ : ∃ f', k = f' + 1 := ⟨k - 1, by omega⟩
        have e5 := (h3.kp hK).1.2.2.2.2.2.1.1.2.2.2.2.2.1
        obtain ⟨M2, e2, k2⟩ := py_mayBe (h3.kp hK) (s := s) (by omega) hk (acc B s) (fX11_stories_89 (fX11_stories_14 k))
        rw [hBs] at e2
        obtain ⟨M4, e4, k4⟩ := ih k (s + 1) M2 (by omega) (by omega) (by omega) (hK.trans k2)
        refine ⟨M4, ?_, k4⟩
        have ea : acc B (s + 1) = if B s = true then acc B s ||| ((1 : Int32) <<< (nI s &&& 31)) else acc B s := rfl
        rw [fX11_stories_14]
        simp (disch := omega) only [ev_ck, ev_ci, ev_cv, ev_lt_, ↓reduceIte, ev_lens, ev_ix, ev_nz, ev_cl, ev_cll, ev_add, ev_addl, ev_ladd, ev_mul, ev_mull, ev_lmul, ev_sub, ev_subl, ev_lsub, ev_lt, ev_ltl, ev_llt, ev_le, ev_lel, ev_lle, ev_eq, ev_eql, ev_leq, ev_nm1, ev_nm5, ev_m1n, ev_neg1, ev_ltT, ev_ltF, ev_leT, ev_leF, ev_eqT, ev_eqF, ev_one0, ev_zero1, Nat.reduceAdd, Nat.reduceMul, Nat.reduceSub, ea_pI_eq, ev_pIn, ev_pIe, ea_pI_r, eq_self, e5]
        rw [e2]
        by_cases hb : B s = true
        · rw [ea, if_pos hb] at e4
          rw [if_pos hb]
          simp (disch := omega) only [ev_ck, ev_ci, ev_cv, ev_lt_, ↓reduceIte, ev_lens, ev_ix, ev_nz, ev_cl, ev_cll, ev_add, ev_addl, ev_ladd, ev_mul, ev_mull, ev_lmul, ev_sub, ev_subl, ev_lsub, ev_lt, ev_ltl, ev_llt, ev_le, ev_lel, ev_lle, ev_eq, ev_eql, ev_leq, ev_nm1, ev_nm5, ev_m1n, ev_neg1, ev_ltT, ev_ltF, ev_leT, ev_leF, ev_eqT, ev_eqF, ev_one0, ev_zero1, Nat.reduceAdd, Nat.reduceMul, Nat.reduceSub, ea_pI_eq, ev_pIn, ev_pIe, ea_pI_r, eq_self, fX11_stories_89, fX11_stories_102]
          exact e4
        · rw [ea, if_neg hb] at e4
          rw [if_neg hb]
          simp (disch := omega) only [ev_ck, ev_ci, ev_cv, ev_lt_, ↓reduceIte, ev_lens, ev_ix, ev_nz, ev_cl, ev_cll, ev_add, ev_addl, ev_ladd, ev_mul, ev_mull, ev_lmul, ev_sub, ev_subl, ev_lsub, ev_lt, ev_ltl, ev_llt, ev_le, ev_lel, ev_lle, ev_eq, ev_eql, ev_leq, ev_nm1, ev_nm5, ev_m1n, ev_neg1, ev_ltT, ev_ltF, ev_leT, ev_leF, ev_eqT, ev_eqF, ev_one0, ev_zero1, Nat.reduceAdd, Nat.reduceMul, Nat.reduceSub, ea_pI_eq, ev_pIn, ev_pIe, ea_pI_r, eq_self, fX11_stories_89, fX11_stories_102, Int32.or_zero]
          exact e4
    obtain ⟨M2, e2, k2⟩ := lp (n 5) ea_N 0 M3 (by omega) (by omega) (by unfold ea_N; omega) (Kp.rf M3)
    refine ⟨M2, ?_, k2⟩
    have gy2 := gy_step (M := M3) (nI kn)
    unfold fX11_stories fX11_stories_0
    rw [gy2, hb2, ev_ci, if_neg (by decide)]
    exact e2
theorem mod_half {y r : Nat} (hr : 0 < r) (hy : r < y) : 2 * (y % r) < y := by
  have h1 := Nat.div_add_mod y r
  have h2 := Nat.mod_lt y hr
  have h3 : 0 < y / r := Nat.div_pos (by omega) hr
  have h4 : r ≤ r * (y / r) := Nat.le_mul_of_pos_right r h3
  omega
theorem px_gcd7 {M : eM} (k34 : Int32 → eM → Option (Int32 × eM)) : ∀ (m k t x y : Nat), y < 2 ^ m → 2 * m + t < 64 → 2 * m < k → x < 2 ^ 31 → y < 2 ^ 31 → fX10_commonDivisor_7 k34 k (nI x) (nI y) (nI t) M = k34 (nI (Nat.gcd y x)) M := by
  intro m
  induction m with
  | zero =>
    intro k t x y hy ht hk hx hy2
    obtain ⟨k, rfl⟩ : ∃ f', k = f' + 1 := ⟨k - 1, by omega⟩
    obtain rfl : y = 0 := by omega
    rw [Nat.gcd_zero_left]
    simp (disch := omega) only [ev_ck, ev_ci, ev_cv, ev_lt_, ↓reduceIte, ev_lens, ev_ix, ev_nz, ev_cl, ev_cll, ev_add, ev_addl, ev_ladd, ev_mul, ev_mull, ev_lmul, ev_sub, ev_subl, ev_lsub, ev_lt, ev_ltl, ev_llt, ev_le, ev_lel, ev_lle, ev_eq, ev_eql, ev_leq, ev_nm1, ev_nm5, ev_m1n, ev_neg1, ev_ltT, ev_ltF, ev_leT, ev_leF, ev_eqT, ev_eqF, ev_one0, ev_zero1, Nat.reduceAdd, Nat.reduceMul, Nat.reduceSub, ea_pI_eq, ev_pIn, ev_pIe, ea_pI_r, eq_self, fX10_commonDivisor_7]
  | succ m ih =>
    intro k t x y hy ht hk hx hy2
    obtain ⟨k, rfl⟩ : ∃ f', k = f' + 1 + 1 := ⟨k - 2, by omega⟩
    rcases Nat.eq_zero_or_pos y with h0 | h0
    · subst h0
      rw [Nat.gcd_zero_left]
      simp (disch := omega) only [ev_ck, ev_ci, ev_cv, ev_lt_, ↓reduceIte, ev_lens, ev_ix, ev_nz, ev_cl, ev_cll, ev_add, ev_addl, ev_ladd, ev_mul, ev_mull, ev_lmul, ev_sub, ev_subl, ev_lsub, ev_lt, ev_ltl, ev_llt, ev_le, ev_lel, ev_lle, ev_eq, ev_eql, ev_leq, ev_nm1, ev_nm5, ev_m1n, ev_neg1, ev_ltT, ev_ltF, ev_leT, ev_leF, ev_eqT, ev_eqF, ev_one0, ev_zero1, Nat.reduceAdd, Nat.reduceMul, Nat.reduceSub, ea_pI_eq, ev_pIn, ev_pIe, ea_pI_r, eq_self, fX10_commonDivisor_7]
    · have hr := Nat.mod_lt x h0
      rw [Nat.gcd_rec]
      rw [fX10_commonDivisor_7]
      simp (disch := omega) only [ev_ck, ev_ci, ev_cv, ev_lt_, ↓reduceIte, ev_lens, ev_ix, ev_nz, ev_cl, ev_cll, ev_add, ev_addl, ev_ladd, ev_mull, ev_lmul, ev_subl, ev_lsub, ev_lt, ev_ltl, ev_llt, ev_le, ev_lel, ev_lle, ev_eq, ev_eql, ev_leq, ev_nm1, ev_nm5, ev_m1n, ev_neg1, ev_ltT, ev_ltF, ev_leT, ev_leF, ev_eqT, ev_eqF, ev_one0, ev_zero1, Nat.reduceAdd, Nat.reduceMul, Nat.reduceSub, ea_pI_eq, ev_pIn, ev_pIe, ea_pI_r, eq_self, ev_rem]
      rcases Nat.eq_zero_or_pos (x % y) with h1 | h1
      · rw [h1, Nat.gcd_zero_left, fX10_commonDivisor_7]
        by_cases ht2 : 64 ≤ t + 1
        · simp (disch := omega) only [ev_ck, ev_ci, ev_cv, ev_lt_, ↓reduceIte, ev_lens, ev_ix, ev_nz, ev_cl, ev_cll, ev_add, ev_addl, ev_ladd, ev_mul, ev_mull, ev_lmul, ev_sub, ev_subl, ev_lsub, ev_lt, ev_ltl, ev_llt, ev_le, ev_lel, ev_lle, ev_eq, ev_eql, ev_leq, ev_nm1, ev_nm5, ev_m1n, ev_neg1, ev_ltT, ev_ltF, ev_leT, ev_leF, ev_eqT, ev_eqF, ev_one0, ev_zero1, Nat.reduceAdd, Nat.reduceMul, Nat.reduceSub, ea_pI_eq, ev_pIn, ev_pIe, ea_pI_r, eq_self]
        · simp (disch := omega) only [ev_ck, ev_ci, ev_cv, ev_lt_, ↓reduceIte, ev_lens, ev_ix, ev_nz, ev_cl, ev_cll, ev_add, ev_addl, ev_ladd, ev_mul, ev_mull, ev_lmul, ev_sub, ev_subl, ev_lsub, ev_lt, ev_ltl, ev_llt, ev_le, ev_lel, ev_lle, ev_eq, ev_eql, ev_leq, ev_nm1, ev_nm5, ev_m1n, ev_neg1, ev_ltT, ev_ltF, ev_leT, ev_leF, ev_eqT, ev_eqF, ev_one0, ev_zero1, Nat.reduceAdd, Nat.reduceMul, Nat.reduceSub, ea_pI_eq, ev_pIn, ev_pIe, ea_pI_r, eq_self]
      · rw [Nat.gcd_rec]
        have hh := mod_half h1 hr
        have hlt := Nat.mod_lt y h1
        rw [fX10_commonDivisor_7]
        simp (disch := omega) only [ev_ck, ev_ci, ev_cv, ev_lt_, ↓reduceIte, ev_lens, ev_ix, ev_nz, ev_cl, ev_cll, ev_add, ev_addl, ev_ladd, ev_mull, ev_lmul, ev_subl, ev_lsub, ev_lt, ev_ltl, ev_llt, ev_le, ev_lel, ev_lle, ev_eq, ev_eql, ev_leq, ev_nm1, ev_nm5, ev_m1n, ev_neg1, ev_ltT, ev_ltF, ev_leT, ev_leF, ev_eqT, ev_eqF, ev_one0, ev_zero1, Nat.reduceAdd, Nat.reduceMul, Nat.reduceSub, ea_pI_eq, ev_pIn, ev_pIe, ea_pI_r, eq_self, ev_rem]
        exact ih k (t + 1 + 1) (x % y) (y % (x % y)) (by rw [Nat.pow_succ] at hy; omega) (by omega) (by omega) (by omega) (by omega)
theorem px_gcd {M : eM} {x y : Nat} (hx : 0 < x) (hx2 : x < 1000) (hy : y < 1000) : fX10_commonDivisor (nI x) (nI y) M = some (nI (Nat.gcd y x), M) := by
  have hg : 0 < Nat.gcd y x := Nat.gcd_pos_of_pos_right _ hx
  have hle : Nat.gcd y x ≤ x := Nat.gcd_le_right _ hx
  unfold fX10_commonDivisor fX10_commonDivisor_0
  refine (px_gcd7 fX10_commonDivisor_34 10 ea_N 0 x y (by omega) (by omega) (by unfold ea_N; omega) (by omega) (by omega)).trans ?_
  unfold fX10_commonDivisor_34
  rw [show (1 : Int32) = nI 1 from rfl, ev_max (by omega) (by omega)]
  by_cases h : Nat.gcd y x ≤ 1
  · rw [if_pos h, show Nat.gcd y x = 1 by omega]
  · rw [if_neg h]
theorem py_gcd {M : eM} : ∀ (y k x : Nat), y < k → x < 2 ^ 31 → y < 2 ^ 31 → fX11_common_4 k (nI x) (nI y) M = some (nI (Nat.gcd y x), M) := by
  intro y
  induction y using Nat.strongRecOn with
  | _ y ih =>
    intro k x hk hx hy
    obtain ⟨k, rfl⟩ : ∃ f', k = f' + 1 := ⟨k - 1, by omega⟩
    rcases Nat.eq_zero_or_pos y with h0 | h0
    · subst h0
      rw [Nat.gcd_zero_left]
      simp (disch := omega) only [ev_ck, ev_ci, ev_cv, ev_lt_, ↓reduceIte, ev_lens, ev_ix, ev_nz, ev_cl, ev_cll, ev_add, ev_addl, ev_ladd, ev_mul, ev_mull, ev_lmul, ev_sub, ev_subl, ev_lsub, ev_lt, ev_ltl, ev_llt, ev_le, ev_lel, ev_lle, ev_eq, ev_eql, ev_leq, ev_nm1, ev_nm5, ev_m1n, ev_neg1, ev_ltT, ev_ltF, ev_leT, ev_leF, ev_eqT, ev_eqF, ev_one0, ev_zero1, Nat.reduceAdd, Nat.reduceMul, Nat.reduceSub, ea_pI_eq, ev_pIn, ev_pIe, ea_pI_r, eq_self, fX11_common_4]
    · have hr := Nat.mod_lt x h0
      rw [Nat.gcd_rec, fX11_common_4]
      simp (disch := omega) only [ev_ck, ev_ci, ev_cv, ev_lt_, ↓reduceIte, ev_lens, ev_ix, ev_nz, ev_cl, ev_cll, ev_add, ev_addl, ev_ladd, ev_mull, ev_lmul, ev_subl, ev_lsub, ev_lt, ev_ltl, ev_llt, ev_le, ev_lel, ev_lle, ev_eq, ev_eql, ev_leq, ev_nm1, ev_nm5, ev_m1n, ev_neg1, ev_ltT, ev_ltF, ev_leT, ev_leF, ev_eqT, ev_eqF, ev_one0, ev_zero1, Nat.reduceAdd, Nat.reduceMul, Nat.reduceSub, ea_pI_eq, ev_pIn, ev_pIe, ea_pI_r, eq_self, ev_rem]
      exact ih (x % y) hr k y (by omega) hy (by omega)
theorem vp_nb0 : vp_nar .boolean (0 : Int32) = 0 := by decide +kernel
def inL (L : List (Nat × Nat)) (x : Nat) : Bool := L.any (fun e => decide (e.1 = x))
theorem inL_app (A B : List (Nat × Nat)) (x : Nat) : inL (A ++ B) x = (inL A x || inL B x) := by unfold inL; rw [List.any_append]
theorem inL_pl {g : Nat → Nat → Bool} {pc th : Nat} (hp : pc ≤ 4) (hg : ∀ x p, pc ≤ p → g x p = false) {x : Nat} (hx : x < th) : inL (pl g pc th) x = decide (mk (g x) ≠ 0) := by
  obtain ⟨-, -, p3, -⟩ := plk_pop (x := x) hp (hg x)
  by_cases h : mk (g x) = 0
  · rw [decide_eq_false (fun q => q h)]
    unfold inL
    rw [List.any_eq_false]
    intro e he hd
    have hd := of_decide_eq_true hd
    obtain ⟨h1, h2, h3⟩ := pl_mem he
    rw [hd] at h3
    have := (mk_z _).mp h e.2 (by omega)
    rw [this] at h3
    cases h3
  · rw [decide_eq_true h]
    unfold inL
    rw [List.any_eq_true]
    obtain ⟨R, hR⟩ := pl_pre g pc (x + 1) (th - (x + 1))
    rw [show x + 1 + (th - (x + 1)) = th by omega, pl_s g pc x] at hR
    cases hq : plk (g x) x pc with
    | nil => exact absurd (p3.mp hq) h
    | cons e T =>
      refine ⟨e, ?_, decide_eq_true (plk_mem (show e ∈ plk (g x) x pc by rw [hq]; exact List.mem_cons_self)).1⟩
      rw [hR, hq]
      exact List.mem_append_left _ (List.mem_append_right _ List.mem_cons_self)
theorem py_mark {M : eM} {a th : Nat} (ha : a = 122 ∨ a = 123) (hth : th ≤ 855) (h22 : M.1 100 22 = nI th) {v : Nat → Nat → Nat} {L : List (Nat × Nat)} (hL : FL M v L) (hLm : ∀ e, e ∈ L → e.1 < th) (hLl : L.length ≤ 3420) : ∃ M', fX11_mark a M = some M' ∧ (∀ x, x < th → M'.1 a x = nI (if inL L x = true then 1 else 0)) ∧ (∀ c k, c ≠ a → M'.1 c k = M.1 c k) ∧ M'.2.2 = M.2.2 := by
  have la : ea_len a = 855 := by rcases ha with rfl | rfl <;> rfl
  have l1 : ∀ (d k i : Nat) (M1 : eM), th - i = d → i ≤ th → d < k → (∀ x, x < i → M1.1 a x = 0) → (∀ c k, c ≠ a → M1.1 c k = M.1 c k) → M1.2.2 = M.2.2 → ∃ M2, fX11_mark_2 (fX11_mark_20 a) a k (nI i) M1 = fX11_mark_20 a M2 ∧ (∀ x, x < th → M2.1 a x = 0) ∧ (∀ c k, c ≠ a → M2.1 c k = M.1 c k) ∧ M2.2.2 = M.2.2 := by
    intro d
    induction d with
    | zero =>
      intro k i M1 hd hi hk h0 hF hR
      obtain ⟨k, rfl⟩ : ∃ f', k = f' + 1 := ⟨k - 1, by omega⟩
      have e22 : M1.1 100 22 = nI th := by rw [hF _ _ (by omega)]; exact h22
      refine ⟨M1, ?_, fun x hx => h0 x (by omega), hF, hR⟩
      simp (disch := omega) only [ev_ck, ev_ci, ev_cv, ev_lt_, ↓reduceIte, ev_lens, ev_ix, ev_nz, ev_cl, ev_cll, ev_add, ev_addl, ev_ladd, ev_mul, ev_mull, ev_lmul, ev_sub, ev_subl, ev_lsub, ev_lt, ev_ltl, ev_llt, ev_le, ev_lel, ev_lle, ev_eq, ev_eql, ev_leq, ev_nm1, ev_nm5, ev_m1n, ev_neg1, ev_ltT, ev_ltF, ev_leT, ev_leF, ev_eqT, ev_eqF, ev_one0, ev_zero1, Nat.reduceAdd, Nat.reduceMul, Nat.reduceSub, ea_pI_eq, ev_pIn, ev_pIe, ea_pI_r, eq_self, fX11_mark_2, e22]
    | succ d ih =>
      intro k i M1 hd hi hk h0 hF hR
      obtain ⟨k, rfl⟩ : ∃ f', k = f' + 1 := ⟨k - 1, by omega⟩
      have e22 : M1.1 100 22 = nI th := by rw [hF _ _ (by omega)]; exact h22
      obtain ⟨M2, r1, r2⟩ := ih k (i + 1) (ea_pI M1 a i 0) (by omega) (by omega) (by omega) (fun x hx => by
        by_cases e : x = i
        · rw [e, ea_pI_eq]
        · rw [ea_pI_ne (by omega)]; exact h0 x (by omega)) (fun c k hc => by rw [ea_pI_ne (by omega)]; exact hF c k hc) hR
      refine ⟨M2, ?_, r2⟩
      simp (disch := omega) only [ev_ck, ev_ci, ev_cv, ev_lt_, ↓reduceIte, ev_lens, ev_ix, ev_nz, ev_cl, ev_cll, ev_add, ev_addl, ev_ladd, ev_mul, ev_mull, ev_lmul, ev_sub, ev_subl, ev_lsub, ev_lt, ev_ltl, ev_llt, ev_le, ev_lel, ev_lle, ev_eq, ev_eql, ev_leq, ev_nm1, ev_nm5, ev_m1n, ev_neg1, ev_ltT, ev_ltF, ev_leT, ev_leF, ev_eqT, ev_eqF, ev_one0, ev_zero1, Nat.reduceAdd, Nat.reduceMul, Nat.reduceSub, ea_pI_eq, ev_pIn, ev_pIe, ea_pI_r, eq_self, fX11_mark_2, e22, la, vp_nb0]
      exact r1
  obtain ⟨M2, e2, z2, f2, r2⟩ := l1 th ea_N 0 M (by omega) (by omega) (by unfold ea_N; omega) (fun x hx => by omega) (fun _ _ _ => rfl) rfl
  have l2 : ∀ (d k i : Nat) (M1 : eM), L.length - i = d → i ≤ L.length → d < k → (∀ x, x < th → M1.1 a x = nI (if inL (L.take i) x = true then 1 else 0)) → (∀ c k, c ≠ a → M1.1 c k = M.1 c k) → M1.2.2 = M.2.2 → ∃ M3, fX11_mark_22 a k (nI i) M1 = some M3 ∧ (∀ x, x < th → M3.1 a x = nI (if inL L x = true then 1 else 0)) ∧ (∀ c k, c ≠ a → M3.1 c k = M.1 c k) ∧ M3.2.2 = M.2.2 := by
    intro d
    induction d with
    | zero =>
      intro k i M1 hd hi hk h0 hF hR
      obtain ⟨k, rfl⟩ : ∃ f', k = f' + 1 := ⟨k - 1, by omega⟩
      obtain rfl : i = L.length := by omega
      have e33 : M1.1 100 33 = nI L.length := by rw [hF _ _ (by omega)]; exact hL.1
      rw [List.take_length] at h0
      refine ⟨M1, ?_, h0, hF, hR⟩
      simp (disch := omega) only [ev_ck, ev_ci, ev_cv, ev_lt_, ↓reduceIte, ev_lens, ev_ix, ev_nz, ev_cl, ev_cll, ev_add, ev_addl, ev_ladd, ev_mul, ev_mull, ev_lmul, ev_sub, ev_subl, ev_lsub, ev_lt, ev_ltl, ev_llt, ev_le, ev_lel, ev_lle, ev_eq, ev_eql, ev_leq, ev_nm1, ev_nm5, ev_m1n, ev_neg1, ev_ltT, ev_ltF, ev_leT, ev_leF, ev_eqT, ev_eqF, ev_one0, ev_zero1, Nat.reduceAdd, Nat.reduceMul, Nat.reduceSub, ea_pI_eq, ev_pIn, ev_pIe, ea_pI_r, eq_self, fX11_mark_22, e33]
    | succ d ih =>
      intro k i M1 hd hi hk h0 hF hR
      obtain ⟨k, rfl⟩ : ∃ f', k = f' + 1 := ⟨k - 1, by omega⟩
      have e33 : M1.1 100 33 = nI L.length := by rw [hF _ _ (by omega)]; exact hL.1
      have g1 : M1.1 119 i = nI (L.getD i (0, 0)).1 := by rw [hF _ _ (by omega)]; exact (hL.2 i (by omega)).1
      have hm := hLm _ (getD_mem (z := (0, 0)) (show i < L.length by omega))
      have ts := take_s (show i < L.length by omega)
      generalize L.getD i (0, 0) = e at g1 hm ts
      obtain ⟨M2, r1, r2⟩ := ih k (i + 1) (ea_pI M1 a e.1 1) (by omega) (by omega) (by omega) (fun x hx => by
        rw [ts, inL_app]
        by_cases he : x = e.1
        · rw [he, ea_pI_eq, show inL [e] e.1 = true from by simp [inL], Bool.or_true, if_pos rfl]
          rfl
        · rw [ea_pI_ne (by omega), h0 x hx, show inL [e] x = false from by simp [inL]; omega, Bool.or_false]) (fun c k hc => by rw [ea_pI_ne (by omega)]; exact hF c k hc) hR
      refine ⟨M2, ?_, r2⟩
      simp (disch := omega) only [ev_ck, ev_ci, ev_cv, ev_lt_, ↓reduceIte, ev_lens, ev_ix, ev_nz, ev_cl, ev_cll, ev_add, ev_addl, ev_ladd, ev_mul, ev_mull, ev_lmul, ev_sub, ev_subl, ev_lsub, ev_lt, ev_ltl, ev_llt, ev_le, ev_lel, ev_lle, ev_eq, ev_eql, ev_leq, ev_nm1, ev_nm5, ev_m1n, ev_neg1, ev_ltT, ev_ltF, ev_leT, ev_leF, ev_eqT, ev_eqF, ev_one0, ev_zero1, Nat.reduceAdd, Nat.reduceMul, Nat.reduceSub, ea_pI_eq, ev_pIn, ev_pIe, ea_pI_r, eq_self, fX11_mark_22, e33, g1, la, vp_nb1]
      exact r1
  obtain ⟨M3, e3, z3, f3, r3⟩ := l2 L.length ea_N 0 M2 (by omega) (by omega) (by unfold ea_N; omega) (fun x hx => by rw [z2 x hx]; rfl) f2 r2
  refine ⟨M3, ?_, z3, f3, r3⟩
  unfold fX11_mark fX11_mark_0
  exact e2.trans e3
def vtv (both any : Nat) (b : Int32) : Int32 := if both = 0 then (if b = 0 then 0 else 1) else nI ((if b = 0 then both else any) / Nat.gcd any both)
