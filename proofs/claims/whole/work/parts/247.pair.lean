theorem plk_pre (f : Nat → Bool) (x k : Nat) : ∀ d, ∃ R, plk f x (k + d) = plk f x k ++ R
  | 0 => ⟨[], (List.append_nil _).symm⟩
  | d + 1 => by
    obtain ⟨R, h⟩ := plk_pre f x k d
    refine ⟨R ++ (if f (k + d) = true then [(x, k + d)] else []), ?_⟩
    show plk f x (k + d) ++ (if f (k + d) = true then [(x, k + d)] else []) = _
    rw [h, List.append_assoc]
theorem pl_pre (g : Nat → Nat → Bool) (pc k : Nat) : ∀ d, ∃ R, pl g pc (k + d) = pl g pc k ++ R
  | 0 => ⟨[], (List.append_nil _).symm⟩
  | d + 1 => by
    obtain ⟨R, h⟩ := pl_pre g pc k d
    refine ⟨R ++ plk (g (k + d)) (k + d) pc, ?_⟩
    show pl g pc (k + d) ++ plk (g (k + d)) (k + d) pc = _
    rw [h, List.append_assoc]
theorem plk_mem {f : Nat → Bool} {x : Nat} : ∀ {k : Nat} {e : Nat × Nat}, e ∈ plk f x k → e.1 = x ∧ e.2 < k ∧ f e.2 = true := by
  intro k
  induction k with
  | zero => intro e he; exact absurd he List.not_mem_nil
  | succ k ih =>
    intro e he
    rcases List.mem_append.mp he with he | he
    · obtain ⟨h1, h2, h3⟩ := ih he
      exact ⟨h1, by omega, h3⟩
    · by_cases h : f k = true
      · rw [if_pos h] at he
        rw [List.mem_singleton.mp he]
        exact ⟨rfl, Nat.lt_succ_self k, h⟩
      · rw [if_neg h] at he
        exact absurd he List.not_mem_nil
theorem pl_mem {g : Nat → Nat → Bool} {pc : Nat} : ∀ {j : Nat} {e : Nat × Nat}, e ∈ pl g pc j → e.1 < j ∧ e.2 < pc ∧ g e.1 e.2 = true := by
  intro j
  induction j with
  | zero => intro e he; exact absurd he List.not_mem_nil
  | succ j ih =>
    intro e he
    rcases List.mem_append.mp he with he | he
    · obtain ⟨h1, h2, h3⟩ := ih he
      exact ⟨by omega, h2, h3⟩
    · obtain ⟨h1, h2, h3⟩ := plk_mem he
      exact ⟨by omega, h2, by rw [h1]; exact h3⟩
theorem getD_mem {α : Type} {L : List α} {i : Nat} {z : α} (h : i < L.length) : L.getD i z ∈ L := by
  rw [List.getD_eq_getElem?_getD, List.getElem?_eq_getElem h]
  exact List.getElem_mem h
theorem getD_get {α : Type} {L : List α} {i : Nat} {z : α} (h : i < L.length) : L[i]? = some (L.getD i z) := by
  rw [List.getD_eq_getElem?_getD, List.getElem?_eq_getElem h]
  rfl
def prt (v : Nat → Nat → Nat) (b : Int32) (z : Option (Nat × Nat)) : Int32 := match z with
  | none => -1
  | some e => if b = 0 then nI (yrP v e.2) else nI e.1
section PP
variable {M : eM} {a cc th : Nat} {n : Nat → Nat} {v : Nat → Nat → Nat} {o w q : Nat → Nat} {l t r : Nat → Nat → Nat} {g : Nat → Nat → Bool}
theorem px_pp20 (ha : pn_f a) (hC : Ctx M cc n v th o w q l t r) (hY : yrs M a th g) {j i : Nat} (hj : j < th) (hi : i < 2 ^ 31) {b : Int32} (k54 k85 : Int32 → Int32 → Int32 → eM → Option (Int32 × eM)) :
    ∀ (d f p : Nat), n 7 + 1 - p = d → p ≤ n 7 + 1 → d < f → (plk (g j) j p).length ≤ i → fX3_pairPart_20 k54 k85 a f b (nI (i - (plk (g j) j p).length)) (nI j) (nI p) M = match (plk (g j) j (n 7 + 1))[i]? with
      | some e => k54 b (nI j) (nI e.2) M
      | none => k85 b (nI (i - (plk (g j) j (n 7 + 1)).length)) (nI j) M := by
  obtain ⟨-, l3, -⟩ := pn_lf ha
  have hcc := hC.1.1
  have hr := hC.1.2.1
  have ho := hC.1.2.2.2.1
  have h7 := ho.2.2.2.2.2.2.2.1
  have hth := hC.1.2.2.2.2.2.2.1.1.1
  have e6 := hC.1.2.2.2.2.1.1.2.2.2.2.2.2.2.1
  have ej := hY j hj
  intro d
  induction d with
  | zero =>
    intro f p hd hp hf hle
    obtain ⟨f, rfl⟩ : ∃ f', f = f' + 1 := ⟨f - 1, by omega⟩
    obtain rfl : p = n 7 + 1 := by omega
    rw [List.getElem?_eq_none hle, fX3_pairPart_20, hr]
    simp (disch := omega) only [ev_ck, ev_ci, ev_cv, ev_lt_, ↓reduceIte, ev_lens, ev_ix, ev_nz, ev_cl, ev_cll, ev_add, ev_addl, ev_ladd, ev_mul, ev_mull, ev_lmul, ev_sub, ev_subl, ev_lsub, ev_lt, ev_ltl, ev_llt, ev_le, ev_lel, ev_lle, ev_eq, ev_eql, ev_leq, ev_nm1, ev_nm5, ev_m1n, ev_neg1, ev_ltT, ev_ltF, ev_leT, ev_leF, ev_eqT, ev_eqF, ev_one0, ev_zero1, Nat.reduceAdd, Nat.reduceMul, Nat.reduceSub, ea_pI_eq, ev_pIn, ev_pIe, ea_pI_r, eq_self, pn_is hcc, e6]
  | succ d ih =>
    intro f p hd hp hf hle
    obtain ⟨f, rfl⟩ : ∃ f', f = f' + 1 := ⟨f - 1, by omega⟩
    have nx := ih f (p + 1) (by omega) (by omega) (by omega)
    rw [plk_s] at nx
    have sh := mk_shr (show p < 4 by omega) (g j)
    rw [fX3_pairPart_20, hr]
    by_cases hb : g j p = true
    · have z := eq_false (fun q => by have := sh.mp q; rw [hb] at this; cases this)
      rw [hb, if_pos rfl, List.length_append] at nx
      have nx : (plk (g j) j p).length + 1 ≤ i → fX3_pairPart_20 k54 k85 a f b (nI (i - ((plk (g j) j p).length + 1))) (nI j) (nI (p + 1)) M = _ := nx
      by_cases h0 : i = (plk (g j) j p).length
      · obtain ⟨R, hR⟩ := plk_pre (g j) j (p + 1) (n 7 + 1 - (p + 1))
        rw [show p + 1 + (n 7 + 1 - (p + 1)) = n 7 + 1 by omega, plk_s (g j) j p, hb, if_pos rfl, List.append_assoc] at hR
        have hget : (plk (g j) j (n 7 + 1))[i]? = some (j, p) := by
          rw [hR, List.getElem?_append_right (by omega), show i - (plk (g j) j p).length = 0 by omega]
          rfl
        rw [hget]
        simp (disch := omega) only [ev_ck, ev_ci, ev_cv, ev_lt_, ↓reduceIte, ev_lens, ev_ix, ev_nz, ev_cl, ev_cll, ev_add, ev_addl, ev_ladd, ev_mul, ev_mull, ev_lmul, ev_sub, ev_subl, ev_lsub, ev_lt, ev_ltl, ev_llt, ev_le, ev_lel, ev_lle, ev_eq, ev_eql, ev_leq, ev_nm1, ev_nm5, ev_m1n, ev_neg1, ev_ltT, ev_ltF, ev_leT, ev_leF, ev_eqT, ev_eqF, ev_one0, ev_zero1, Nat.reduceAdd, Nat.reduceMul, Nat.reduceSub, ea_pI_eq, ev_pIn, ev_pIe, ea_pI_r, eq_self, pn_is hcc, e6, l3, ej, z]
      · rw [← nx (by omega)]
        simp (disch := omega) only [ev_ck, ev_ci, ev_cv, ev_lt_, ↓reduceIte, ev_lens, ev_ix, ev_nz, ev_cl, ev_cll, ev_add, ev_addl, ev_ladd, ev_mul, ev_mull, ev_lmul, ev_sub, ev_subl, ev_lsub, ev_lt, ev_ltl, ev_llt, ev_le, ev_lel, ev_lle, ev_eq, ev_eql, ev_leq, ev_nm1, ev_nm5, ev_m1n, ev_neg1, ev_ltT, ev_ltF, ev_leT, ev_leF, ev_eqT, ev_eqF, ev_one0, ev_zero1, Nat.reduceAdd, Nat.reduceMul, Nat.reduceSub, ea_pI_eq, ev_pIn, ev_pIe, ea_pI_r, eq_self, pn_is hcc, e6, l3, ej, z, fX3_pairPart_79]
        rw [pz_m1, show (1 : Int32) = nI 1 from rfl, ev_sub (by omega), Nat.sub_sub]
    · have hb := Bool.eq_false_iff.mpr hb
      have z := eq_true (sh.mpr hb)
      rw [hb, if_neg (by decide), List.append_nil] at nx
      rw [← nx hle]
      simp (disch := omega) only [ev_ck, ev_ci, ev_cv, ev_lt_, ↓reduceIte, ev_lens, ev_ix, ev_nz, ev_cl, ev_cll, ev_add, ev_addl, ev_ladd, ev_mul, ev_mull, ev_lmul, ev_sub, ev_subl, ev_lsub, ev_lt, ev_ltl, ev_llt, ev_le, ev_lel, ev_lle, ev_eq, ev_eql, ev_leq, ev_nm1, ev_nm5, ev_m1n, ev_neg1, ev_ltT, ev_ltF, ev_leT, ev_leF, ev_eqT, ev_eqF, ev_one0, ev_zero1, Nat.reduceAdd, Nat.reduceMul, Nat.reduceSub, ea_pI_eq, ev_pIn, ev_pIe, ea_pI_r, eq_self, pn_is hcc, e6, l3, ej, z, fX3_pairPart_79]
theorem px_pair (ha : pn_f a) (hC : Ctx M cc n v th o w q l t r) (hY : yrs M a th g) {i : Nat} (hi : i < 2 ^ 31) (b : Int32) : fX3_pairPart a (nI i) b M = some (prt v b (pl g (n 7 + 1) th)[i]?, M) := by
  have hcc := hC.1.1
  have hr := hC.1.2.1
  have ho := hC.1.2.2.2.1
  have h7 := ho.2.2.2.2.2.2.2.1
  have hth := hC.1.2.2.2.2.2.2.1.1.1
  have e41 := hC.1.2.2.2.2.2.2.2.1.1
  have hX := hC.1.2.2.2.2.1
  have lp : ∀ (d f j : Nat), th - j = d → j ≤ th → d < f → (pl g (n 7 + 1) j).length ≤ i → fX3_pairPart_5 (fX3_pairPart_54 a) a f b (nI (i - (pl g (n 7 + 1) j).length)) (nI j) M = some (prt v b (pl g (n 7 + 1) th)[i]?, M) := by
    intro d
    induction d with
    | zero =>
      intro f j hd hj hf hle
      obtain ⟨f, rfl⟩ : ∃ f', f = f' + 1 := ⟨f - 1, by omega⟩
      obtain rfl : j = th := by omega
      rw [List.getElem?_eq_none hle]
      simp (disch := omega) only [ev_ck, ev_ci, ev_cv, ev_lt_, ↓reduceIte, ev_lens, ev_ix, ev_nz, ev_cl, ev_cll, ev_add, ev_addl, ev_ladd, ev_mul, ev_mull, ev_lmul, ev_sub, ev_subl, ev_lsub, ev_lt, ev_ltl, ev_llt, ev_le, ev_lel, ev_lle, ev_eq, ev_eql, ev_leq, ev_nm1, ev_nm5, ev_m1n, ev_neg1, ev_ltT, ev_ltF, ev_leT, ev_leF, ev_eqT, ev_eqF, ev_one0, ev_zero1, Nat.reduceAdd, Nat.reduceMul, Nat.reduceSub, ea_pI_eq, ev_pIn, ev_pIe, ea_pI_r, eq_self, fX3_pairPart_5, e41]
      rfl
    | succ d ih =>
      intro f j hd hj hf hle
      obtain ⟨f, rfl⟩ : ∃ f', f = f' + 1 := ⟨f - 1, by omega⟩
      have pp := px_pp20 ha hC hY (j := j) (i := i - (pl g (n 7 + 1) j).length) (by omega) (by omega) (b := b) (fX3_pairPart_54 a) (fX3_pairPart_85 (fX3_pairPart_5 (fX3_pairPart_54 a) a f) a) (n 7 + 1) ea_N 0 (by omega) (by omega) (by unfold ea_N; omega) (Nat.zero_le _)
      rw [fX3_pairPart_5]
      simp (disch := omega) only [ev_ck, ev_ci, ev_cv, ev_lt_, ↓reduceIte, ev_lens, ev_ix, ev_nz, ev_cl, ev_cll, ev_add, ev_addl, ev_ladd, ev_mul, ev_mull, ev_lmul, ev_sub, ev_subl, ev_lsub, ev_lt, ev_ltl, ev_llt, ev_le, ev_lel, ev_lle, ev_eq, ev_eql, ev_leq, ev_nm1, ev_nm5, ev_m1n, ev_neg1, ev_ltT, ev_ltF, ev_leT, ev_leF, ev_eqT, ev_eqF, ev_one0, ev_zero1, Nat.reduceAdd, Nat.reduceMul, Nat.reduceSub, ea_pI_eq, ev_pIn, ev_pIe, ea_pI_r, eq_self, e41]
      refine (show fX3_pairPart_20 _ _ a ea_N b (nI (i - (pl g (n 7 + 1) j).length - 0)) (nI j) 0 M = _ from pp).trans ?_
      obtain ⟨R, hR⟩ := pl_pre g (n 7 + 1) (j + 1) (th - (j + 1))
      rw [show j + 1 + (th - (j + 1)) = th by omega, pl_s g (n 7 + 1) j, List.append_assoc] at hR
      cases hz : (plk (g j) j (n 7 + 1))[i - (pl g (n 7 + 1) j).length]? with
      | some e =>
        have hget : (pl g (n 7 + 1) th)[i]? = some e := by
          have hlt := (List.getElem?_eq_some_iff.mp hz).1
          rw [hR, List.getElem?_append_right hle, List.getElem?_append_left hlt]
          exact hz
        have hm := plk_mem (List.mem_of_getElem? hz)
        rw [hget]
        show fX3_pairPart_54 a b (nI j) (nI e.2) M = some (if b = 0 then nI (yrP v e.2) else nI e.1, M)
        unfold fX3_pairPart_54
        rw [hr]
        by_cases hb : b = 0
        · rw [if_pos hb, if_pos hb]
          simp (disch := omega) only [ev_ck, ev_ci, ev_cv, ev_lt_, ↓reduceIte, ev_lens, ev_ix, ev_nz, ev_cl, ev_cll, ev_add, ev_addl, ev_ladd, ev_mul, ev_mull, ev_lmul, ev_sub, ev_subl, ev_lsub, ev_lt, ev_ltl, ev_llt, ev_le, ev_lel, ev_lle, ev_eq, ev_eql, ev_leq, ev_nm1, ev_nm5, ev_m1n, ev_neg1, ev_ltT, ev_ltF, ev_leT, ev_leF, ev_eqT, ev_eqF, ev_one0, ev_zero1, Nat.reduceAdd, Nat.reduceMul, Nat.reduceSub, ea_pI_eq, ev_pIn, ev_pIe, ea_pI_r, eq_self, pn_is hcc, px_year hcc hX ho hm.2.1]
        · rw [if_neg hb, if_neg hb, hm.1]
      | none =>
        have hge := List.getElem?_eq_none_iff.mp hz
        have nx := ih f (j + 1) (by omega) (by omega) (by omega) (by rw [pl_s, List.length_append]; omega)
        rw [pl_s, List.length_append, ← Nat.sub_sub] at nx
        show fX3_pairPart_85 _ a b _ (nI j) M = _
        simp (disch := omega) only [ev_ck, ev_ci, ev_cv, ev_lt_, ↓reduceIte, ev_lens, ev_ix, ev_nz, ev_cl, ev_cll, ev_add, ev_addl, ev_ladd, ev_mul, ev_mull, ev_lmul, ev_sub, ev_subl, ev_lsub, ev_lt, ev_ltl, ev_llt, ev_le, ev_lel, ev_lle, ev_eq, ev_eql, ev_leq, ev_nm1, ev_nm5, ev_m1n, ev_neg1, ev_ltT, ev_ltF, ev_leT, ev_leF, ev_eqT, ev_eqF, ev_one0, ev_zero1, Nat.reduceAdd, Nat.reduceMul, Nat.reduceSub, ea_pI_eq, ev_pIn, ev_pIe, ea_pI_r, eq_self, fX3_pairPart_85]
        exact nx
  have := lp th ea_N 0 (by omega) (by omega) (by unfold ea_N; omega) (Nat.zero_le _)
  exact this
end PP
/-- the three guards of a fit -/
def ak (x1 x2 x3 : Int32) (n : Nat → Nat) : Int32 := if pb x1 0 (nI (n 0 * n 1) - 1) = 0 then 0 else if pb x2 0 (nI (n 5) - 1) = 0 then 0 else if pb x3 0 (nI 1000 - 1) = 0 then 0 else 1
theorem ak_cs {n : Nat → Nat} {v : Nat → Nat → Nat} (ho : pn_ok n v) (x1 x2 x3 : Int32) : ak x1 x2 x3 n = 0 ∨ (ak x1 x2 x3 n = 1 ∧ ∃ cell s known, cell < n 0 * n 1 ∧ cell < 48 ∧ s < n 5 ∧ known < 1000 ∧ x1 = nI cell ∧ x2 = nI s ∧ x3 = nI known) := by
  have hcl : n 0 * n 1 ≤ 48 := Nat.mul_le_mul ho.1.2 ho.2.1.2
  have h5 := ho.2.2.2.2.2.1
  unfold ak
  rcases pb_01 x1 0 (nI (n 0 * n 1) - 1) with hb | hb
  · rw [hb, if_pos rfl]; exact Or.inl rfl
  rcases pb_01 x2 0 (nI (n 5) - 1) with hb2 | hb2
  · rw [hb, hb2, if_neg (by decide), if_pos rfl]; exact Or.inl rfl
  rcases pb_01 x3 0 (nI 1000 - 1) with hb3 | hb3
  · rw [hb, hb2, hb3, if_neg (by decide), if_neg (by decide), if_pos rfl]; exact Or.inl rfl
  obtain ⟨cell, h1, rfl⟩ := pb_nat0 (by omega) hb
  obtain ⟨s, h2, rfl⟩ := pb_nat0 (by omega) hb2
  obtain ⟨kn, h3, rfl⟩ := pb_nat0 (by omega) hb3
  rw [hb, hb2, hb3, if_neg (by decide), if_neg (by decide), if_neg (by decide)]
  exact Or.inr ⟨rfl, cell, s, kn, h1, by omega, h2, h3, rfl, rfl, rfl⟩
section AK
variable {M : eM} {c : Nat} {n : Nat → Nat} {v : Nat → Nat → Nat} {th : Nat} {o w : Nat → Nat}
theorem gx_fit (h : pn_C M c n v th o w) (x1 x2 x3 : Int32) : fX10_mayFit x1 x2 x3 M = some (ak x1 x2 x3 n, M) := by
  unfold fX10_mayFit fX10_mayFit_0 ak
  rw [gx_cell h, ev_ci]
  by_cases h1 : pb x1 0 (nI (n 0 * n 1) - 1) = 0
  · rw [if_pos h1, if_pos h1]
  · rw [if_neg h1, if_neg h1, gx_story h, ev_ci]
    by_cases h2 : pb x2 0 (nI (n 5) - 1) = 0
    · rw [if_pos h2, if_pos h2]
    · rw [if_neg h2, if_neg h2, gx_step, ev_ci]
      by_cases h3 : pb x3 0 (nI 1000 - 1) = 0
      · rw [if_pos h3, if_pos h3]
      · rw [if_neg h3, if_neg h3]
theorem gy_fit (h : pn_C M c n v th o w) (x1 x2 x3 : Int32) : fX11_isAsked x1 x2 x3 M = some (ak x1 x2 x3 n, M) := by
  unfold fX11_isAsked fX11_isAsked_0 ak
  rw [gy_cell h, ev_ci]
  by_cases h1 : pb x1 0 (nI (n 0 * n 1) - 1) = 0
  · rw [if_pos h1, if_pos h1]
  · rw [if_neg h1, if_neg h1, gy_story h, ev_ci]
    by_cases h2 : pb x2 0 (nI (n 5) - 1) = 0
    · rw [if_pos h2, if_pos h2]
    · rw [if_neg h2, if_neg h2, gy_step, ev_ci]
      by_cases h3 : pb x3 0 (nI 1000 - 1) = 0
      · rw [if_pos h3, if_pos h3]
      · rw [if_neg h3, if_neg h3]
end AK
theorem sz_fit (x1 x2 x3 x4 : Int32) : ea_st InvZ (fX10_fit x1 x2 x3 x4) (fX11_fit x1 x2 x3 x4) := by
  refine ea_qz (fun M c n v th o w q l t r hC => ?_)
  have ho := hC.1.2.2.2.1
  have h7 := ho.2.2.2.2.2.2.2.1
  have hth := hC.1.2.2.2.2.2.2.1.1.1
  have gx := gx_fit hC.1 x1 x2 x3
  have px := px_in x4 0 3 M
  rcases ak_cs ho x1 x2 x3 with h0 | ⟨h0, cell, s, kn, hc1, hc2, hs, hk, rfl, rfl, rfl⟩
  · refine ⟨-2, ⟨M, by unfold fX10_fit fX10_fit_0; simp (disch := omega) only [ev_ck, ev_ci, ev_cv, ev_lt_, ↓reduceIte, ev_lens, ev_ix, ev_nz, ev_cl, ev_cll, ev_add, ev_addl, ev_ladd, ev_mul, ev_mull, ev_lmul, ev_sub, ev_subl, ev_lsub, ev_lt, ev_ltl, ev_llt, ev_le, ev_lel, ev_lle, ev_eq, ev_eql, ev_leq, ev_nm1, ev_nm5, ev_m1n, ev_neg1, ev_ltT, ev_ltF, ev_leT, ev_leF, ev_eqT, ev_eqF, ev_one0, ev_zero1, Nat.reduceAdd, Nat.reduceMul, Nat.reduceSub, ea_pI_eq, ev_pIn, ev_pIe, ea_pI_r, eq_self, gx, h0], Kp.rf M⟩, fun M1 h1 => ⟨M1, ?_, Kp.rf M1⟩⟩
    have gy := gy_fit h1.1 x1 x2 x3
    unfold fX11_fit fX11_fit_0
    simp (disch := omega) only [ev_ck, ev_ci, ev_cv, ev_lt_, ↓reduceIte, ev_lens, ev_ix, ev_nz, ev_cl, ev_cll, ev_add, ev_addl, ev_ladd, ev_mul, ev_mull, ev_lmul, ev_sub, ev_subl, ev_lsub, ev_lt, ev_ltl, ev_llt, ev_le, ev_lel, ev_lle, ev_eq, ev_eql, ev_leq, ev_nm1, ev_nm5, ev_m1n, ev_neg1, ev_ltT, ev_ltF, ev_leT, ev_leF, ev_eqT, ev_eqF, ev_one0, ev_zero1, Nat.reduceAdd, Nat.reduceMul, Nat.reduceSub, ea_pI_eq, ev_pIn, ev_pIe, ea_pI_r, eq_self, gy, h0]
  rcases (pb_01 x4 0 3) with hb | hb
  · refine ⟨-2, ⟨M, by unfold fX10_fit fX10_fit_0; simp (disch := omega) only [ev_ck, ev_ci, ev_cv, ev_lt_, ↓reduceIte, ev_lens, ev_ix, ev_nz, ev_cl, ev_cll, ev_add, ev_addl, ev_ladd, ev_mul, ev_mull, ev_lmul, ev_sub, ev_subl, ev_lsub, ev_lt, ev_ltl, ev_llt, ev_le, ev_lel, ev_lle, ev_eq, ev_eql, ev_leq, ev_nm1, ev_nm5, ev_m1n, ev_neg1, ev_ltT, ev_ltF, ev_leT, ev_leF, ev_eqT, ev_eqF, ev_one0, ev_zero1, Nat.reduceAdd, Nat.reduceMul, Nat.reduceSub, ea_pI_eq, ev_pIn, ev_pIe, ea_pI_r, eq_self, gx, h0, px, hb], Kp.rf M⟩, fun M1 h1 => ⟨M1, ?_, Kp.rf M1⟩⟩
    have gy := gy_fit h1.1 (nI cell) (nI s) (nI kn)
    have py := py_in x4 0 3 M1
    unfold fX11_fit fX11_fit_0
    simp (disch := omega) only [ev_ck, ev_ci, ev_cv, ev_lt_, ↓reduceIte, ev_lens, ev_ix, ev_nz, ev_cl, ev_cll, ev_add, ev_addl, ev_ladd, ev_mul, ev_mull, ev_lmul, ev_sub, ev_subl, ev_lsub, ev_lt, ev_ltl, ev_llt, ev_le, ev_lel, ev_lle, ev_eq, ev_eql, ev_leq, ev_nm1, ev_nm5, ev_m1n, ev_neg1, ev_ltT, ev_ltF, ev_leT, ev_leF, ev_eqT, ev_eqF, ev_one0, ev_zero1, Nat.reduceAdd, Nat.reduceMul, Nat.reduceSub, ea_pI_eq, ev_pIn, ev_pIe, ea_pI_r, eq_self, gy, h0, py, hb]
  obtain ⟨k, hk4, rfl⟩ := pb_nat0 (k := 4) (by decide) hb
  obtain ⟨M1, e1, f1, r1⟩ := px_find (a := 50) (Or.inl rfl) hC hc2 hk hs
  have hC1 := hC.kp (r1.kp (Or.inl rfl))
  have hln := pl_len (fk n v o w s (cell % n 0) (sgs q l t r cell kn)) (show n 7 + 1 ≤ 4 by omega) th
  have model : ∀ x, (∀ M2, FL M2 v (pl (fk n v o w s (cell % n 0) (sgs q l t r cell kn)) (n 7 + 1) th) → M2.1 100 34 = nI (ct (fk n v o w s (cell % n 0) (sgs q l t r cell kn)) th) → (if (2 : Int32) ≤ nI k then (if (M2.1 100 33) = 0 then (some ((-1 : Int32), M2)) else (if nI k = (2 : Int32) then (some (M2.1 119 (0 : Int32).toNatClampNeg, M2)) else (some (M2.1 120 (0 : Int32).toNatClampNeg, M2)))) else (if nI k = 0 then (some (M2.1 100 33, M2)) else (some (M2.1 100 34, M2)))) = some (x, M2)) → ∀ M1, Ctx M1 c n v th o w q l t r → ∃ M2, fX11_fit (nI cell) (nI s) (nI kn) (nI k) M1 = some (x, M2) ∧ Kp M1 M2 := by
    intro x hx M1 h1
    obtain ⟨M2, e2, f2, g2, r2⟩ := py_findFits h1 hc2 hk hs
    refine ⟨M2, ?_, r2.kp⟩
    have gy := gy_fit h1.1 (nI cell) (nI s) (nI kn)
    have py := py_in (nI k) 0 3 M1
    unfold fX11_fit fX11_fit_0
    rw [gy, h0, ev_ci, if_neg (by decide), py, hb, ev_ci, if_neg (by decide), e2, ev_cv]
    exact hx M2 f2 g2
  generalize fk n v o w s (cell % n 0) (sgs q l t r cell kn) = g at f1 hln model
  obtain ⟨y1, y2, y3, y4, y5⟩ := f1
  rcases (show k = 0 ∨ k = 1 ∨ k = 2 ∨ k = 3 by omega) with rfl | rfl | rfl | rfl
  · refine ⟨nI (pl g (n 7 + 1) th).length, ⟨M1, ?_, r1.kp (Or.inl rfl)⟩, model _ (fun M2 f2 g2 => ?_)⟩
    · unfold fX10_fit fX10_fit_0
      simp (disch := omega) only [ev_ck, ev_ci, ev_cv, ev_lt_, ↓reduceIte, ev_lens, ev_ix, ev_nz, ev_cl, ev_cll, ev_add, ev_addl, ev_ladd, ev_mul, ev_mull, ev_lmul, ev_sub, ev_subl, ev_lsub, ev_lt, ev_ltl, ev_llt, ev_le, ev_lel, ev_lle, ev_eq, ev_eql, ev_leq, ev_nm1, ev_nm5, ev_m1n, ev_neg1, ev_ltT, ev_ltF, ev_leT, ev_leF, ev_eqT, ev_eqF, ev_one0, ev_zero1, Nat.reduceAdd, Nat.reduceMul, Nat.reduceSub, ea_pI_eq, ev_pIn, ev_pIe, ea_pI_r, eq_self, gx, h0, px, hb, e1, y2]
    · simp (disch := omega) only [ev_ck, ev_ci, ev_cv, ev_lt_, ↓reduceIte, ev_lens, ev_ix, ev_nz, ev_cl, ev_cll, ev_add, ev_addl, ev_ladd, ev_mul, ev_mull, ev_lmul, ev_sub, ev_subl, ev_lsub, ev_lt, ev_ltl, ev_llt, ev_le, ev_lel, ev_lle, ev_eq, ev_eql, ev_leq, ev_nm1, ev_nm5, ev_m1n, ev_neg1, ev_ltT, ev_ltF, ev_leT, ev_leF, ev_eqT, ev_eqF, ev_one0, ev_zero1, Nat.reduceAdd, Nat.reduceMul, Nat.reduceSub, ea_pI_eq, ev_pIn, ev_pIe, ea_pI_r, eq_self, f2.1]
  · refine ⟨nI (ct g th), ⟨M1, ?_, r1.kp (Or.inl rfl)⟩, model _ (fun M2 f2 g2 => ?_)⟩
    · unfold fX10_fit fX10_fit_0
      simp (disch := omega) only [ev_ck, ev_ci, ev_cv, ev_lt_, ↓reduceIte, ev_lens, ev_ix, ev_nz, ev_cl, ev_cll, ev_add, ev_addl, ev_ladd, ev_mul, ev_mull, ev_lmul, ev_sub, ev_subl, ev_lsub, ev_lt, ev_ltl, ev_llt, ev_le, ev_lel, ev_lle, ev_eq, ev_eql, ev_leq, ev_nm1, ev_nm5, ev_m1n, ev_neg1, ev_ltT, ev_ltF, ev_leT, ev_leF, ev_eqT, ev_eqF, ev_one0, ev_zero1, Nat.reduceAdd, Nat.reduceMul, Nat.reduceSub, ea_pI_eq, ev_pIn, ev_pIe, ea_pI_r, eq_self, gx, h0, px, hb, e1, y4]
    · simp (disch := omega) only [ev_ck, ev_ci, ev_cv, ev_lt_, ↓reduceIte, ev_lens, ev_ix, ev_nz, ev_cl, ev_cll, ev_add, ev_addl, ev_ladd, ev_mul, ev_mull, ev_lmul, ev_sub, ev_subl, ev_lsub, ev_lt, ev_ltl, ev_llt, ev_le, ev_lel, ev_lle, ev_eq, ev_eql, ev_leq, ev_nm1, ev_nm5, ev_m1n, ev_neg1, ev_ltT, ev_ltF, ev_leT, ev_leF, ev_eqT, ev_eqF, ev_one0, ev_zero1, Nat.reduceAdd, Nat.reduceMul, Nat.reduceSub, ea_pI_eq, ev_pIn, ev_pIe, ea_pI_r, eq_self, g2]
  · refine ⟨hd1 (pl g (n 7 + 1) th), ⟨M1, ?_, r1.kp (Or.inl rfl)⟩, model _ (fun M2 f2 g2 => ?_)⟩
    · unfold fX10_fit fX10_fit_0
      simp (disch := omega) only [ev_ck, ev_ci, ev_cv, ev_lt_, ↓reduceIte, ev_lens, ev_ix, ev_nz, ev_cl, ev_cll, ev_add, ev_addl, ev_ladd, ev_mul, ev_mull, ev_lmul, ev_sub, ev_subl, ev_lsub, ev_lt, ev_ltl, ev_llt, ev_le, ev_lel, ev_lle, ev_eq, ev_eql, ev_leq, ev_nm1, ev_nm5, ev_m1n, ev_neg1, ev_ltT, ev_ltF, ev_leT, ev_leF, ev_eqT, ev_eqF, ev_one0, ev_zero1, Nat.reduceAdd, Nat.reduceMul, Nat.reduceSub, ea_pI_eq, ev_pIn, ev_pIe, ea_pI_r, eq_self, gx, h0, px, hb, e1, y5]
    · generalize pl g (n 7 + 1) th = L at hln f2
      cases L with
      | nil =>
        have e33 : M2.1 100 33 = nI 0 := f2.1
        simp (disch := omega) only [ev_ck, ev_ci, ev_cv, ev_lt_, ↓reduceIte, ev_lens, ev_ix, ev_nz, ev_cl, ev_cll, ev_add, ev_addl, ev_ladd, ev_mul, ev_mull, ev_lmul, ev_sub, ev_subl, ev_lsub, ev_lt, ev_ltl, ev_llt, ev_le, ev_lel, ev_lle, ev_eq, ev_eql, ev_leq, ev_nm1, ev_nm5, ev_m1n, ev_neg1, ev_ltT, ev_ltF, ev_leT, ev_leF, ev_eqT, ev_eqF, ev_one0, ev_zero1, Nat.reduceAdd, Nat.reduceMul, Nat.reduceSub, ea_pI_eq, ev_pIn, ev_pIe, ea_pI_r, eq_self, e33]
        rfl
      | cons e L =>
        have e33 : M2.1 100 33 = nI (L.length + 1) := f2.1
        have hln : L.length + 1 ≤ 4 * th := hln
        have e119 : M2.1 119 0 = nI e.1 := (f2.2 0 (Nat.zero_lt_succ _)).1
        simp (disch := omega) only [ev_ck, ev_ci, ev_cv, ev_lt_, ↓reduceIte, ev_lens, ev_ix, ev_nz, ev_cl, ev_cll, ev_add, ev_addl, ev_ladd, ev_mul, ev_mull, ev_lmul, ev_sub, ev_subl, ev_lsub, ev_lt, ev_ltl, ev_llt, ev_le, ev_lel, ev_lle, ev_eq, ev_eql, ev_leq, ev_nm1, ev_nm5, ev_m1n, ev_neg1, ev_ltT, ev_ltF, ev_leT, ev_leF, ev_eqT, ev_eqF, ev_one0, ev_zero1, Nat.reduceAdd, Nat.reduceMul, Nat.reduceSub, ea_pI_eq, ev_pIn, ev_pIe, ea_pI_r, eq_self, e33, e119]
        rfl
  · have pp := px_pair (i := 0) (Or.inl rfl) hC1 y1 (by decide) 0
    have pp : fX3_pairPart 50 0 0 M1 = some (prt v 0 (pl g (n 7 + 1) th)[0]?, M1) := pp
    refine ⟨prt v 0 (pl g (n 7 + 1) th)[0]?, ⟨M1, ?_, r1.kp (Or.inl rfl)⟩, model _ (fun M2 f2 g2 => ?_)⟩
    · unfold fX10_fit fX10_fit_0
      simp (disch := omega) only [ev_ck, ev_ci, ev_cv, ev_lt_, ↓reduceIte, ev_lens, ev_ix, ev_nz, ev_cl, ev_cll, ev_add, ev_addl, ev_ladd, ev_mul, ev_mull, ev_lmul, ev_sub, ev_subl, ev_lsub, ev_lt, ev_ltl, ev_llt, ev_le, ev_lel, ev_lle, ev_eq, ev_eql, ev_leq, ev_nm1, ev_nm5, ev_m1n, ev_neg1, ev_ltT, ev_ltF, ev_leT, ev_leF, ev_eqT, ev_eqF, ev_one0, ev_zero1, Nat.reduceAdd, Nat.reduceMul, Nat.reduceSub, ea_pI_eq, ev_pIn, ev_pIe, ea_pI_r, eq_self, gx, h0, px, hb, e1, pp]
    · generalize pl g (n 7 + 1) th = L at hln f2
      cases L with
      | nil =>
        have e33 : M2.1 100 33 = nI 0 := f2.1
        simp (disch := omega) only [ev_ck, ev_ci, ev_cv, ev_lt_, ↓reduceIte, ev_lens, ev_ix, ev_nz, ev_cl, ev_cll, ev_add, ev_addl, ev_ladd, ev_mul, ev_mull, ev_lmul, ev_sub, ev_subl, ev_lsub, ev_lt, ev_ltl, ev_llt, ev_le, ev_lel, ev_lle, ev_eq, ev_eql, ev_leq, ev_nm1, ev_nm5, ev_m1n, ev_neg1, ev_ltT, ev_ltF, ev_leT, ev_leF, ev_eqT, ev_eqF, ev_one0, ev_zero1, Nat.reduceAdd, Nat.reduceMul, Nat.reduceSub, ea_pI_eq, ev_pIn, ev_pIe, ea_pI_r, eq_self, e33]
        rfl
      | cons e L =>
        have e33 : M2.1 100 33 = nI (L.length + 1) := f2.1
        have hln : L.length + 1 ≤ 4 * th := hln
        have e120 : M2.1 120 0 = nI (yrP v e.2) := (f2.2 0 (Nat.zero_lt_succ _)).2
        simp (disch := omega) only [ev_ck, ev_ci, ev_cv, ev_lt_, ↓reduceIte, ev_lens, ev_ix, ev_nz, ev_cl, ev_cll, ev_add, ev_addl, ev_ladd, ev_mul, ev_mull, ev_lmul, ev_sub, ev_subl, ev_lsub, ev_lt, ev_ltl, ev_llt, ev_le, ev_lel, ev_lle, ev_eq, ev_eql, ev_leq, ev_nm1, ev_nm5, ev_m1n, ev_neg1, ev_ltT, ev_ltF, ev_leT, ev_leF, ev_eqT, ev_eqF, ev_one0, ev_zero1, Nat.reduceAdd, Nat.reduceMul, Nat.reduceSub, ea_pI_eq, ev_pIn, ev_pIe, ea_pI_r, eq_self, e33, e120]
        rfl
theorem sz_pair (x1 x2 x3 x4 x5 : Int32) : ea_st InvZ (fX10_pair x1 x2 x3 x4 x5) (fX11_pair x1 x2 x3 x4 x5) := by
  refine ea_qz (fun M c n v th o w q l t r hC => ?_)
  have ho := hC.1.2.2.2.1
  have h7 := ho.2.2.2.2.2.2.2.1
  have hth := hC.1.2.2.2.2.2.2.1.1.1
  have gx := gx_fit hC.1 x1 x2 x3
  have px := px_in x5 0 1 M
  rcases ak_cs ho x1 x2 x3 with h0 | ⟨h0, cell, s, kn, hc1, hc2, hs, hk, rfl, rfl, rfl⟩
  · refine ⟨-2, ⟨M, by unfold fX10_pair fX10_pair_0; simp (disch := omega) only [ev_ck, ev_ci, ev_cv, ev_lt_, ↓reduceIte, ev_lens, ev_ix, ev_nz, ev_cl, ev_cll, ev_add, ev_addl, ev_ladd, ev_mul, ev_mull, ev_lmul, ev_sub, ev_subl, ev_lsub, ev_lt, ev_ltl, ev_llt, ev_le, ev_lel, ev_lle, ev_eq, ev_eql, ev_leq, ev_nm1, ev_nm5, ev_m1n, ev_neg1, ev_ltT, ev_ltF, ev_leT, ev_leF, ev_eqT, ev_eqF, ev_one0, ev_zero1, Nat.reduceAdd, Nat.reduceMul, Nat.reduceSub, ea_pI_eq, ev_pIn, ev_pIe, ea_pI_r, eq_self, gx, h0], Kp.rf M⟩, fun M1 h1 => ⟨M1, ?_, Kp.rf M1⟩⟩
    have gy := gy_fit h1.1 x1 x2 x3
    unfold fX11_pair fX11_pair_0
    simp (disch := omega) only [ev_ck, ev_ci, ev_cv, ev_lt_, ↓reduceIte, ev_lens, ev_ix, ev_nz, ev_cl, ev_cll, ev_add, ev_addl, ev_ladd, ev_mul, ev_mull, ev_lmul, ev_sub, ev_subl, ev_lsub, ev_lt, ev_ltl, ev_llt, ev_le, ev_lel, ev_lle, ev_eq, ev_eql, ev_leq, ev_nm1, ev_nm5, ev_m1n, ev_neg1, ev_ltT, ev_ltF, ev_leT, ev_leF, ev_eqT, ev_eqF, ev_one0, ev_zero1, Nat.reduceAdd, Nat.reduceMul, Nat.reduceSub, ea_pI_eq, ev_pIn, ev_pIe, ea_pI_r, eq_self, gy, h0]
  by_cases hx4 : x4 < 0
  · refine ⟨-2, ⟨M, by unfold fX10_pair fX10_pair_0; simp (disch := omega) only [ev_ck, ev_ci, ev_cv, ev_lt_, ↓reduceIte, ev_lens, ev_ix, ev_nz, ev_cl, ev_cll, ev_add, ev_addl, ev_ladd, ev_mul, ev_mull, ev_lmul, ev_sub, ev_subl, ev_lsub, ev_lt, ev_ltl, ev_llt, ev_le, ev_lel, ev_lle, ev_eq, ev_eql, ev_leq, ev_nm1, ev_nm5, ev_m1n, ev_neg1, ev_ltT, ev_ltF, ev_leT, ev_leF, ev_eqT, ev_eqF, ev_one0, ev_zero1, Nat.reduceAdd, Nat.reduceMul, Nat.reduceSub, ea_pI_eq, ev_pIn, ev_pIe, ea_pI_r, eq_self, gx, h0, eq_true hx4], Kp.rf M⟩, fun M1 h1 => ⟨M1, ?_, Kp.rf M1⟩⟩
    have gy := gy_fit h1.1 (nI cell) (nI s) (nI kn)
    unfold fX11_pair fX11_pair_0
    simp (disch := omega) only [ev_ck, ev_ci, ev_cv, ev_lt_, ↓reduceIte, ev_lens, ev_ix, ev_nz, ev_cl, ev_cll, ev_add, ev_addl, ev_ladd, ev_mul, ev_mull, ev_lmul, ev_sub, ev_subl, ev_lsub, ev_lt, ev_ltl, ev_llt, ev_le, ev_lel, ev_lle, ev_eq, ev_eql, ev_leq, ev_nm1, ev_nm5, ev_m1n, ev_neg1, ev_ltT, ev_ltF, ev_leT, ev_leF, ev_eqT, ev_eqF, ev_one0, ev_zero1, Nat.reduceAdd, Nat.reduceMul, Nat.reduceSub, ea_pI_eq, ev_pIn, ev_pIe, ea_pI_r, eq_self, gy, h0, eq_true hx4]
  obtain ⟨i, hi, rfl⟩ := nI_of hx4
  rcases (pb_01 x5 0 1) with hb | hb
  · refine ⟨-2, ⟨M, by unfold fX10_pair fX10_pair_0; simp (disch := omega) only [ev_ck, ev_ci, ev_cv, ev_lt_, ↓reduceIte, ev_lens, ev_ix, ev_nz, ev_cl, ev_cll, ev_add, ev_addl, ev_ladd, ev_mul, ev_mull, ev_lmul, ev_sub, ev_subl, ev_lsub, ev_lt, ev_ltl, ev_llt, ev_le, ev_lel, ev_lle, ev_eq, ev_eql, ev_leq, ev_nm1, ev_nm5, ev_m1n, ev_neg1, ev_ltT, ev_ltF, ev_leT, ev_leF, ev_eqT, ev_eqF, ev_one0, ev_zero1, Nat.reduceAdd, Nat.reduceMul, Nat.reduceSub, ea_pI_eq, ev_pIn, ev_pIe, ea_pI_r, eq_self, gx, h0, eq_false hx4, px, hb], Kp.rf M⟩, fun M1 h1 => ⟨M1, ?_, Kp.rf M1⟩⟩
    have gy := gy_fit h1.1 (nI cell) (nI s) (nI kn)
    have py := py_in x5 0 1 M1
    unfold fX11_pair fX11_pair_0
    simp (disch := omega) only [ev_ck, ev_ci, ev_cv, ev_lt_, ↓reduceIte, ev_lens, ev_ix, ev_nz, ev_cl, ev_cll, ev_add, ev_addl, ev_ladd, ev_mul, ev_mull, ev_lmul, ev_sub, ev_subl, ev_lsub, ev_lt, ev_ltl, ev_llt, ev_le, ev_lel, ev_lle, ev_eq, ev_eql, ev_leq, ev_nm1, ev_nm5, ev_m1n, ev_neg1, ev_ltT, ev_ltF, ev_leT, ev_leF, ev_eqT, ev_eqF, ev_one0, ev_zero1, Nat.reduceAdd, Nat.reduceMul, Nat.reduceSub, ea_pI_eq, ev_pIn, ev_pIe, ea_pI_r, eq_self, gy, h0, eq_false hx4, py, hb]
  obtain ⟨k, hk4, rfl⟩ := pb_nat0 (k := 2) (by decide) hb
  obtain ⟨M1, e1, f1, r1⟩ := px_find (a := 50) (Or.inl rfl) hC hc2 hk hs
  have hC1 := hC.kp (r1.kp (Or.inl rfl))
  have hln := pl_len (fk n v o w s (cell % n 0) (sgs q l t r cell kn)) (show n 7 + 1 ≤ 4 by omega) th
  have pp := fun b => px_pair (Or.inl rfl) hC1 f1.1 hi b
  have hkk : (nI k = 0) = (k = 0) := pn_eq0 (by omega)
  refine ⟨prt v (if k = 0 then 1 else 0) (pl (fk n v o w s (cell % n 0) (sgs q l t r cell kn)) (n 7 + 1) th)[i]?, ⟨M1, ?_, r1.kp (Or.inl rfl)⟩, fun M2 h2 => ?_⟩
  · unfold fX10_pair fX10_pair_0
    rw [gx, h0, ev_ci, if_neg (by decide), if_neg hx4, px, hb, ev_ci, if_neg (by decide), e1, ev_cv]
    by_cases hz : k = 0
    · rw [if_pos (hkk.mpr hz), if_pos hz]
      simp (disch := omega) only [ev_ck, ev_ci, ev_cv, ev_lt_, ↓reduceIte, ev_lens, ev_ix, ev_nz, ev_cl, ev_cll, ev_add, ev_addl, ev_ladd, ev_mul, ev_mull, ev_lmul, ev_sub, ev_subl, ev_lsub, ev_lt, ev_ltl, ev_llt, ev_le, ev_lel, ev_lle, ev_eq, ev_eql, ev_leq, ev_nm1, ev_nm5, ev_m1n, ev_neg1, ev_ltT, ev_ltF, ev_leT, ev_leF, ev_eqT, ev_eqF, ev_one0, ev_zero1, Nat.reduceAdd, Nat.reduceMul, Nat.reduceSub, ea_pI_eq, ev_pIn, ev_pIe, ea_pI_r, eq_self, fX10_pair_54, pp]
    · rw [if_neg (fun q => hz (hkk.mp q)), if_neg hz]
      simp (disch := omega) only [ev_ck, ev_ci, ev_cv, ev_lt_, ↓reduceIte, ev_lens, ev_ix, ev_nz, ev_cl, ev_cll, ev_add, ev_addl, ev_ladd, ev_mul, ev_mull, ev_lmul, ev_sub, ev_subl, ev_lsub, ev_lt, ev_ltl, ev_llt, ev_le, ev_lel, ev_lle, ev_eq, ev_eql, ev_leq, ev_nm1, ev_nm5, ev_m1n, ev_neg1, ev_ltT, ev_ltF, ev_leT, ev_leF, ev_eqT, ev_eqF, ev_one0, ev_zero1, Nat.reduceAdd, Nat.reduceMul, Nat.reduceSub, ea_pI_eq, ev_pIn, ev_pIe, ea_pI_r, eq_self, fX10_pair_54, pp]
  · obtain ⟨M3, e2, f2, g2, r2⟩ := py_findFits h2 hc2 hk hs
    refine ⟨M3, ?_, r2.kp⟩
    have gy := gy_fit h2.1 (nI cell) (nI s) (nI kn)
    have py := py_in (nI k) 0 1 M2
    unfold fX11_pair fX11_pair_0
    rw [gy, h0, ev_ci, if_neg (by decide), if_neg hx4, py, hb, ev_ci, if_neg (by decide), e2, ev_cv, f2.1]
    have wl := pn_ltI hi (show (pl (fk n v o w s (cell % n 0) (sgs q l t r cell kn)) (n 7 + 1) th).length < 2 ^ 31 by omega)
    generalize pl (fk n v o w s (cell % n 0) (sgs q l t r cell kn)) (n 7 + 1) th = L at hln f2 wl
    by_cases hlt : i < L.length
    · rw [if_pos (wl.mpr hlt), getD_get (z := (0, 0)) hlt]
      obtain ⟨g1, g2⟩ := f2.2 i hlt
      by_cases hz : k = 0
      · rw [if_pos (hkk.mpr hz), if_pos hz]
        simp (disch := omega) only [ev_ck, ev_ci, ev_cv, ev_lt_, ↓reduceIte, ev_lens, ev_ix, ev_nz, ev_cl, ev_cll, ev_add, ev_addl, ev_ladd, ev_mul, ev_mull, ev_lmul, ev_sub, ev_subl, ev_lsub, ev_lt, ev_ltl, ev_llt, ev_le, ev_lel, ev_lle, ev_eq, ev_eql, ev_leq, ev_nm1, ev_nm5, ev_m1n, ev_neg1, ev_ltT, ev_ltF, ev_leT, ev_leF, ev_eqT, ev_eqF, ev_one0, ev_zero1, Nat.reduceAdd, Nat.reduceMul, Nat.reduceSub, ea_pI_eq, ev_pIn, ev_pIe, ea_pI_r, eq_self, g1]
        rfl
      · rw [if_neg (fun q => hz (hkk.mp q)), if_neg hz]
        simp (disch := omega) only [ev_ck, ev_ci, ev_cv, ev_lt_, ↓reduceIte, ev_lens, ev_ix, ev_nz, ev_cl, ev_cll, ev_add, ev_addl, ev_ladd, ev_mul, ev_mull, ev_lmul, ev_sub, ev_subl, ev_lsub, ev_lt, ev_ltl, ev_llt, ev_le, ev_lel, ev_lle, ev_eq, ev_eql, ev_leq, ev_nm1, ev_nm5, ev_m1n, ev_neg1, ev_ltT, ev_ltF, ev_leT, ev_leF, ev_eqT, ev_eqF, ev_one0, ev_zero1, Nat.reduceAdd, Nat.reduceMul, Nat.reduceSub, ea_pI_eq, ev_pIn, ev_pIe, ea_pI_r, eq_self, g2]
        rfl
    · rw [if_neg (fun q => hlt (wl.mp q)), List.getElem?_eq_none (by omega)]
      rfl
