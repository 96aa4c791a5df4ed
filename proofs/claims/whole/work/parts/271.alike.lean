/-- the greatest of all multiplicities -/
def MXT (T : Nat → Nat) (m : Nat) : Prop := (∀ z, T z ≤ m) ∧ (m = 0 ∨ ∃ z, T z = m)
theorem MXT.uq {T T' : Nat → Nat} {m m' : Nat} (h : MXT T m) (h' : MXT T' m') (e : ∀ z, T z = T' z) : m = m' := by
  have a : m ≤ m' := by
    rcases h.2 with h0 | ⟨z, hz⟩
    · omega
    · have := h'.1 z; rw [e z] at hz; omega
  have b : m' ≤ m := by
    rcases h'.2 with h0 | ⟨z, hz⟩
    · omega
    · have := h.1 z; rw [← e z] at hz; omega
  omega
section RU
variable {M : eM} {N : Nat}
theorem px_run {B : Nat → Nat} (hN : N ≤ 3420) (hA : ARR M N B) (hS : ∀ i, i + 1 < N → B i ≤ B (i + 1)) : ∃ m, fX4_longestRun M = some (nI m, M) ∧ MXT (muA B N) m ∧ m ≤ N := by
  have so : ∀ i, i < N → ∀ j, j ≤ i → B j ≤ B i := by
    intro i
    induction i with
    | zero => intro hi j hj; rw [show j = 0 by omega]; exact Nat.le_refl _
    | succ i ih =>
      intro hi j hj
      by_cases e : j = i + 1
      · rw [e]; exact Nat.le_refl _
      · have h1 := ih (by omega) j (by omega)
        have h2 := hS i hi
        omega
  have mle : ∀ i z, muA B i z ≤ i := fun i z => cnt_le _ _
  have lp : ∀ (d k i L rn : Nat), N - i = d → i ≤ N → d < k → MXT (muA B i) L → L ≤ i → (i = 0 → rn = 0) → (0 < i → rn = muA B i (B (i - 1))) → ∃ m, fX4_longestRun_6 k (nI L) (nI rn) (nI i) M = some (nI m, M) ∧ MXT (muA B N) m ∧ m ≤ N := by
    intro d
    induction d with
    | zero =>
      intro k i L rn hd hi hk hL hLi h0 h1
      obtain ⟨k, rfl⟩ : ∃ f', k = f' + 1 := ⟨k - 1, by omega⟩
      have e : i = N := by omega
      rw [e] at hL
      refine ⟨L, ?_, hL, by omega⟩
      simp (disch := omega) only [ev_ck, ev_ci, ev_cv, ev_lt_, ↓reduceIte, ev_lens, ev_ix, ev_nz, ev_cl, ev_cll, ev_add, ev_addl, ev_ladd, ev_mul, ev_mull, ev_lmul, ev_sub, ev_subl, ev_lsub, ev_lt, ev_ltl, ev_llt, ev_le, ev_lel, ev_lle, ev_eq, ev_eql, ev_leq, ev_nm1, ev_nm5, ev_m1n, ev_neg1, ev_ltT, ev_ltF, ev_leT, ev_leF, ev_eqT, ev_eqF, ev_one0, ev_zero1, Nat.reduceAdd, Nat.reduceMul, Nat.reduceSub, ea_pI_eq, ev_pIn, ev_pIe, ea_pI_r, eq_self, fX4_longestRun_6, hA.1]
    | succ d ih =>
      intro k i L rn hd hi hk hL hLi h0 h1
      obtain ⟨k, rfl⟩ : ∃ f', k = f' + 1 := ⟨k - 1, by omega⟩
      have gi := hA.2 i (by omega)
      -- the next step, whatever the run
      have nx : ∀ r', r' = muA B (i + 1) (B i) → ∃ m, fX4_longestRun_42 (fX4_longestRun_6 k) (nI L) (nI i) (nI r') M = some (nI m, M) ∧ MXT (muA B N) m ∧ m ≤ N := by
        intro r' hr
        have hrl := mle (i + 1) (B i)
        obtain ⟨m, q1, q2⟩ := ih k (i + 1) (mx2 L r') r' (by omega) (by omega) (by omega) ⟨fun z => by
          rw [muA_s]
          by_cases e : B i = z
          · have : muA B (i + 1) z = r' := by rw [← e]; exact hr.symm
            rw [muA_s] at this
            rw [this]; exact mx2_r
          · rw [if_neg e]
            exact Nat.le_trans (hL.1 z) mx2_l, by
          right
          unfold mx2
          by_cases hle : r' ≤ L
          · rw [if_pos hle]
            rcases hL.2 with hl | ⟨z, hz⟩
            · exact ⟨B i, by rw [← hr]; have := muA_s B i (B i); rw [if_pos rfl] at this; omega⟩
            · refine ⟨z, ?_⟩
              rw [muA_s]
              by_cases e : B i = z
              · have : muA B (i + 1) (B i) = muA B i (B i) + 1 := by rw [muA_s, if_pos rfl]
                rw [e] at this hr
                omega
              · rw [if_neg e]; exact hz
          · rw [if_neg hle]
            exact ⟨B i, hr.symm⟩⟩ (mx2_le (by omega) (by omega)) (fun h => by omega) (fun _ => by rw [show i + 1 - 1 = i by omega]; exact hr)
        refine ⟨m, ?_, q2⟩
        have em : ea_max (nI L) (nI r') = nI (mx2 L r') := ev_max (by omega) (by omega)
        unfold fX4_longestRun_42
        rw [em, show nI i + 1 = nI (i + 1) from nI_add i 1]
        exact q1
      rw [fX4_longestRun_6]
      rcases Nat.eq_zero_or_pos i with hz | hz
      · obtain ⟨m, q1, q2⟩ := nx 1 (by rw [muA_s, hz]; show 1 = 0 + _; rw [if_pos rfl])
        refine ⟨m, ?_, q2⟩
        simp (disch := omega) only [ev_ck, ev_ci, ev_cv, ev_lt_, ↓reduceIte, ev_lens, ev_ix, ev_nz, ev_cl, ev_cll, ev_add, ev_addl, ev_ladd, ev_mul, ev_mull, ev_lmul, ev_sub, ev_subl, ev_lsub, ev_lt, ev_ltl, ev_llt, ev_le, ev_lel, ev_lle, ev_eq, ev_eql, ev_leq, ev_nm1, ev_nm5, ev_m1n, ev_neg1, ev_ltT, ev_ltF, ev_leT, ev_leF, ev_eqT, ev_eqF, ev_one0, ev_zero1, Nat.reduceAdd, Nat.reduceMul, Nat.reduceSub, ea_pI_eq, ev_pIn, ev_pIe, ea_pI_r, eq_self, hA.1, fX4_longestRun_41]
        exact q1
      · have gp := hA.2 (i - 1) (by omega)
        have hle := hS (i - 1) (by omega)
        rw [show i - 1 + 1 = i by omega] at hle
        have hrn := h1 hz
        have hrl := mle i (B (i - 1))
        by_cases e : B i = B (i - 1)
        · obtain ⟨m, q1, q2⟩ := nx (rn + 1) (by rw [muA_s, if_pos rfl, hrn, e])
          refine ⟨m, ?_, q2⟩
          simp (disch := omega) only [ev_ck, ev_ci, ev_cv, ev_lt_, ↓reduceIte, ev_lens, ev_ix, ev_nz, ev_cl, ev_cll, ev_add, ev_addl, ev_ladd, ev_mul, ev_mull, ev_lmul, ev_sub, ev_subl, ev_lsub, ev_lt, ev_ltl, ev_llt, ev_le, ev_lel, ev_lle, ev_eq, ev_eql, ev_leq, ev_nm1, ev_nm5, ev_m1n, ev_neg1, ev_ltT, ev_ltF, ev_leT, ev_leF, ev_eqT, ev_eqF, ev_one0, ev_zero1, Nat.reduceAdd, Nat.reduceMul, Nat.reduceSub, ea_pI_eq, ev_pIn, ev_pIe, ea_pI_r, eq_self, hA.1, gi.1, gp.1]
          exact q1
        · have z0 : muA B i (B i) = 0 := by
            rcases Nat.eq_zero_or_pos (muA B i (B i)) with h | h
            · exact h
            · obtain ⟨j, j1, jt, -⟩ := cnt_ex h
              have jt := of_decide_eq_true jt
              have := so (i - 1) (by omega) j (by omega)
              omega
          obtain ⟨m, q1, q2⟩ := nx 1 (by rw [muA_s, if_pos rfl, z0])
          refine ⟨m, ?_, q2⟩
          have b1 := gi.2
          have b2 := gp.2
          simp (disch := omega) only [ev_ck, ev_ci, ev_cv, ev_lt_, ↓reduceIte, ev_lens, ev_ix, ev_nz, ev_cl, ev_cll, ev_add, ev_addl, ev_ladd, ev_mul, ev_mull, ev_lmul, ev_sub, ev_subl, ev_lsub, ev_lt, ev_ltl, ev_llt, ev_le, ev_lel, ev_lle, ev_eq, ev_eql, ev_leq, ev_nm1, ev_nm5, ev_m1n, ev_neg1, ev_ltT, ev_ltF, ev_leT, ev_leF, ev_eqT, ev_eqF, ev_one0, ev_zero1, Nat.reduceAdd, Nat.reduceMul, Nat.reduceSub, ea_pI_eq, ev_pIn, ev_pIe, ea_pI_r, eq_self, hA.1, gi.1, gp.1, fX4_longestRun_41]
          exact q1
  exact lp N ea_N 0 0 0 (by omega) (by omega) (by unfold ea_N; omega) ⟨fun z => Nat.le_refl _, Or.inl rfl⟩ (Nat.le_refl _) (fun _ => rfl) (fun h => by omega)
end RU
/-- what a hair shows, as one number -/
def cdv (v : Nat → Nat → Nat) (o w : Nat → Nat) (x h : Nat) : Nat := (sp_col v o w x h 0 * 100 + sp_col v o w x h 1) * 100 + sp_col v o w x h 2
theorem cdv_lt {v : Nat → Nat → Nat} {o w : Nat → Nat} {x h : Nat} : cdv v o w x h < 1000000 := by
  have h0 := sp_col_le (v := v) (o := o) (w := w) (x := x) (h := h) (c := 0)
  have h1 := sp_col_le (v := v) (o := o) (w := w) (x := x) (h := h) (c := 1)
  have h2 := sp_col_le (v := v) (o := o) (w := w) (x := x) (h := h) (c := 2)
  unfold cdv
  omega
def ind (b : Bool) (c z : Nat) : Nat := if b = true then (if c = z then 1 else 0) else 0
/-- the frame of the hairs -/
def FrH (M M' : eM) : Prop := (∀ c k, c ≠ 70 → c ≠ 71 → (c ≠ 52 ∨ 135 ≤ k) → M'.1 c k = M.1 c k) ∧ M'.2.2 = M.2.2
theorem FrH.trans {A B D : eM} (h : FrH A B) (g : FrH B D) : FrH A D := ⟨fun c k p q r => (g.1 c k p q r).trans (h.1 c k p q r), g.2.trans h.2⟩
theorem FrH.kp {M M' : eM} (h : FrH M M') : Kp M M' := ⟨⟨fun c k hk => h.1 c k (by have := isInv_in hk; omega) (by have := isInv_in hk; omega) (by have := isInv_in hk; omega), h.2⟩, fun c k h1 h2 => h.1 c k (by omega) (by omega) (by omega)⟩
section AY
variable {M : eM} {cc th : Nat} {n : Nat → Nat} {v : Nat → Nat → Nat} {o w q : Nat → Nat} {l t r : Nat → Nat → Nat} {g : Nat → Nat → Bool}
theorem px_addYear (hC0 : Ctx M cc n v th o w q l t r) {h : Nat} (hP : PH M 50 n v h) (hY : yrs M 50 th g) {p N : Nat} (hp : p < 4) {A : Nat → Nat} (hA : ARR M N A) (hN : N + th ≤ 3420) : ∃ M' N' A', fX4_addYear 50 (nI p) M = some M' ∧ ARR M' N' A' ∧ N' ≤ N + th ∧ (∀ z, muA A' N' z = muA A N z + sumN (fun x => ind (g x p) (cdv v o w x h) z) th) ∧ (∀ c k, c ≠ 70 → c ≠ 71 → M'.1 c k = M.1 c k) ∧ M'.2.2 = M.2.2 := by
  have hth := hC0.1.2.2.2.2.2.2.1.1.1
  have e71 : nI (ea_len 71) = nI 3420 := rfl
  have lp : ∀ (d f x : Nat) (M1 : eM) (N1 : Nat) (A1 : Nat → Nat), th - x = d → x ≤ th → d < f → ARR M1 N1 A1 → N1 ≤ N + x → (∀ z, muA A1 N1 z = muA A N z + sumN (fun x => ind (g x p) (cdv v o w x h) z) x) → (∀ c k, c ≠ 70 → c ≠ 71 → M1.1 c k = M.1 c k) → M1.2.2 = M.2.2 → ∃ M' N' A', fX4_addYear_2 50 f (nI p) (nI x) M1 = some M' ∧ ARR M' N' A' ∧ N' ≤ N + th ∧ (∀ z, muA A' N' z = muA A N z + sumN (fun x => ind (g x p) (cdv v o w x h) z) th) ∧ (∀ c k, c ≠ 70 → c ≠ 71 → M'.1 c k = M.1 c k) ∧ M'.2.2 = M.2.2 := by
    intro d
    induction d with
    | zero =>
      intro f x M1 N1 A1 hd hx hf hA1 hN1 hm hF hR
      obtain ⟨f, rfl⟩ : ∃ f', f = f' + 1 := ⟨f - 1, by omega⟩
      have e : x = th := by omega
      rw [e] at hm hN1 ⊢
      have e41 : M1.1 4 1 = nI th := by rw [hF _ _ (by omega) (by omega)]; exact hC0.1.2.2.2.2.2.2.2.1.1
      refine ⟨M1, N1, A1, ?_, hA1, hN1, hm, hF, hR⟩
      simp (disch := omega) only [ev_ck, ev_ci, ev_cv, ev_lt_, ↓reduceIte, ev_lens, ev_ix, ev_nz, ev_cl, ev_cll, ev_add, ev_addl, ev_ladd, ev_mul, ev_mull, ev_lmul, ev_sub, ev_subl, ev_lsub, ev_lt, ev_ltl, ev_llt, ev_le, ev_lel, ev_lle, ev_eq, ev_eql, ev_leq, ev_nm1, ev_nm5, ev_m1n, ev_neg1, ev_ltT, ev_ltF, ev_leT, ev_leF, ev_eqT, ev_eqF, ev_one0, ev_zero1, Nat.reduceAdd, Nat.reduceMul, Nat.reduceSub, ea_pI_eq, ev_pIn, ev_pIe, ea_pI_r, eq_self, fX4_addYear_2, e41]
    | succ d ih =>
      intro f x M1 N1 A1 hd hx hf hA1 hN1 hm hF hR
      obtain ⟨f, rfl⟩ : ∃ f', f = f' + 1 := ⟨f - 1, by omega⟩
      have e41 : M1.1 4 1 = nI th := by rw [hF _ _ (by omega) (by omega)]; exact hC0.1.2.2.2.2.2.2.2.1.1
      have ej : M1.1 53 x = nI (mk (g x)) := by rw [hF _ _ (by omega) (by omega)]; exact hY x (by omega)
      have kp : Kp M M1 := ⟨⟨fun c k hk => hF c k (by have := isInv_in hk; omega) (by have := isInv_in hk; omega), hR⟩, fun c k a b => hF c k (by omega) (by omega)⟩
      have sh := fun c (hc : c < 3) => px_shadeP (a := 50) (Or.inl rfl) (hC0.kp kp) (h := h) (fun y c hc hy => by rw [hF _ _ (by omega) (by omega)]; exact hP y c hc hy) (show x < th by omega) hc
      have s0 : fX5_shadeOf 51 (nI x) 0 M1 = _ := sh 0 (by decide)
      have s1 : fX5_shadeOf 51 (nI x) 1 M1 = _ := sh 1 (by decide)
      have s2 : fX5_shadeOf 51 (nI x) 2 M1 = _ := sh 2 (by decide)
      have h0 := sp_col_le (v := v) (o := o) (w := w) (x := x) (h := h) (c := 0)
      have h1 := sp_col_le (v := v) (o := o) (w := w) (x := x) (h := h) (c := 1)
      have h2 := sp_col_le (v := v) (o := o) (w := w) (x := x) (h := h) (c := 2)
      have bt := mk_shr hp (g x)
      cases hb : g x p with
      | false =>
        have z := eq_true (bt.mpr hb)
        obtain ⟨M2, N2, A2, r1, r2⟩ := ih f (x + 1) M1 N1 A1 (by omega) (by omega) (by omega) hA1 (by omega) (fun y => by
          rw [hm y, sumN_s, show ind (g x p) (cdv v o w x h) y = 0 from by unfold ind; rw [hb, if_neg Bool.false_ne_true], Nat.add_zero]) hF hR
        refine ⟨M2, N2, A2, ?_, r2⟩
        simp (disch := omega) only [ev_ck, ev_ci, ev_cv, ev_lt_, ↓reduceIte, ev_lens, ev_ix, ev_nz, ev_cl, ev_cll, ev_add, ev_addl, ev_ladd, ev_mul, ev_mull, ev_lmul, ev_sub, ev_subl, ev_lsub, ev_lt, ev_ltl, ev_llt, ev_le, ev_lel, ev_lle, ev_eq, ev_eql, ev_leq, ev_nm1, ev_nm5, ev_m1n, ev_neg1, ev_ltT, ev_ltF, ev_leT, ev_leF, ev_eqT, ev_eqF, ev_one0, ev_zero1, Nat.reduceAdd, Nat.reduceMul, Nat.reduceSub, ea_pI_eq, ev_pIn, ev_pIe, ea_pI_r, eq_self, fX4_addYear_2, e41, ej, z, fX4_addYear_96]
        exact r1
      | true =>
        have z := eq_false (fun q => by have := bt.mp q; rw [hb] at this; cases this)
        have e70 := hA1.1
        obtain ⟨M2, N2, A2, r1, r2⟩ := ih f (x + 1) (ea_pI (ea_pI M1 71 N1 (nI (cdv v o w x h))) 70 1 (nI (N1 + 1))) (N1 + 1) (fun i => if i = N1 then cdv v o w x h else A1 i) (by omega) (by omega) (by omega) ⟨by simp (disch := omega) only [ev_ck, ev_ci, ev_cv, ev_lt_, ↓reduceIte, ev_lens, ev_ix, ev_nz, ev_cl, ev_cll, ev_add, ev_addl, ev_ladd, ev_mul, ev_mull, ev_lmul, ev_sub, ev_subl, ev_lsub, ev_lt, ev_ltl, ev_llt, ev_le, ev_lel, ev_lle, ev_eq, ev_eql, ev_leq, ev_nm1, ev_nm5, ev_m1n, ev_neg1, ev_ltT, ev_ltF, ev_leT, ev_leF, ev_eqT, ev_eqF, ev_one0, ev_zero1, Nat.reduceAdd, Nat.reduceMul, Nat.reduceSub, ea_pI_eq, ev_pIn, ev_pIe, ea_pI_r, eq_self], fun i hi => by
          show (ea_pI (ea_pI M1 71 N1 (nI (cdv v o w x h))) 70 1 (nI (N1 + 1))).1 71 i = nI (if i = N1 then cdv v o w x h else A1 i) ∧ (if i = N1 then cdv v o w x h else A1 i) < 1000000
          by_cases e : i = N1
          · rw [if_pos e, e]; exact ⟨by simp (disch := omega) only [ev_ck, ev_ci, ev_cv, ev_lt_, ↓reduceIte, ev_lens, ev_ix, ev_nz, ev_cl, ev_cll, ev_add, ev_addl, ev_ladd, ev_mul, ev_mull, ev_lmul, ev_sub, ev_subl, ev_lsub, ev_lt, ev_ltl, ev_llt, ev_le, ev_lel, ev_lle, ev_eq, ev_eql, ev_leq, ev_nm1, ev_nm5, ev_m1n, ev_neg1, ev_ltT, ev_ltF, ev_leT, ev_leF, ev_eqT, ev_eqF, ev_one0, ev_zero1, Nat.reduceAdd, Nat.reduceMul, Nat.reduceSub, ea_pI_eq, ev_pIn, ev_pIe, ea_pI_r, eq_self], cdv_lt⟩
          · rw [if_neg e]; exact ⟨by simp (disch := omega) only [ev_ck, ev_ci, ev_cv, ev_lt_, ↓reduceIte, ev_lens, ev_ix, ev_nz, ev_cl, ev_cll, ev_add, ev_addl, ev_ladd, ev_mul, ev_mull, ev_lmul, ev_sub, ev_subl, ev_lsub, ev_lt, ev_ltl, ev_llt, ev_le, ev_lel, ev_lle, ev_eq, ev_eql, ev_leq, ev_nm1, ev_nm5, ev_m1n, ev_neg1, ev_ltT, ev_ltF, ev_leT, ev_leF, ev_eqT, ev_eqF, ev_one0, ev_zero1, Nat.reduceAdd, Nat.reduceMul, Nat.reduceSub, ea_pI_eq, ev_pIn, ev_pIe, ea_pI_r, eq_self]; exact (hA1.2 i (by omega)).1, (hA1.2 i (by omega)).2⟩⟩ (by omega) (fun y => by
          rw [muA_s, if_pos rfl, muA_congr (B := A1) (fun i hi => if_neg (by omega)), hm y, sumN_s, show ind (g x p) (cdv v o w x h) y = if cdv v o w x h = y then 1 else 0 from by unfold ind; rw [hb, if_pos rfl], Nat.add_assoc]) (fun c k hc hk => by simp (disch := omega) only [ev_ck, ev_ci, ev_cv, ev_lt_, ↓reduceIte, ev_lens, ev_ix, ev_nz, ev_cl, ev_cll, ev_add, ev_addl, ev_ladd, ev_mul, ev_mull, ev_lmul, ev_sub, ev_subl, ev_lsub, ev_lt, ev_ltl, ev_llt, ev_le, ev_lel, ev_lle, ev_eq, ev_eql, ev_leq, ev_nm1, ev_nm5, ev_m1n, ev_neg1, ev_ltT, ev_ltF, ev_leT, ev_leF, ev_eqT, ev_eqF, ev_one0, ev_zero1, Nat.reduceAdd, Nat.reduceMul, Nat.reduceSub, ea_pI_eq, ev_pIn, ev_pIe, ea_pI_r, eq_self]; exact hF c k hc hk) hR
        refine ⟨M2, N2, A2, ?_, r2⟩
        have ec : nI ((sp_col v o w x h 0 * 100 + sp_col v o w x h 1) * 100 + sp_col v o w x h 2) = nI (cdv v o w x h) := rfl
        rw [fX4_addYear_2, e71]
        simp (disch := omega) only [ev_ck, ev_ci, ev_cv, ev_lt_, ↓reduceIte, ev_lens, ev_ix, ev_nz, ev_cl, ev_cll, ev_add, ev_addl, ev_ladd, ev_mul, ev_mull, ev_lmul, ev_sub, ev_subl, ev_lsub, ev_lt, ev_ltl, ev_llt, ev_le, ev_lel, ev_lle, ev_eq, ev_eql, ev_leq, ev_nm1, ev_nm5, ev_m1n, ev_neg1, ev_ltT, ev_ltF, ev_leT, ev_leF, ev_eqT, ev_eqF, ev_one0, ev_zero1, Nat.reduceAdd, Nat.reduceMul, Nat.reduceSub, ea_pI_eq, ev_pIn, ev_pIe, ea_pI_r, eq_self, e41, ej, z, e70, s0, s1, s2, ec, fX4_addYear_96]
        exact r1
  exact lp th ea_N 0 M N A (by omega) (by omega) (by unfold ea_N; omega) hA (by omega) (fun z => rfl) (fun _ _ _ _ => rfl) rfl
/-- all that the hairs of a CELL would show -/
def Tot (n : Nat → Nat) (v : Nat → Nat → Nat) (o w : Nat → Nat) (th : Nat) (g : Nat → Nat → Bool) (s col hr z : Nat) : Nat → Nat
  | 0 => 0
  | p + 1 => Tot n v o w th g s col hr z p + sumN (fun x => ind (g x p) (cdv v o w x (sp_hours n v s col (yrP v p) 0 + hr)) z) th
theorem px_mostAlike (hC0 : Ctx M cc n v th o w q l t r) (hY : yrs M 50 th g) {cell s hr : Nat} (hcell : cell < 48) (hs : s < n 5) (hh : hr ≤ 999) : ∃ m M', fX4_mostAlike 50 (nI cell) (nI s) (nI hr) M = some (nI m, M') ∧ MXT (fun z => Tot n v o w th g s (cell % n 0) hr z (n 7 + 1)) m ∧ m ≤ 3420 ∧ FrH M M' := by
  have hcc := hC0.1.1
  have ho := hC0.1.2.2.2.1
  have h7 := ho.2.2.2.2.2.2.2.1
  have hth := hC0.1.2.2.2.2.2.2.1.1.1
  have hcol : cell % n 0 < n 0 := Nat.mod_lt _ (by have := ho.1; omega)
  have lp : ∀ (d f p : Nat) (M1 : eM) (N1 : Nat) (A1 : Nat → Nat), n 7 + 1 - p = d → p ≤ n 7 + 1 → d < f → ARR M1 N1 A1 → N1 ≤ p * 855 → (∀ z, muA A1 N1 z = Tot n v o w th g s (cell % n 0) hr z p) → FrH M M1 → ∃ M' N' A', fX4_mostAlike_17 (fX4_mostAlike_74 50) 50 f (nI cell) (nI s) (nI hr) cc (nI p) M1 = fX4_mostAlike_74 50 M' ∧ ARR M' N' A' ∧ N' ≤ 3420 ∧ (∀ z, muA A' N' z = Tot n v o w th g s (cell % n 0) hr z (n 7 + 1)) ∧ FrH M M' := by
    intro d
    induction d with
    | zero =>
      intro f p M1 N1 A1 hd hp hf hA1 hN1 hm hF
      obtain ⟨f, rfl⟩ : ∃ f', f = f' + 1 := ⟨f - 1, by omega⟩
      have e : p = n 7 + 1 := by omega
      have e6 := (hC0.kp hF.kp).1.2.2.2.2.1.1.2.2.2.2.2.2.2.1
      refine ⟨M1, N1, A1, ?_, hA1, by omega, fun z => by rw [hm z, e], hF⟩
      simp (disch := omega) only [ev_ck, ev_ci, ev_cv, ev_lt_, ↓reduceIte, ev_lens, ev_ix, ev_nz, ev_cl, ev_cll, ev_add, ev_addl, ev_ladd, ev_mul, ev_mull, ev_lmul, ev_sub, ev_subl, ev_lsub, ev_lt, ev_ltl, ev_llt, ev_le, ev_lel, ev_lle, ev_eq, ev_eql, ev_leq, ev_nm1, ev_nm5, ev_m1n, ev_neg1, ev_ltT, ev_ltF, ev_leT, ev_leF, ev_eqT, ev_eqF, ev_one0, ev_zero1, Nat.reduceAdd, Nat.reduceMul, Nat.reduceSub, ea_pI_eq, ev_pIn, ev_pIe, ea_pI_r, eq_self, fX4_mostAlike_17, e6]
    | succ d ih =>
      intro f p M1 N1 A1 hd hp hf hA1 hN1 hm hF
      obtain ⟨f, rfl⟩ : ∃ f', f = f' + 1 := ⟨f - 1, by omega⟩
      have hC := hC0.kp hF.kp
      have hX := hC.1.2.2.2.2.1
      have e6 := hX.1.2.2.2.2.2.2.2.1
      have cl := px_col hX ho hcell
      have yr := px_year hcc hX ho (p := p) (by omega)
      have hrs' := px_hours hcc hX ho hs hcol (yrP_le ho (p := p) (by omega)) (side := 0) (by decide)
      have hrs' : fX1_hoursOf cc (nI s) (nI (cell % n 0)) (nI (yrP v p)) 0 M1 = _ := hrs'
      have hle := sp_hours_le ho hs hcol (year := yrP v p) (side := 0)
      obtain ⟨M2, m1, m2⟩ := px_mix (p := 51) (Or.inl rfl) hC.1.2.1 hcc hX ho (h := sp_hours n v s (cell % n 0) (yrP v p) 0 + hr) (by omega)
      have f2 : FrH M1 M2 := ⟨fun c k a b e => m2.2.1 c k (by omega), m2.2.2⟩
      obtain ⟨M3, N3, A3, a1, a2, a3, a4, a5, a6⟩ := px_addYear (hC.kp f2.kp) (h := sp_hours n v s (cell % n 0) (yrP v p) 0 + hr) (fun x c hc hx => m2.1 x c hc hx) (g := g) (fun x hx => by rw [m2.2.1 _ _ (by omega), hF.1 _ _ (by omega) (by omega) (by omega)]; exact hY x hx) (p := p) (by omega) (N := N1) (A := A1) ⟨by rw [m2.2.1 _ _ (by omega)]; exact hA1.1, fun i hi => ⟨by rw [m2.2.1 _ _ (by omega)]; exact (hA1.2 i hi).1, (hA1.2 i hi).2⟩⟩ (by omega)
      have f3 : FrH M2 M3 := ⟨fun c k a b _ => a5 c k a b, a6⟩
      obtain ⟨M4, N4, A4, r1, r2⟩ := ih f (p + 1) M3 N3 A3 (by omega) (by omega) (by omega) a2 (by omega) (fun z => by rw [a4 z, hm z]; rfl) ((hF.trans f2).trans f3)
      refine ⟨M4, N4, A4, ?_, r2⟩
      rw [fX4_mostAlike_17, e6, if_neg (by rw [pn_ltI (by omega) (by omega)]; omega), cl, ev_ci, yr, ev_ci, hrs', ev_ci, ev_add, m1, ev_cv, a1, ev_cv, show nI p + 1 = nI (p + 1) from nI_add p 1]
      exact r1
  have f0 : FrH M (ea_pI M 70 1 (0 : Int32)) := ⟨fun c k a b _ => by rw [ea_pI_ne (by omega)], rfl⟩
  obtain ⟨M1, N1, A1, r1, r2, r3, r4, r5⟩ := lp (n 7 + 1) ea_N 0 (ea_pI M 70 1 (0 : Int32)) 0 (fun _ => 0) (by omega) (by omega) (by unfold ea_N; omega) ⟨by rw [ea_pI_eq]; rfl, fun i hi => absurd hi (Nat.not_lt_zero _)⟩ (by omega) (fun z => rfl) f0
  obtain ⟨M2, B, k1, k2, k3, k4, k5, k6⟩ := px_sort r3 r2
  obtain ⟨m, q1, q2, q3⟩ := px_run r3 k2 k3
  have f2 : FrH M1 M2 := ⟨fun c k _ b _ => k5 c k b, k6⟩
  refine ⟨m, M2, ?_, ⟨fun z => by have := q2.1 z; rw [k4 z, r4 z] at this; exact this, ?_⟩, by omega, r5.trans f2⟩
  · unfold fX4_mostAlike fX4_mostAlike_0
    rw [show (ea_pI M 70 1 (0 : Int32)).2.2 4 0 = cc from hC0.1.2.1, ea_ck_t (pn_is hcc), ev_lt_]
    refine (show fX4_mostAlike_17 _ 50 ea_N (nI cell) (nI s) (nI hr) cc 0 _ = _ from r1).trans ?_
    unfold fX4_mostAlike_74
    rw [k1, ev_cv, q1, ev_ci]
  · rcases q2.2 with h0 | ⟨z, hz⟩
    · exact Or.inl h0
    · exact Or.inr ⟨z, by rw [k4 z, r4 z] at hz; exact hz⟩
end AY
