def mn (f : Nat → Nat) : List (Nat × Nat) → Nat
  | [] => 99
  | e :: L => if f e.1 ≤ mn f L then f e.1 else mn f L
def mx (f : Nat → Nat) : List (Nat × Nat) → Nat
  | [] => 0
  | e :: L => if mx f L ≤ f e.1 then f e.1 else mx f L
theorem mn_app {f : Nat → Nat} (hf : ∀ x, f x ≤ 99) : ∀ A B, mn f (A ++ B) = if mn f A ≤ mn f B then mn f A else mn f B
  | [], B => by
    have : ∀ B, mn f B ≤ 99 := by
      intro B
      induction B with
      | nil => exact Nat.le_refl _
      | cons e B ih =>
        show (if f e.1 ≤ mn f B then f e.1 else mn f B) ≤ 99
        have := hf e.1
        by_cases h : f e.1 ≤ mn f B
        · rw [if_pos h]; exact this
        · rw [if_neg h]; exact ih
    show mn f B = if 99 ≤ mn f B then 99 else mn f B
    have := this B
    by_cases h : 99 ≤ mn f B
    · rw [if_pos h]; omega
    · rw [if_neg h]
  | e :: A, B => by
    have ih := mn_app hf A B
    show (if f e.1 ≤ mn f (A ++ B) then f e.1 else mn f (A ++ B)) = if (if f e.1 ≤ mn f A then f e.1 else mn f A) ≤ mn f B then (if f e.1 ≤ mn f A then f e.1 else mn f A) else mn f B
    rw [ih]
    generalize f e.1 = x
    generalize mn f A = y
    generalize mn f B = z
    by_cases h1 : y ≤ z <;> by_cases h2 : x ≤ y <;> by_cases h3 : x ≤ z <;> simp only [h1, h2, h3, if_true, if_false] <;> omega
theorem mx_app {f : Nat → Nat} : ∀ A B, mx f (A ++ B) = if mx f B ≤ mx f A then mx f A else mx f B
  | [], B => by
    show mx f B = if mx f B ≤ 0 then 0 else mx f B
    by_cases h : mx f B ≤ 0
    · rw [if_pos h]; omega
    · rw [if_neg h]
  | e :: A, B => by
    have ih := mx_app A B (f := f)
    show (if mx f (A ++ B) ≤ f e.1 then f e.1 else mx f (A ++ B)) = if mx f B ≤ (if mx f A ≤ f e.1 then f e.1 else mx f A) then (if mx f A ≤ f e.1 then f e.1 else mx f A) else mx f B
    rw [ih]
    generalize f e.1 = x
    generalize mx f A = y
    generalize mx f B = z
    by_cases h1 : z ≤ y <;> by_cases h2 : y ≤ x <;> by_cases h3 : z ≤ x <;> simp only [h1, h2, h3, if_true, if_false] <;> omega
theorem mn_le {f : Nat → Nat} (hf : ∀ x, f x ≤ 99) : ∀ L, mn f L ≤ 99
  | [] => Nat.le_refl _
  | e :: L => by
    show (if f e.1 ≤ mn f L then f e.1 else mn f L) ≤ 99
    have := hf e.1
    have := mn_le hf L
    by_cases h : f e.1 ≤ mn f L
    · rw [if_pos h]; omega
    · rw [if_neg h]; omega
theorem mx_le {f : Nat → Nat} (hf : ∀ x, f x ≤ 99) : ∀ L, mx f L ≤ 99
  | [] => Nat.zero_le _
  | e :: L => by
    show (if mx f L ≤ f e.1 then f e.1 else mx f L) ≤ 99
    have := hf e.1
    have := mx_le hf L
    by_cases h : mx f L ≤ f e.1
    · rw [if_pos h]; omega
    · rw [if_neg h]; omega
theorem mn_mx {f : Nat → Nat} : ∀ L, L ≠ [] → mn f L ≤ mx f L
  | [], h => absurd rfl h
  | e :: L, _ => by
    show (if f e.1 ≤ mn f L then f e.1 else mn f L) ≤ (if mx f L ≤ f e.1 then f e.1 else mx f L)
    by_cases h : f e.1 ≤ mn f L <;> by_cases h2 : mx f L ≤ f e.1 <;> simp only [h, h2, if_true, if_false] <;> omega
theorem mnx_one {f : Nat → Nat} (hf : ∀ x, f x ≤ 99) (x : Nat) : ∀ L : List (Nat × Nat), L ≠ [] → (∀ e, e ∈ L → e.1 = x) → mn f L = f x ∧ mx f L = f x
  | [], h, _ => absurd rfl h
  | e :: L, _, hm => by
    have he := hm e List.mem_cons_self
    show (if f e.1 ≤ mn f L then f e.1 else mn f L) = _ ∧ (if mx f L ≤ f e.1 then f e.1 else mx f L) = _
    rw [he]
    cases L with
    | nil =>
      have := hf x
      show (if f x ≤ 99 then f x else 99) = _ ∧ (if 0 ≤ f x then f x else 0) = _
      rw [if_pos this, if_pos (Nat.zero_le _)]
      exact ⟨rfl, rfl⟩
    | cons e2 L =>
      obtain ⟨h1, h2⟩ := mnx_one hf x (e2 :: L) (List.cons_ne_nil _ _) (fun e' h' => hm e' (List.mem_cons_of_mem _ h'))
      rw [h1, h2, if_pos (Nat.le_refl _)]
      exact ⟨rfl, rfl⟩
theorem ev_min {a b : Nat} (ha : a < 2147483648) (hb : b < 2147483648) : ea_min (nI a) (nI b) = nI (if a ≤ b then a else b) := by
  unfold ea_min
  by_cases h : a ≤ b
  · rw [if_pos h, if_neg (by rw [pn_ltI hb ha]; omega)]
  · rw [if_neg h, if_pos (by rw [pn_ltI hb ha]; omega)]
theorem ev_max {a b : Nat} (ha : a < 2147483648) (hb : b < 2147483648) : ea_max (nI a) (nI b) = nI (if b ≤ a then a else b) := by
  unfold ea_max
  by_cases h : b ≤ a
  · rw [if_pos h, if_neg (by rw [pn_ltI ha hb]; omega)]
  · rw [if_neg h, if_pos (by rw [pn_ltI ha hb]; omega)]
def SX (M : eM) (a : Nat) (f : Nat → Nat → Nat) (L : List (Nat × Nat)) : Prop := ∀ c, c < 3 → M.1 (a + 4) c = nI (mn (f c) L) ∧ M.1 (a + 5) c = nI (mx (f c) L)
section SP
variable {M : eM} {a cc th : Nat} {n : Nat → Nat} {v : Nat → Nat → Nat} {o w q : Nat → Nat} {l t r : Nat → Nat → Nat} {g : Nat → Nat → Bool}
theorem pn_lf2 {a : Nat} (h : pn_f a) : ea_len (a + 4) = 3 ∧ ea_len (a + 5) = 3 ∧ ea_len (a + 1 + 1) = 138 := by
  rcases h with rfl | rfl <;> exact ⟨rfl, rfl, rfl⟩
theorem px_fill3 {b : Nat} {y : Int32} (hl : ea_len b = 3) : fJ7_fill_53178 b y M = some (ea_pI (ea_pI (ea_pI M b 0 y) b 1 y) b 2 y) := by
  have run : ∀ k, 3 < k → fJ7_fill_53178_5 b k y (nI 0) (nI 3) M = some (ea_pI (ea_pI (ea_pI M b 0 y) b 1 y) b 2 y) := by
    intro k hk
    obtain ⟨k, rfl⟩ : ∃ f', k = f' + 1 + 1 + 1 + 1 := ⟨k - 4, by omega⟩
    simp (disch := omega) only [ev_ck, ev_ci, ev_cv, ev_lt_, ↓reduceIte, ev_lens, ev_ix, ev_nz, ev_cl, ev_cll, ev_add, ev_addl, ev_ladd, ev_mul, ev_mull, ev_lmul, ev_sub, ev_subl, ev_lsub, ev_lt, ev_ltl, ev_llt, ev_le, ev_lel, ev_lle, ev_eq, ev_eql, ev_leq, ev_nm1, ev_nm5, ev_m1n, ev_neg1, ev_ltT, ev_ltF, ev_leT, ev_leF, ev_eqT, ev_eqF, ev_one0, ev_zero1, Nat.reduceAdd, Nat.reduceMul, Nat.reduceSub, ea_pI_eq, ev_pIn, ev_pIe, ea_pI_r, eq_self, fJ7_fill_53178_5, hl]
  unfold fJ7_fill_53178 fJ7_fill_53178_0
  rw [hl]
  exact run ea_N (by unfold ea_N; omega)
theorem px_shadeP (ha : pn_f a) (hC : Ctx M cc n v th o w q l t r) {h : Nat} (hP : PH M a n v h) {x c : Nat} (hx : x < th) (hc : c < 3) : fX5_shadeOf (a + 1) (nI x) (nI c) M = some (nI (sp_col v o w x h c), M) := by
  obtain ⟨-, -, lp⟩ := pn_lf2 ha
  have ho := hC.1.2.2.2.1
  have h4 := ho.2.2.2.2.1
  have hTh := hC.1.2.2.2.2.2.2.1
  obtain ⟨ox, wx⟩ := hTh.1.2 x hx
  have hth := hTh.1.1
  obtain ⟨e5, e6⟩ := hC.1.2.2.2.2.2.2.2.1.2 x hx
  have t1 := hP (o x) c hc ox
  have t2 := ph_w ha hC hP wx hc
  unfold fX5_shadeOf fX5_shadeOf_0
  simp (disch := omega) only [ev_ck, ev_ci, ev_cv, ev_lt_, ↓reduceIte, ev_lens, ev_ix, ev_nz, ev_cl, ev_cll, ev_add, ev_addl, ev_ladd, ev_mul, ev_mull, ev_lmul, ev_subl, ev_lt, ev_ltl, ev_llt, ev_le, ev_lel, ev_lle, ev_eq, ev_eql, ev_leq, ev_nm1, ev_nm5, ev_m1n, ev_neg1, ev_ltT, ev_ltF, ev_leT, ev_leF, ev_eqT, ev_eqF, ev_one0, ev_zero1, Nat.reduceAdd, Nat.reduceMul, Nat.reduceSub, ea_pI_eq, ev_pIn, ev_pIe, ea_pI_r, eq_self, e5, e6, lp, t1, t2]
  rw [pz_max (sp_tk_le ho (Or.inr ox) hc) (sp_tk_le ho wx hc)]
  rfl
theorem px_span (ha : pn_f a) (hC : Ctx M cc n v th o w q l t r) {pc : Nat} (hp : pc ≤ 4) (hg : ∀ x p, pc ≤ p → g x p = false) (hF : FX M a th g pc) : ∃ M', fX3_measureSpan a M = some M' ∧ SX M' a (fun c x => sp_col v o w x 0 c) (pl g pc th) ∧ FX M' a th g pc ∧ FrF a M M' := by
  obtain ⟨l4, l5, lp⟩ := pn_lf2 ha
  obtain ⟨-, l3, -⟩ := pn_lf ha
  have ha' : a = 50 ∨ a = 60 := ha
  have hcc := hC.1.1
  have hX := hC.1.2.2.2.2.1
  have ho := hC.1.2.2.2.1
  have hth := hC.1.2.2.2.2.2.2.1.1.1
  obtain ⟨M1, m1, m2⟩ := px_mix (p := a + 1) (by omega) hC.1.2.1 hcc hX ho (h := 0) (by decide)
  have hb : ∀ c x, (fun c x => sp_col v o w x 0 c) c x ≤ 99 := fun c x => sp_col_le
  generalize hf : (fun c x => sp_col v o w x 0 c) = f at hb
  -- frame of the span alone
  have st : ∀ (k102 : Int32 → eM → Option eM) (j : Nat) (L R : List (Nat × Nat)), j < th → R ≠ [] → (∀ e, e ∈ R → e.1 = j) → ∀ M3, Ctx M3 cc n v th o w q l t r → PH M3 a n v 0 → SX M3 a f L → ∃ M4, fX3_measureSpan_49 k102 a ea_N (nI j) 0 M3 = k102 (nI j) M4 ∧ SX M4 a f (L ++ R) ∧ (∀ c k, c ≠ a + 4 → c ≠ a + 5 → M4.1 c k = M3.1 c k) ∧ M4.2.2 = M3.2.2 := by
    intro k102 j L R hj hR hm M3 hC3 hP3 hS3
    have lp3 : ∀ (d k c : Nat) (M4 : eM), 3 - c = d → c ≤ 3 → d < k → (∀ c', c' < 3 → c' < c → M4.1 (a + 4) c' = nI (mn (f c') (L ++ R)) ∧ M4.1 (a + 5) c' = nI (mx (f c') (L ++ R))) → (∀ c', c' < 3 → c ≤ c' → M4.1 (a + 4) c' = nI (mn (f c') L) ∧ M4.1 (a + 5) c' = nI (mx (f c') L)) → (∀ c k, c ≠ a + 4 → c ≠ a + 5 → M4.1 c k = M3.1 c k) → M4.2.2 = M3.2.2 → ∃ M5, fX3_measureSpan_49 k102 a k (nI j) (nI c) M4 = k102 (nI j) M5 ∧ SX M5 a f (L ++ R) ∧ (∀ c k, c ≠ a + 4 → c ≠ a + 5 → M5.1 c k = M3.1 c k) ∧ M5.2.2 = M3.2.2 := by
      intro d
      induction d with
      | zero =>
        intro k c M4 hd hc hk h1 h2 hF4 hR4
        obtain ⟨k, rfl⟩ : ∃ f', k = f' + 1 := ⟨k - 1, by omega⟩
        refine ⟨M4, ?_, fun c' h' => h1 c' h' (by omega), hF4, hR4⟩
        simp (disch := omega) only [ev_ck, ev_ci, ev_cv, ev_lt_, ↓reduceIte, ev_lens, ev_ix, ev_nz, ev_cl, ev_cll, ev_add, ev_addl, ev_ladd, ev_mul, ev_mull, ev_lmul, ev_sub, ev_subl, ev_lsub, ev_lt, ev_ltl, ev_llt, ev_le, ev_lel, ev_lle, ev_eq, ev_eql, ev_leq, ev_nm1, ev_nm5, ev_m1n, ev_neg1, ev_ltT, ev_ltF, ev_leT, ev_leF, ev_eqT, ev_eqF, ev_one0, ev_zero1, Nat.reduceAdd, Nat.reduceMul, Nat.reduceSub, ea_pI_eq, ev_pIn, ev_pIe, ea_pI_r, eq_self, fX3_measureSpan_49]
      | succ d ih =>
        intro k c M4 hd hc hk h1 h2 hF4 hR4
        obtain ⟨k, rfl⟩ : ∃ f', k = f' + 1 := ⟨k - 1, by omega⟩
        have fr : FrF a M3 M4 := ⟨fun c k hk => hF4 c k (by omega) (by omega), hR4⟩
        have sh := px_shadeP ha (hC3.kp (fr.kp ha)) (h := 0) (fun x c hc hx => by rw [hF4 _ _ (by omega) (by omega)]; exact hP3 x c hc hx) hj (c := c) (by omega)
        have ef : sp_col v o w j 0 c = f c j := by rw [← hf]
        rw [ef] at sh
        obtain ⟨q1, q2⟩ := h2 c (by omega) (Nat.le_refl _)
        have b1 := mn_le (hb c) L
        have b2 := mx_le (hb c) L
        have b3 := hb c j
        obtain ⟨o1, o2⟩ := mnx_one (hb c) j R hR hm
        obtain ⟨M5, r1, r2⟩ := ih k (c + 1) (ea_pI (ea_pI M4 (a + 4) c (nI (mn (f c) (L ++ R)))) (a + 5) c (nI (mx (f c) (L ++ R)))) (by omega) (by omega) (by omega) (fun c' h' h'' => by
          by_cases e : c' = c
          · rw [e]
            exact ⟨by simp (disch := omega) only [ev_ck, ev_ci, ev_cv, ev_lt_, ↓reduceIte, ev_lens, ev_ix, ev_nz, ev_cl, ev_cll, ev_add, ev_addl, ev_ladd, ev_mul, ev_mull, ev_lmul, ev_sub, ev_subl, ev_lsub, ev_lt, ev_ltl, ev_llt, ev_le, ev_lel, ev_lle, ev_eq, ev_eql, ev_leq, ev_nm1, ev_nm5, ev_m1n, ev_neg1, ev_ltT, ev_ltF, ev_leT, ev_leF, ev_eqT, ev_eqF, ev_one0, ev_zero1, Nat.reduceAdd, Nat.reduceMul, Nat.reduceSub, ea_pI_eq, ev_pIn, ev_pIe, ea_pI_r, eq_self], by simp (disch := omega) only [ev_ck, ev_ci, ev_cv, ev_lt_, ↓reduceIte, ev_lens, ev_ix, ev_nz, ev_cl, ev_cll, ev_add, ev_addl, ev_ladd, ev_mul, ev_mull, ev_lmul, ev_sub, ev_subl, ev_lsub, ev_lt, ev_ltl, ev_llt, ev_le, ev_lel, ev_lle, ev_eq, ev_eql, ev_leq, ev_nm1, ev_nm5, ev_m1n, ev_neg1, ev_ltT, ev_ltF, ev_leT, ev_leF, ev_eqT, ev_eqF, ev_one0, ev_zero1, Nat.reduceAdd, Nat.reduceMul, Nat.reduceSub, ea_pI_eq, ev_pIn, ev_pIe, ea_pI_r, eq_self]⟩
          · have := h1 c' h' (by omega)
            exact ⟨by simp (disch := omega) only [ev_ck, ev_ci, ev_cv, ev_lt_, ↓reduceIte, ev_lens, ev_ix, ev_nz, ev_cl, ev_cll, ev_add, ev_addl, ev_ladd, ev_mul, ev_mull, ev_lmul, ev_sub, ev_subl, ev_lsub, ev_lt, ev_ltl, ev_llt, ev_le, ev_lel, ev_lle, ev_eq, ev_eql, ev_leq, ev_nm1, ev_nm5, ev_m1n, ev_neg1, ev_ltT, ev_ltF, ev_leT, ev_leF, ev_eqT, ev_eqF, ev_one0, ev_zero1, Nat.reduceAdd, Nat.reduceMul, Nat.reduceSub, ea_pI_eq, ev_pIn, ev_pIe, ea_pI_r, eq_self]; exact this.1, by simp (disch := omega) only [ev_ck, ev_ci, ev_cv, ev_lt_, ↓reduceIte, ev_lens, ev_ix, ev_nz, ev_cl, ev_cll, ev_add, ev_addl, ev_ladd, ev_mul, ev_mull, ev_lmul, ev_sub, ev_subl, ev_lsub, ev_lt, ev_ltl, ev_llt, ev_le, ev_lel, ev_lle, ev_eq, ev_eql, ev_leq, ev_nm1, ev_nm5, ev_m1n, ev_neg1, ev_ltT, ev_ltF, ev_leT, ev_leF, ev_eqT, ev_eqF, ev_one0, ev_zero1, Nat.reduceAdd, Nat.reduceMul, Nat.reduceSub, ea_pI_eq, ev_pIn, ev_pIe, ea_pI_r, eq_self]; exact this.2⟩) (fun c' h' h'' => by
          have := h2 c' h' (by omega)
          exact ⟨by simp (disch := omega) only [ev_ck, ev_ci, ev_cv, ev_lt_, ↓reduceIte, ev_lens, ev_ix, ev_nz, ev_cl, ev_cll, ev_add, ev_addl, ev_ladd, ev_mul, ev_mull, ev_lmul, ev_sub, ev_subl, ev_lsub, ev_lt, ev_ltl, ev_llt, ev_le, ev_lel, ev_lle, ev_eq, ev_eql, ev_leq, ev_nm1, ev_nm5, ev_m1n, ev_neg1, ev_ltT, ev_ltF, ev_leT, ev_leF, ev_eqT, ev_eqF, ev_one0, ev_zero1, Nat.reduceAdd, Nat.reduceMul, Nat.reduceSub, ea_pI_eq, ev_pIn, ev_pIe, ea_pI_r, eq_self]; exact this.1, by simp (disch := omega) only [ev_ck, ev_ci, ev_cv, ev_lt_, ↓reduceIte, ev_lens, ev_ix, ev_nz, ev_cl, ev_cll, ev_add, ev_addl, ev_ladd, ev_mul, ev_mull, ev_lmul, ev_sub, ev_subl, ev_lsub, ev_lt, ev_ltl, ev_llt, ev_le, ev_lel, ev_lle, ev_eq, ev_eql, ev_leq, ev_nm1, ev_nm5, ev_m1n, ev_neg1, ev_ltT, ev_ltF, ev_leT, ev_leF, ev_eqT, ev_eqF, ev_one0, ev_zero1, Nat.reduceAdd, Nat.reduceMul, Nat.reduceSub, ea_pI_eq, ev_pIn, ev_pIe, ea_pI_r, eq_self]; exact this.2⟩) (fun c' k' h' h'' => by simp (disch := omega) only [ev_ck, ev_ci, ev_cv, ev_lt_, ↓reduceIte, ev_lens, ev_ix, ev_nz, ev_cl, ev_cll, ev_add, ev_addl, ev_ladd, ev_mul, ev_mull, ev_lmul, ev_sub, ev_subl, ev_lsub, ev_lt, ev_ltl, ev_llt, ev_le, ev_lel, ev_lle, ev_eq, ev_eql, ev_leq, ev_nm1, ev_nm5, ev_m1n, ev_neg1, ev_ltT, ev_ltF, ev_leT, ev_leF, ev_eqT, ev_eqF, ev_one0, ev_zero1, Nat.reduceAdd, Nat.reduceMul, Nat.reduceSub, ea_pI_eq, ev_pIn, ev_pIe, ea_pI_r, eq_self]; exact hF4 c' k' h' h'') hR4
        refine ⟨M5, ?_, r2⟩
        have w1 : (if mn (f c) L ≤ f c j then mn (f c) L else f c j) = mn (f c) (L ++ R) := by rw [mn_app (hb c), o1]
        have w2 : (if f c j ≤ mx (f c) L then mx (f c) L else f c j) = mx (f c) (L ++ R) := by rw [mx_app, o2]
        rw [fX3_measureSpan_49]
        simp (disch := omega) only [ev_ck, ev_ci, ev_cv, ev_lt_, ↓reduceIte, ev_lens, ev_ix, ev_nz, ev_cl, ev_cll, ev_add, ev_addl, ev_ladd, ev_mul, ev_mull, ev_lmul, ev_sub, ev_subl, ev_lsub, ev_lt, ev_ltl, ev_llt, ev_le, ev_lel, ev_lle, ev_eq, ev_eql, ev_leq, ev_nm1, ev_nm5, ev_m1n, ev_neg1, ev_ltT, ev_ltF, ev_leT, ev_leF, ev_eqT, ev_eqF, ev_one0, ev_zero1, Nat.reduceAdd, Nat.reduceMul, Nat.reduceSub, ea_pI_eq, ev_pIn, ev_pIe, ea_pI_r, eq_self, sh, l4, l5, q1, q2, ev_min, ev_max, w1, w2]
        exact r1
    exact lp3 3 ea_N 0 M3 (by omega) (by omega) (by unfold ea_N; omega) (fun c' h' h'' => by omega) (fun c' h' h'' => hS3 c' h') (fun _ _ _ _ => rfl) rfl
  have fr1 : FrF a M M1 := ⟨fun c k hk => m2.2.1 c k (by omega), m2.2.2⟩
  have out : ∀ (d k j : Nat) (M3 : eM), th - j = d → j ≤ th → d < k → SX M3 a f (pl g pc j) → (∀ c k, c ≠ a + 4 → c ≠ a + 5 → M3.1 c k = M1.1 c k) → M3.2.2 = M1.2.2 → ∃ M4, fX3_measureSpan_27 a k (nI j) M3 = some M4 ∧ SX M4 a f (pl g pc th) ∧ (∀ c k, c ≠ a + 4 → c ≠ a + 5 → M4.1 c k = M1.1 c k) ∧ M4.2.2 = M1.2.2 := by
    intro d
    induction d with
    | zero =>
      intro k j M3 hd hj hk hS hF3 hR3
      obtain ⟨k, rfl⟩ : ∃ f', k = f' + 1 := ⟨k - 1, by omega⟩
      obtain rfl : j = th := by omega
      have fr3 : FrF a M1 M3 := ⟨fun c k hk => hF3 c k (by omega) (by omega), hR3⟩
      have e41 := (hC.kp ((fr1.trans fr3).kp ha)).1.2.2.2.2.2.2.2.1.1
      refine ⟨M3, ?_, hS, hF3, hR3⟩
      simp (disch := omega) only [ev_ck, ev_ci, ev_cv, ev_lt_, ↓reduceIte, ev_lens, ev_ix, ev_nz, ev_cl, ev_cll, ev_add, ev_addl, ev_ladd, ev_mul, ev_mull, ev_lmul, ev_sub, ev_subl, ev_lsub, ev_lt, ev_ltl, ev_llt, ev_le, ev_lel, ev_lle, ev_eq, ev_eql, ev_leq, ev_nm1, ev_nm5, ev_m1n, ev_neg1, ev_ltT, ev_ltF, ev_leT, ev_leF, ev_eqT, ev_eqF, ev_one0, ev_zero1, Nat.reduceAdd, Nat.reduceMul, Nat.reduceSub, ea_pI_eq, ev_pIn, ev_pIe, ea_pI_r, eq_self, fX3_measureSpan_27, e41]
    | succ d ih =>
      intro k j M3 hd hj hk hS hF3 hR3
      obtain ⟨k, rfl⟩ : ∃ f', k = f' + 1 := ⟨k - 1, by omega⟩
      have fr3 : FrF a M1 M3 := ⟨fun c k hk => hF3 c k (by omega) (by omega), hR3⟩
      have hC3 := hC.kp ((fr1.trans fr3).kp ha)
      have e41 := hC3.1.2.2.2.2.2.2.2.1.1
      have ej : M3.1 (a + 3) j = nI (mk (g j)) := by rw [hF3 _ _ (by omega) (by omega), m2.2.1 _ _ (by omega)]; exact hF.1 j (by omega)
      have hlt := mk_lt (g j)
      obtain ⟨-, -, p3, -⟩ := plk_pop (x := j) hp (hg j)
      by_cases hz : mk (g j) = 0
      · obtain ⟨M4, r1, r2⟩ := ih k (j + 1) M3 (by omega) (by omega) (by omega) (by rw [pl_s, p3.mpr hz, List.append_nil]; exact hS) hF3 hR3
        refine ⟨M4, ?_, r2⟩
        rw [fX3_measureSpan_27]
        simp (disch := omega) only [ev_ck, ev_ci, ev_cv, ev_lt_, ↓reduceIte, ev_lens, ev_ix, ev_nz, ev_cl, ev_cll, ev_add, ev_addl, ev_ladd, ev_mul, ev_mull, ev_lmul, ev_sub, ev_subl, ev_lsub, ev_lt, ev_ltl, ev_llt, ev_le, ev_lel, ev_lle, ev_eq, ev_eql, ev_leq, ev_nm1, ev_nm5, ev_m1n, ev_neg1, ev_ltT, ev_ltF, ev_leT, ev_leF, ev_eqT, ev_eqF, ev_one0, ev_zero1, Nat.reduceAdd, Nat.reduceMul, Nat.reduceSub, ea_pI_eq, ev_pIn, ev_pIe, ea_pI_r, eq_self, e41, l3, ej, fX3_measureSpan_102]
        exact r1
      · obtain ⟨M4, s1, s2, s3, s4⟩ := st (fX3_measureSpan_102 (fX3_measureSpan_27 a k) a) j (pl g pc j) (plk (g j) j pc) (by omega) (fun q => hz (p3.mp q)) (fun e he => (plk_mem he).1) M3 hC3 (fun x c hc hx => by rw [hF3 _ _ (by omega) (by omega)]; exact m2.1 x c hc hx) hS
        obtain ⟨M5, r1, r2⟩ := ih k (j + 1) M4 (by omega) (by omega) (by omega) s2 (fun c k h1 h2 => by rw [s3 c k h1 h2]; exact hF3 c k h1 h2) (s4.trans hR3)
        refine ⟨M5, ?_, r2⟩
        rw [fX3_measureSpan_27]
        simp (disch := omega) only [ev_ck, ev_ci, ev_cv, ev_lt_, ↓reduceIte, ev_lens, ev_ix, ev_nz, ev_cl, ev_cll, ev_add, ev_addl, ev_ladd, ev_mul, ev_mull, ev_lmul, ev_sub, ev_subl, ev_lsub, ev_lt, ev_ltl, ev_llt, ev_le, ev_lel, ev_lle, ev_eq, ev_eql, ev_leq, ev_nm1, ev_nm5, ev_m1n, ev_neg1, ev_ltT, ev_ltF, ev_leT, ev_leF, ev_eqT, ev_eqF, ev_one0, ev_zero1, Nat.reduceAdd, Nat.reduceMul, Nat.reduceSub, ea_pI_eq, ev_pIn, ev_pIe, ea_pI_r, eq_self, e41, l3, ej]
        rw [s1]
        simp (disch := omega) only [ev_ck, ev_ci, ev_cv, ev_lt_, ↓reduceIte, ev_lens, ev_ix, ev_nz, ev_cl, ev_cll, ev_add, ev_addl, ev_ladd, ev_mul, ev_mull, ev_lmul, ev_sub, ev_subl, ev_lsub, ev_lt, ev_ltl, ev_llt, ev_le, ev_lel, ev_lle, ev_eq, ev_eql, ev_leq, ev_nm1, ev_nm5, ev_m1n, ev_neg1, ev_ltT, ev_ltF, ev_leT, ev_leF, ev_eqT, ev_eqF, ev_one0, ev_zero1, Nat.reduceAdd, Nat.reduceMul, Nat.reduceSub, ea_pI_eq, ev_pIn, ev_pIe, ea_pI_r, eq_self, fX3_measureSpan_102]
        exact r1
  obtain ⟨M4, r1, r2, r3, r4⟩ := out th ea_N 0 (ea_pI (ea_pI (ea_pI (ea_pI (ea_pI (ea_pI M1 (a + 4) 0 99) (a + 4) 1 99) (a + 4) 2 99) (a + 5) 0 0) (a + 5) 1 0) (a + 5) 2 0) (by omega) (by omega) (by unfold ea_N; omega) (fun c hc => by
    rcases (show c = 0 ∨ c = 1 ∨ c = 2 by omega) with rfl | rfl | rfl
    · exact ⟨by simp (disch := omega) only [ev_ck, ev_ci, ev_cv, ev_lt_, ↓reduceIte, ev_lens, ev_ix, ev_nz, ev_cl, ev_cll, ev_add, ev_addl, ev_ladd, ev_mul, ev_mull, ev_lmul, ev_sub, ev_subl, ev_lsub, ev_lt, ev_ltl, ev_llt, ev_le, ev_lel, ev_lle, ev_eq, ev_eql, ev_leq, ev_nm1, ev_nm5, ev_m1n, ev_neg1, ev_ltT, ev_ltF, ev_leT, ev_leF, ev_eqT, ev_eqF, ev_one0, ev_zero1, Nat.reduceAdd, Nat.reduceMul, Nat.reduceSub, ea_pI_eq, ev_pIn, ev_pIe, ea_pI_r, eq_self]; rfl, by simp (disch := omega) only [ev_ck, ev_ci, ev_cv, ev_lt_, ↓reduceIte, ev_lens, ev_ix, ev_nz, ev_cl, ev_cll, ev_add, ev_addl, ev_ladd, ev_mul, ev_mull, ev_lmul, ev_sub, ev_subl, ev_lsub, ev_lt, ev_ltl, ev_llt, ev_le, ev_lel, ev_lle, ev_eq, ev_eql, ev_leq, ev_nm1, ev_nm5, ev_m1n, ev_neg1, ev_ltT, ev_ltF, ev_leT, ev_leF, ev_eqT, ev_eqF, ev_one0, ev_zero1, Nat.reduceAdd, Nat.reduceMul, Nat.reduceSub, ea_pI_eq, ev_pIn, ev_pIe, ea_pI_r, eq_self]; rfl⟩
    · exact ⟨by simp (disch := omega) only [ev_ck, ev_ci, ev_cv, ev_lt_, ↓reduceIte, ev_lens, ev_ix, ev_nz, ev_cl, ev_cll, ev_add, ev_addl, ev_ladd, ev_mul, ev_mull, ev_lmul, ev_sub, ev_subl, ev_lsub, ev_lt, ev_ltl, ev_llt, ev_le, ev_lel, ev_lle, ev_eq, ev_eql, ev_leq, ev_nm1, ev_nm5, ev_m1n, ev_neg1, ev_ltT, ev_ltF, ev_leT, ev_leF, ev_eqT, ev_eqF, ev_one0, ev_zero1, Nat.reduceAdd, Nat.reduceMul, Nat.reduceSub, ea_pI_eq, ev_pIn, ev_pIe, ea_pI_r, eq_self]; rfl, by simp (disch := omega) only [ev_ck, ev_ci, ev_cv, ev_lt_, ↓reduceIte, ev_lens, ev_ix, ev_nz, ev_cl, ev_cll, ev_add, ev_addl, ev_ladd, ev_mul, ev_mull, ev_lmul, ev_sub, ev_subl, ev_lsub, ev_lt, ev_ltl, ev_llt, ev_le, ev_lel, ev_lle, ev_eq, ev_eql, ev_leq, ev_nm1, ev_nm5, ev_m1n, ev_neg1, ev_ltT, ev_ltF, ev_leT, ev_leF, ev_eqT, ev_eqF, ev_one0, ev_zero1, Nat.reduceAdd, Nat.reduceMul, Nat.reduceSub, ea_pI_eq, ev_pIn, ev_pIe, ea_pI_r, eq_self]; rfl⟩
    · exact ⟨by simp (disch := omega) only [ev_ck, ev_ci, ev_cv, ev_lt_, ↓reduceIte, ev_lens, ev_ix, ev_nz, ev_cl, ev_cll, ev_add, ev_addl, ev_ladd, ev_mul, ev_mull, ev_lmul, ev_sub, ev_subl, ev_lsub, ev_lt, ev_ltl, ev_llt, ev_le, ev_lel, ev_lle, ev_eq, ev_eql, ev_leq, ev_nm1, ev_nm5, ev_m1n, ev_neg1, ev_ltT, ev_ltF, ev_leT, ev_leF, ev_eqT, ev_eqF, ev_one0, ev_zero1, Nat.reduceAdd, Nat.reduceMul, Nat.reduceSub, ea_pI_eq, ev_pIn, ev_pIe, ea_pI_r, eq_self]; rfl, by simp (disch := omega) only [ev_ck, ev_ci, ev_cv, ev_lt_, ↓reduceIte, ev_lens, ev_ix, ev_nz, ev_cl, ev_cll, ev_add, ev_addl, ev_ladd, ev_mul, ev_mull, ev_lmul, ev_sub, ev_subl, ev_lsub, ev_lt, ev_ltl, ev_llt, ev_le, ev_lel, ev_lle, ev_eq, ev_eql, ev_leq, ev_nm1, ev_nm5, ev_m1n, ev_neg1, ev_ltT, ev_ltF, ev_leT, ev_leF, ev_eqT, ev_eqF, ev_one0, ev_zero1, Nat.reduceAdd, Nat.reduceMul, Nat.reduceSub, ea_pI_eq, ev_pIn, ev_pIe, ea_pI_r, eq_self]; rfl⟩) (fun c k h1 h2 => by simp (disch := omega) only [ev_ck, ev_ci, ev_cv, ev_lt_, ↓reduceIte, ev_lens, ev_ix, ev_nz, ev_cl, ev_cll, ev_add, ev_addl, ev_ladd, ev_mul, ev_mull, ev_lmul, ev_sub, ev_subl, ev_lsub, ev_lt, ev_ltl, ev_llt, ev_le, ev_lel, ev_lle, ev_eq, ev_eql, ev_leq, ev_nm1, ev_nm5, ev_m1n, ev_neg1, ev_ltT, ev_ltF, ev_leT, ev_leF, ev_eqT, ev_eqF, ev_one0, ev_zero1, Nat.reduceAdd, Nat.reduceMul, Nat.reduceSub, ea_pI_eq, ev_pIn, ev_pIe, ea_pI_r, eq_self]) rfl
  refine ⟨M4, ?_, r2, ⟨fun x hx => ?_, ?_, ?_, ?_, ?_⟩, fr1.trans ⟨fun c k hk => r3 c k (by omega) (by omega), r4⟩⟩
  · have m1 : fX5_mix (a + 1) 0 M = some M1 := m1
    unfold fX3_measureSpan fX3_measureSpan_0
    rw [m1, ev_cv, px_fill3 l4, ev_cv, px_fill3 l5, ev_cv]
    exact r1
  · rw [r3 _ _ (by omega) (by omega), m2.2.1 _ _ (by omega)]; exact hF.1 x hx
  · rw [r3 _ _ (by omega) (by omega), m2.2.1 _ _ (by omega)]; exact hF.2.1
  · rw [r3 _ _ (by omega) (by omega), m2.2.1 _ _ (by omega)]; exact hF.2.2.1
  · rw [r3 _ _ (by omega) (by omega), m2.2.1 _ _ (by omega)]; exact hF.2.2.2.1
  · rw [r3 _ _ (by omega) (by omega), m2.2.1 _ _ (by omega)]; exact hF.2.2.2.2
/-- an end of a span, as the model tells it -/
def sEnd (f : Nat → Nat) (b : Int32) (L : List (Nat × Nat)) : Int32 := match L with
  | [] => -1
  | e :: L => nI (if b = 0 then mn f (e :: L) else mx f (e :: L))
theorem take_s {L : List (Nat × Nat)} {i : Nat} (h : i < L.length) : L.take (i + 1) = L.take i ++ [L.getD i (0, 0)] := by
  rw [List.take_succ, List.getElem?_eq_getElem h, List.getD_eq_getElem?_getD, List.getElem?_eq_getElem h]
  rfl
theorem py_span (hC : Ctx M cc n v th o w q l t r) {L : List (Nat × Nat)} (hL : FL M v L) (hLm : ∀ e, e ∈ L → e.1 < th) (hLl : L.length ≤ 3420) {c : Nat} (hc : c < 3) (b : Int32) : fX11_spanEnd (nI c) b M = some (sEnd (fun x => sp_col v o w x 0 c) b L, M) := by
  have ho := hC.1.2.2.2.1
  have hY := hC.1.2.2.2.2.2.1
  have hTh := hC.1.2.2.2.2.2.2.1
  have hTY := hC.1.2.2.2.2.2.2.2.2
  have hb : ∀ x, (fun x => sp_col v o w x 0 c) x ≤ 99 := fun x => sp_col_le
  have cl : ∀ x, x < th → fX11_colourOf (nI x) 0 (nI c) M = some (nI ((fun x => sp_col v o w x 0 c) x), M) := fun x hx => py_colour hY ho hTY hTh.1 hx (h := 0) (by decide) hc
  generalize (fun x => sp_col v o w x 0 c) = f at hb cl
  have hth := hTh.1.1
  have one : ∀ e : Nat × Nat, mn f [e] = f e.1 ∧ mx f [e] = f e.1 := fun e => mnx_one hb e.1 [e] (List.cons_ne_nil _ _) (fun e' h => by rw [List.mem_singleton.mp h])
  have lp : ∀ (d k i : Nat), L.length - i = d → i ≤ L.length → d < k → fX11_spanEnd_5 k (nI c) b (sEnd f b (L.take i)) (nI i) M = some (sEnd f b L, M) := by
    intro d
    induction d with
    | zero =>
      intro k i hd hi hk
      obtain ⟨k, rfl⟩ : ∃ f', k = f' + 1 := ⟨k - 1, by omega⟩
      obtain rfl : i = L.length := by omega
      rw [List.take_length]
      simp (disch := omega) only [ev_ck, ev_ci, ev_cv, ev_lt_, ↓reduceIte, ev_lens, ev_ix, ev_nz, ev_cl, ev_cll, ev_add, ev_addl, ev_ladd, ev_mul, ev_mull, ev_lmul, ev_sub, ev_subl, ev_lsub, ev_lt, ev_ltl, ev_llt, ev_le, ev_lel, ev_lle, ev_eq, ev_eql, ev_leq, ev_nm1, ev_nm5, ev_m1n, ev_neg1, ev_ltT, ev_ltF, ev_leT, ev_leF, ev_eqT, ev_eqF, ev_one0, ev_zero1, Nat.reduceAdd, Nat.reduceMul, Nat.reduceSub, ea_pI_eq, ev_pIn, ev_pIe, ea_pI_r, eq_self, fX11_spanEnd_5, hL.1]
    | succ d ih =>
      intro k i hd hi hk
      obtain ⟨k, rfl⟩ : ∃ f', k = f' + 1 := ⟨k - 1, by omega⟩
      have nx := ih k (i + 1) (by omega) (by omega) (by omega)
      rw [take_s (by omega)] at nx
      have he := hLm _ (getD_mem (z := (0, 0)) (show i < L.length by omega))
      have g1 := (hL.2 i (by omega)).1
      generalize L.getD i (0, 0) = e at nx he g1
      have cle := cl e.1 he
      have fe := hb e.1
      rw [fX11_spanEnd_5]
      cases hT : L.take i with
      | nil =>
        rw [hT] at nx
        have nx : fX11_spanEnd_5 k (nI c) b (nI (if b = 0 then mn f [e] else mx f [e])) (nI (i + 1)) M = _ := nx
        rw [(one e).1, (one e).2, show (if b = 0 then f e.1 else f e.1) = f e.1 by by_cases h : b = 0 <;> simp [h]] at nx
        show (if M.1 100 33 ≤ nI i then some (-1, M) else _) = _
        simp (disch := omega) only [ev_ck, ev_ci, ev_cv, ev_lt_, ↓reduceIte, ev_lens, ev_ix, ev_nz, ev_cl, ev_cll, ev_add, ev_addl, ev_ladd, ev_mul, ev_mull, ev_lmul, ev_sub, ev_subl, ev_lsub, ev_lt, ev_ltl, ev_llt, ev_le, ev_lel, ev_lle, ev_eq, ev_eql, ev_leq, ev_nm1, ev_nm5, ev_m1n, ev_neg1, ev_ltT, ev_ltF, ev_leT, ev_leF, ev_eqT, ev_eqF, ev_one0, ev_zero1, Nat.reduceAdd, Nat.reduceMul, Nat.reduceSub, ea_pI_eq, ev_pIn, ev_pIe, ea_pI_r, eq_self, hL.1, g1, cle, fX11_spanEnd_53, fX11_spanEnd_56, sEnd]
        exact nx
      | cons e2 T =>
        rw [hT] at nx
        have nx : fX11_spanEnd_5 k (nI c) b (nI (if b = 0 then mn f ((e2 :: T) ++ [e]) else mx f ((e2 :: T) ++ [e]))) (nI (i + 1)) M = _ := nx
        rw [mn_app hb, mx_app, (one e).1, (one e).2] at nx
        have b1 := mn_le hb (e2 :: T)
        have b2 := mx_le hb (e2 :: T)
        show (if M.1 100 33 ≤ nI i then some (nI (if b = 0 then mn f (e2 :: T) else mx f (e2 :: T)), M) else _) = _
        by_cases hz : b = 0
        · rw [if_pos hz] at nx ⊢
          have es : sEnd f b (e2 :: T) = nI (mn f (e2 :: T)) := by show nI (if b = 0 then _ else _) = _; rw [if_pos hz]
          rw [es]
          by_cases hle : mn f (e2 :: T) ≤ f e.1
          · rw [if_pos hle] at nx
            simp (disch := omega) only [ev_ck, ev_ci, ev_cv, ev_lt_, ↓reduceIte, ev_lens, ev_ix, ev_nz, ev_cl, ev_cll, ev_add, ev_addl, ev_ladd, ev_mul, ev_mull, ev_lmul, ev_sub, ev_subl, ev_lsub, ev_lt, ev_ltl, ev_llt, ev_le, ev_lel, ev_lle, ev_eq, ev_eql, ev_leq, ev_nm1, ev_nm5, ev_m1n, ev_neg1, ev_ltT, ev_ltF, ev_leT, ev_leF, ev_eqT, ev_eqF, ev_one0, ev_zero1, Nat.reduceAdd, Nat.reduceMul, Nat.reduceSub, ea_pI_eq, ev_pIn, ev_pIe, ea_pI_r, eq_self, hL.1, g1, cle, fX11_spanEnd_53, fX11_spanEnd_56, hz]
            rw [hz] at nx
            exact nx
          · rw [if_neg hle] at nx
            simp (disch := omega) only [ev_ck, ev_ci, ev_cv, ev_lt_, ↓reduceIte, ev_lens, ev_ix, ev_nz, ev_cl, ev_cll, ev_add, ev_addl, ev_ladd, ev_mul, ev_mull, ev_lmul, ev_sub, ev_subl, ev_lsub, ev_lt, ev_ltl, ev_llt, ev_le, ev_lel, ev_lle, ev_eq, ev_eql, ev_leq, ev_nm1, ev_nm5, ev_m1n, ev_neg1, ev_ltT, ev_ltF, ev_leT, ev_leF, ev_eqT, ev_eqF, ev_one0, ev_zero1, Nat.reduceAdd, Nat.reduceMul, Nat.reduceSub, ea_pI_eq, ev_pIn, ev_pIe, ea_pI_r, eq_self, hL.1, g1, cle, fX11_spanEnd_53, fX11_spanEnd_56, hz]
            rw [hz] at nx
            exact nx
        · rw [if_neg hz] at nx ⊢
          have es : sEnd f b (e2 :: T) = nI (mx f (e2 :: T)) := by show nI (if b = 0 then _ else _) = _; rw [if_neg hz]
          rw [es]
          by_cases hle : f e.1 ≤ mx f (e2 :: T)
          · rw [if_pos hle] at nx
            simp (disch := omega) only [ev_ck, ev_ci, ev_cv, ev_lt_, ↓reduceIte, ev_lens, ev_ix, ev_nz, ev_cl, ev_cll, ev_add, ev_addl, ev_ladd, ev_mul, ev_mull, ev_lmul, ev_sub, ev_subl, ev_lsub, ev_lt, ev_ltl, ev_llt, ev_le, ev_lel, ev_lle, ev_eq, ev_eql, ev_leq, ev_nm1, ev_nm5, ev_m1n, ev_neg1, ev_ltT, ev_ltF, ev_leT, ev_leF, ev_eqT, ev_eqF, ev_one0, ev_zero1, Nat.reduceAdd, Nat.reduceMul, Nat.reduceSub, ea_pI_eq, ev_pIn, ev_pIe, ea_pI_r, eq_self, hL.1, g1, cle, fX11_spanEnd_53, fX11_spanEnd_56, eq_false hz]
            exact nx
          · rw [if_neg hle] at nx
            simp (disch := omega) only [ev_ck, ev_ci, ev_cv, ev_lt_, ↓reduceIte, ev_lens, ev_ix, ev_nz, ev_cl, ev_cll, ev_add, ev_addl, ev_ladd, ev_mul, ev_mull, ev_lmul, ev_sub, ev_subl, ev_lsub, ev_lt, ev_ltl, ev_llt, ev_le, ev_lel, ev_lle, ev_eq, ev_eql, ev_leq, ev_nm1, ev_nm5, ev_m1n, ev_neg1, ev_ltT, ev_ltF, ev_leT, ev_leF, ev_eqT, ev_eqF, ev_one0, ev_zero1, Nat.reduceAdd, Nat.reduceMul, Nat.reduceSub, ea_pI_eq, ev_pIn, ev_pIe, ea_pI_r, eq_self, hL.1, g1, cle, fX11_spanEnd_53, fX11_spanEnd_56, eq_false hz]
            exact nx
  exact lp L.length ea_N 0 (by omega) (by omega) (by unfold ea_N; omega)
end SP
