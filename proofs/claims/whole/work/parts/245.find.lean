def fkN (ok : Nat → Bool) : Nat → Bool
  | 0 => true
  | i + 1 => fkN ok i && ok i
theorem fkN_s (ok : Nat → Bool) (i : Nat) : fkN ok (i + 1) = (fkN ok i && ok i) := rfl
def hrs (n : Nat → Nat) (v : Nat → Nat → Nat) (s col : Nat) (S : List (Nat → Nat)) (p i : Nat) : Nat := sp_hours n v s col (yrP v p) (nth S i 0) + nth S i 1
/-- whether a THREAD with a YEAR's place shows sight i -/
def okS (n : Nat → Nat) (v : Nat → Nat → Nat) (o w : Nat → Nat) (s col : Nat) (S : List (Nat → Nat)) (x p i : Nat) : Bool := ok1 v o w (n 2) x (hrs n v s col S p i) (nth S i)
/-- whether a THREAD fits with a YEAR's place -/
def fk (n : Nat → Nat) (v : Nat → Nat → Nat) (o w : Nat → Nat) (s col : Nat) (S : List (Nat → Nat)) (x p : Nat) : Bool := decide (p < n 7 + 1) && fkN (okS n v o w s col S x p) S.length
def gst (n : Nat → Nat) (v : Nat → Nat → Nat) (o w : Nat → Nat) (s col : Nat) (S : List (Nat → Nat)) (P i x p : Nat) : Bool := decide (p < n 7 + 1) && (if p < P then fkN (okS n v o w s col S x p) S.length else if p = P then fkN (okS n v o w s col S x p) i else true)
theorem yrP_le {n : Nat → Nat} {v : Nat → Nat → Nat} (ho : pn_ok n v) {p : Nat} (hp : p < n 7 + 1) : yrP v p ≤ 999 := by
  unfold yrP
  by_cases h : p = 0
  · rw [if_pos h]; omega
  · rw [if_neg h]
    exact (ho.2.2.2.2.2.2.2.2.2.2.1 (p - 1) (by omega)).2
theorem yrP_0 {n : Nat → Nat} {v : Nat → Nat → Nat} (ho : pn_ok n v) {p : Nat} (hp : p < n 7 + 1) : yrP v p = 0 ↔ p = 0 := by
  unfold yrP
  by_cases h : p = 0
  · rw [if_pos h]; simp [h]
  · rw [if_neg h]
    have := (ho.2.2.2.2.2.2.2.2.2.2.1 (p - 1) (by omega)).1
    omega
theorem pb_1 {x a b : Nat} (hx : x < 2 ^ 31) (hb : b < 2 ^ 31) (h1 : a ≤ x) (h2 : x ≤ b) : pb (nI x) (nI a) (nI b) = 1 := by
  unfold pb
  rw [if_neg (by rw [pn_ltI (by omega) (by omega)]; omega), if_neg (by rw [pn_ltI (by omega) (by omega)]; omega)]
theorem pb_0l {x a b : Nat} (hx : x < 2 ^ 31) (ha : a < 2 ^ 31) (h1 : x < a) : pb (nI x) (nI a) (nI b) = 0 := by
  unfold pb
  rw [if_pos (by rw [pn_ltI (by omega) (by omega)]; omega)]
section FD
variable {M : eM} {a cc th : Nat} {n : Nat → Nat} {v : Nat → Nat → Nat} {o w q : Nat → Nat} {l t r : Nat → Nat → Nat} {s col : Nat} {S : List (Nat → Nat)}
theorem px_year (hc : pn_c cc) (hX : pn_X M cc n v) (ho : pn_ok n v) {p : Nat} (hp : p < n 7 + 1) : fX1_yearFrom cc (nI p) M = some (nI (yrP v p), M) := by
  have h7 := ho.2.2.2.2.2.2.2.1
  unfold fX1_yearFrom fX1_yearFrom_0 yrP
  rw [px_in, hX.1.2.2.2.2.2.2.2.1]
  by_cases h : p = 0
  · subst h
    rw [show pb (nI 0) 1 (nI (n 7)) = 0 from pb_0l (a := 1) (by omega) (by omega) (by omega)]
    simp (disch := omega) only [ev_ck, ev_ci, ev_cv, ev_lt_, ↓reduceIte, ev_lens, ev_ix, ev_nz, ev_cl, ev_cll, ev_add, ev_addl, ev_ladd, ev_mul, ev_mull, ev_lmul, ev_sub, ev_subl, ev_lsub, ev_lt, ev_ltl, ev_llt, ev_le, ev_lel, ev_lle, ev_eq, ev_eql, ev_leq, ev_nm1, ev_nm5, ev_m1n, ev_neg1, ev_ltT, ev_ltF, ev_leT, ev_leF, ev_eqT, ev_eqF, ev_one0, ev_zero1, Nat.reduceAdd, Nat.reduceMul, Nat.reduceSub, ea_pI_eq, ev_pIn, ev_pIe, ea_pI_r, eq_self]
    rfl
  · rw [show pb (nI p) 1 (nI (n 7)) = 1 from pb_1 (a := 1) (by omega) (by omega) (by omega) (by omega), if_neg h]
    simp (disch := omega) only [ev_ck, ev_ci, ev_cv, ev_lt_, ↓reduceIte, ev_lens, ev_ix, ev_nz, ev_cl, ev_cll, ev_add, ev_addl, ev_ladd, ev_mul, ev_mull, ev_lmul, ev_sub, ev_subl, ev_lsub, ev_lt, ev_ltl, ev_llt, ev_le, ev_lel, ev_lle, ev_eq, ev_eql, ev_leq, ev_nm1, ev_nm5, ev_m1n, ev_neg1, ev_ltT, ev_ltF, ev_leT, ev_leF, ev_eqT, ev_eqF, ev_one0, ev_zero1, Nat.reduceAdd, Nat.reduceMul, Nat.reduceSub, ea_pI_eq, ev_pIn, ev_pIe, ea_pI_r, eq_self, pn_l2 hc, hX.2.2.1 (p - 1) (by omega)]
theorem px_col (hX : pn_X M cc n v) (ho : pn_ok n v) {cell : Nat} (hcell : cell < 48) : fX1_columnOf cc (nI cell) M = some (nI (cell % n 0), M) := by
  have h0 := ho.1
  unfold fX1_columnOf fX1_columnOf_0
  simp (disch := omega) only [ev_ck, ev_ci, ev_cv, ev_lt_, ↓reduceIte, ev_lens, ev_ix, ev_nz, ev_cl, ev_cll, ev_add, ev_addl, ev_ladd, ev_mul, ev_mull, ev_lmul, ev_sub, ev_subl, ev_lsub, ev_lt, ev_ltl, ev_llt, ev_le, ev_lel, ev_lle, ev_eq, ev_eql, ev_leq, ev_nm1, ev_nm5, ev_m1n, ev_neg1, ev_ltT, ev_ltF, ev_leT, ev_leF, ev_eqT, ev_eqF, ev_one0, ev_zero1, Nat.reduceAdd, Nat.reduceMul, Nat.reduceSub, ea_pI_eq, ev_pIn, ev_pIe, ea_pI_r, eq_self, hX.1.1]
  rw [ev_rem (by omega) (by omega) (by omega)]
theorem GX.fr {M M' : eM} {sl : Nat} (h : GX M a S sl) (f : ∀ c k, (c = a ∧ k = 10) ∨ c = a + 6 ∨ c = a + 7 ∨ c = a + 8 ∨ c = a + 9 → M'.1 c k = M.1 c k) : GX M' a S sl := by
  refine ⟨by rw [f _ _ (by omega)]; exact h.1, fun i hi => ?_⟩
  obtain ⟨g1, g2, g3⟩ := h.2 i hi
  exact ⟨by rw [f _ _ (by omega)]; exact g1, by rw [f _ _ (by omega)]; exact g2, fun c hc => ⟨by rw [f _ _ (by omega)]; exact (g3 c hc).1, by rw [f _ _ (by omega)]; exact (g3 c hc).2⟩⟩
theorem GX.bx {M : eM} {sl : Nat} (h : GX M a S sl) {i : Nat} (hi : i < S.length) : BX M a i (nth S i) sl := (h.2 i hi).2.2
theorem px_f75 (ha : pn_f a) (hC0 : Ctx M cc n v th o w q l t r) (hs : s < n 5) (hcol : col < n 0) (hS : S.length ≤ 22) (hSo : ∀ x, x ∈ S → rok x) {P : Nat} (hP : P < n 7 + 1) {x6 : Int32} (k134 : Int32 → Nat → Int32 → Int32 → Int32 → eM → Option eM) :
    ∀ (d f i : Nat) (M1 : eM), S.length - i = d → i ≤ S.length → d < f → FrF a M M1 → GX M1 a S (n 2) → yrs M1 a th (gst n v o w s col S P i) → ∃ M', fX3_find_75 k134 a f (nI s) cc (nI col) x6 (nI P) (nI (yrP v P)) (nI i) M1 = k134 (nI s) cc (nI col) x6 (nI P) M' ∧ FrF a M M' ∧ GX M' a S (n 2) ∧ yrs M' a th (gst n v o w s col S P S.length) := by
  obtain ⟨-, -, l6, l7, -⟩ := pn_lf ha
  have hcc := hC0.1.1
  have ho := hC0.1.2.2.2.1
  have h7 := ho.2.2.2.2.2.2.2.1
  intro d
  induction d with
  | zero =>
    intro f i M1 hd hi hf hF hG hY
    obtain ⟨f, rfl⟩ : ∃ f', f = f' + 1 := ⟨f - 1, by omega⟩
    obtain rfl : i = S.length := by omega
    refine ⟨M1, ?_, hF, hG, hY⟩
    simp (disch := omega) only [ev_ck, ev_ci, ev_cv, ev_lt_, ↓reduceIte, ev_lens, ev_ix, ev_nz, ev_cl, ev_cll, ev_add, ev_addl, ev_ladd, ev_mul, ev_mull, ev_lmul, ev_sub, ev_subl, ev_lsub, ev_lt, ev_ltl, ev_llt, ev_le, ev_lel, ev_lle, ev_eq, ev_eql, ev_leq, ev_nm1, ev_nm5, ev_m1n, ev_neg1, ev_ltT, ev_ltF, ev_leT, ev_leF, ev_eqT, ev_eqF, ev_one0, ev_zero1, Nat.reduceAdd, Nat.reduceMul, Nat.reduceSub, ea_pI_eq, ev_pIn, ev_pIe, ea_pI_r, eq_self, fX3_find_75, hG.1]
  | succ d ih =>
    intro f i M1 hd hi hf hF hG hY
    obtain ⟨f, rfl⟩ : ∃ f', f = f' + 1 := ⟨f - 1, by omega⟩
    have hC := hC0.kp (hF.kp ha)
    have hX := hC.1.2.2.2.2.1
    have ro := nth_ok hSo i
    obtain ⟨g6, g7, -⟩ := hG.2 i (by omega)
    have hh := px_hours hcc hX ho hs hcol (yrP_le ho hP) ro.1
    have hle := sp_hours_le ho hs hcol (year := yrP v P) (side := nth S i 0)
    have hp : a + 1 = 51 ∨ a + 1 = 61 := by unfold pn_f at ha; omega
    have hm : hrs n v s col S P i < 2 ^ 31 := by unfold hrs; have := ro.2.1; omega
    obtain ⟨M2, m1, m2⟩ := px_mix hp hC.1.2.1 hcc hX ho hm
    have hF2 : FrF a M1 M2 := ⟨fun c k hk => m2.2.1 c k (by omega), m2.2.2⟩
    have hG2 : GX M2 a S (n 2) := hG.fr (fun c k hk => m2.2.1 c k (by omega))
    have hY2 : yrs M2 a th (gst n v o w s col S P i) := fun x hx => by rw [m2.2.1 _ _ (by omega)]; exact hY x hx
    obtain ⟨M3, n1, n2, n3, n4⟩ := px_narrow ha (hC.kp (hF2.kp ha)) (h := hrs n v s col S P i) (fun x c hc hx => m2.1 x c hc hx) ro (hG2.bx (i := i) (by omega)) (by omega) hY2 (bit_ok (p := P) (by omega))
    have hF3 : FrF a M2 M3 := ⟨fun c k hk => n3 c k (by omega), n4⟩
    obtain ⟨M', r1, r2⟩ := ih f (i + 1) M3 (by omega) (by omega) (by omega) ((hF.trans hF2).trans hF3) (hG2.fr (fun c k hk => n3 c k (by omega))) (fun x hx => by
      rw [n2 x hx]
      congr 1
      apply mk_congr
      intro p' hp'
      show (if p' = P then gst n v o w s col S P i x P && ok1 v o w (n 2) x (hrs n v s col S P i) (nth S i) else gst n v o w s col S P i x p') = gst n v o w s col S P (i + 1) x p'
      by_cases e : p' = P
      · rw [if_pos e, e]
        unfold gst
        rw [if_neg (Nat.lt_irrefl P), if_neg (Nat.lt_irrefl P), if_pos rfl, if_pos rfl, fkN_s, ← Bool.and_assoc]
        rfl
      · rw [if_neg e]
        unfold gst
        rw [if_neg e, if_neg e])
    refine ⟨M', ?_, r2⟩
    have eh : nI (sp_hours n v s col (yrP v P) (nth S i 0)) + nI (nth S i 1) = nI (hrs n v s col S P i) := nI_add _ _
    simp (disch := omega) only [ev_ck, ev_ci, ev_cv, ev_lt_, ↓reduceIte, ev_lens, ev_ix, ev_nz, ev_cl, ev_cll, ev_addl, ev_ladd, ev_mul, ev_mull, ev_lmul, ev_sub, ev_subl, ev_lsub, ev_lt, ev_ltl, ev_llt, ev_le, ev_lel, ev_lle, ev_eq, ev_eql, ev_leq, ev_nm1, ev_nm5, ev_m1n, ev_neg1, ev_ltT, ev_ltF, ev_leT, ev_leF, ev_eqT, ev_eqF, ev_one0, ev_zero1, Nat.reduceAdd, Nat.reduceMul, Nat.reduceSub, ea_pI_eq, ev_pIn, ev_pIe, ea_pI_r, eq_self, fX3_find_75, hG.1, l6, l7, g6, hh, g7, eh, m1, n1]
    exact r1
theorem px_fill {x : Nat} {y : Int32} (hl : ea_len (a + 3) = 855) (hx : x ≤ 855) : ∃ M', fJ7_fill_fda19 (a + 3) 0 (nI x) y M = some M' ∧ (∀ j, j < x → M'.1 (a + 3) j = y) ∧ (∀ c k, c ≠ a + 3 → M'.1 c k = M.1 c k) ∧ M'.2.2 = M.2.2 := by
  have lp : ∀ (d f j : Nat) (M1 : eM), x - j = d → j ≤ x → d < f → (∀ i, i < j → M1.1 (a + 3) i = y) → (∀ c k, c ≠ a + 3 → M1.1 c k = M.1 c k) → M1.2.2 = M.2.2 → ∃ M', fJ7_fill_fda19_10 (a + 3) f (nI x) y (nI j) M1 = some M' ∧ (∀ j, j < x → M'.1 (a + 3) j = y) ∧ (∀ c k, c ≠ a + 3 → M'.1 c k = M.1 c k) ∧ M'.2.2 = M.2.2 := by
    intro d
    induction d with
    | zero =>
      intro f j M1 hd hj hf h1 h2 h3
      obtain ⟨f, rfl⟩ : ∃ f', f = f' + 1 := ⟨f - 1, by omega⟩
      refine ⟨M1, ?_, fun i hi => h1 i (by omega), h2, h3⟩
      simp (disch := omega) only [ev_ck, ev_ci, ev_cv, ev_lt_, ↓reduceIte, ev_lens, ev_ix, ev_nz, ev_cl, ev_cll, ev_add, ev_addl, ev_ladd, ev_mul, ev_mull, ev_lmul, ev_sub, ev_subl, ev_lsub, ev_lt, ev_ltl, ev_llt, ev_le, ev_lel, ev_lle, ev_eq, ev_eql, ev_leq, ev_nm1, ev_nm5, ev_m1n, ev_neg1, ev_ltT, ev_ltF, ev_leT, ev_leF, ev_eqT, ev_eqF, ev_one0, ev_zero1, Nat.reduceAdd, Nat.reduceMul, Nat.reduceSub, ea_pI_eq, ev_pIn, ev_pIe, ea_pI_r, eq_self, fJ7_fill_fda19_10]
    | succ d ih =>
      intro f j M1 hd hj hf h1 h2 h3
      obtain ⟨f, rfl⟩ : ∃ f', f = f' + 1 := ⟨f - 1, by omega⟩
      obtain ⟨M', r1, r2⟩ := ih f (j + 1) (ea_pI M1 (a + 3) j y) (by omega) (by omega) (by omega) (fun i hi => by
        by_cases e : i = j
        · rw [e, ea_pI_eq]
        · rw [ea_pI_ne (by omega)]; exact h1 i (by omega)) (fun c k hc => by rw [ea_pI_ne (by omega)]; exact h2 c k hc) h3
      refine ⟨M', ?_, r2⟩
      simp (disch := omega) only [ev_ck, ev_ci, ev_cv, ev_lt_, ↓reduceIte, ev_lens, ev_ix, ev_nz, ev_cl, ev_cll, ev_add, ev_addl, ev_ladd, ev_mul, ev_mull, ev_lmul, ev_sub, ev_subl, ev_lsub, ev_lt, ev_ltl, ev_llt, ev_le, ev_lel, ev_lle, ev_eq, ev_eql, ev_leq, ev_nm1, ev_nm5, ev_m1n, ev_neg1, ev_ltT, ev_ltF, ev_leT, ev_leF, ev_eqT, ev_eqF, ev_one0, ev_zero1, Nat.reduceAdd, Nat.reduceMul, Nat.reduceSub, ea_pI_eq, ev_pIn, ev_pIe, ea_pI_r, eq_self, fJ7_fill_fda19_10, hl]
      exact r1
  obtain ⟨M', r1, r2⟩ := lp x ea_N 0 M (by omega) (by omega) (by unfold ea_N; omega) (fun i hi => by omega) (fun _ _ _ => rfl) rfl
  refine ⟨M', ?_, r2⟩
  unfold fJ7_fill_fda19 fJ7_fill_fda19_0
  have rc : fJ7_rangeCheck_23922 (nI 855) 0 (nI x) M = some M := by
    unfold fJ7_rangeCheck_23922 fJ7_rangeCheck_23922_0
    simp (disch := omega) only [ev_ck, ev_ci, ev_cv, ev_lt_, ↓reduceIte, ev_lens, ev_ix, ev_nz, ev_cl, ev_cll, ev_add, ev_addl, ev_ladd, ev_mul, ev_mull, ev_lmul, ev_sub, ev_subl, ev_lsub, ev_lt, ev_ltl, ev_llt, ev_le, ev_lel, ev_lle, ev_eq, ev_eql, ev_leq, ev_nm1, ev_nm5, ev_m1n, ev_neg1, ev_ltT, ev_ltF, ev_leT, ev_leF, ev_eqT, ev_eqF, ev_one0, ev_zero1, Nat.reduceAdd, Nat.reduceMul, Nat.reduceSub, ea_pI_eq, ev_pIn, ev_pIe, ea_pI_r, eq_self]
    exact if_pos (by decide)
  rw [hl, rc, ev_cv]
  exact r1
/-- pairs that fit, in their order: THREAD and the YEAR's place -/
def plk (f : Nat → Bool) (x : Nat) : Nat → List (Nat × Nat)
  | 0 => []
  | k + 1 => plk f x k ++ (if f k = true then [(x, k)] else [])
theorem plk_s (f : Nat → Bool) (x k : Nat) : plk f x (k + 1) = plk f x k ++ (if f k = true then [(x, k)] else []) := rfl
def pl (g : Nat → Nat → Bool) (pc : Nat) : Nat → List (Nat × Nat)
  | 0 => []
  | j + 1 => pl g pc j ++ plk (g j) j pc
theorem pl_s (g : Nat → Nat → Bool) (pc j : Nat) : pl g pc (j + 1) = pl g pc j ++ plk (g j) j pc := rfl
theorem plk_len (f : Nat → Bool) (x : Nat) : ∀ k, (plk f x k).length ≤ k
  | 0 => Nat.zero_le _
  | k + 1 => by
    rw [plk_s, List.length_append]
    have := plk_len f x k
    by_cases h : f k = true
    · rw [if_pos h]; show _ + 1 ≤ _; omega
    · rw [if_neg h]; show _ + 0 ≤ _; omega
theorem pl_len (g : Nat → Nat → Bool) {pc : Nat} (hp : pc ≤ 4) : ∀ j, (pl g pc j).length ≤ 4 * j
  | 0 => Nat.zero_le _
  | j + 1 => by
    rw [pl_s, List.length_append]
    have := pl_len g hp j
    have := plk_len (g j) j pc
    omega
def c0 : List (Nat × Nat) → Nat
  | [] => 0
  | e :: L => (if e.2 = 0 then 1 else 0) + c0 L
theorem c0_app : ∀ A B, c0 (A ++ B) = c0 A + c0 B
  | [], B => (Nat.zero_add _).symm
  | e :: A, B => by
    show (if e.2 = 0 then 1 else 0) + c0 (A ++ B) = (if e.2 = 0 then 1 else 0) + c0 A + c0 B
    rw [c0_app A B, Nat.add_assoc]
theorem c0_le : ∀ L, c0 L ≤ L.length
  | [] => Nat.le_refl _
  | e :: L => by
    show (if e.2 = 0 then 1 else 0) + c0 L ≤ L.length + 1
    have := c0_le L
    by_cases h : e.2 = 0
    · rw [if_pos h]; omega
    · rw [if_neg h]; omega
def hd1 : List (Nat × Nat) → Int32
  | [] => -1
  | e :: _ => nI e.1
theorem hd_app (A B : List (Nat × Nat)) : hd1 (A ++ B) = match A with
  | [] => hd1 B
  | _ :: _ => hd1 A := by cases A <;> rfl
/-- out of four bits -/
theorem plk_up {f : Nat → Bool} {x pc : Nat} (h : ∀ p, pc ≤ p → f p = false) : ∀ d, plk f x (pc + d) = plk f x pc
  | 0 => rfl
  | d + 1 => by
    show plk f x (pc + d) ++ (if f (pc + d) = true then _ else []) = _
    rw [h _ (by omega), plk_up h d, if_neg (by decide), List.append_nil]
theorem plk_4 {f : Nat → Bool} {x pc : Nat} (hp : pc ≤ 4) (h : ∀ p, pc ≤ p → f p = false) : plk f x pc = plk f x 4 := by
  have := plk_up (x := x) h (4 - pc)
  rw [show pc + (4 - pc) = 4 by omega] at this
  exact this.symm
theorem plk_pop {f : Nat → Bool} {x pc : Nat} (hp : pc ≤ 4) (h : ∀ p, pc ≤ p → f p = false) : (plk f x pc).length = pop f ∧ c0 (plk f x pc) = (if f 0 = true then 1 else 0) ∧ (plk f x pc = [] ↔ mk f = 0) ∧ (mk f ≠ 0 → hd1 (plk f x pc) = nI x) := by
  rw [plk_4 hp h]
  unfold pop mk
  show ((((([] ++ (if f 0 = true then [(x, 0)] else [])) ++ (if f 1 = true then [(x, 1)] else [])) ++ (if f 2 = true then [(x, 2)] else [])) ++ (if f 3 = true then [(x, 3)] else [])).length = _ ∧ c0 (((([] ++ (if f 0 = true then [(x, 0)] else [])) ++ (if f 1 = true then [(x, 1)] else [])) ++ (if f 2 = true then [(x, 2)] else [])) ++ (if f 3 = true then [(x, 3)] else [])) = _ ∧ ((((([] ++ (if f 0 = true then [(x, 0)] else [])) ++ (if f 1 = true then [(x, 1)] else [])) ++ (if f 2 = true then [(x, 2)] else [])) ++ (if f 3 = true then [(x, 3)] else [])) = [] ↔ _) ∧ (_ → hd1 (((([] ++ (if f 0 = true then [(x, 0)] else [])) ++ (if f 1 = true then [(x, 1)] else [])) ++ (if f 2 = true then [(x, 2)] else [])) ++ (if f 3 = true then [(x, 3)] else [])) = nI x))
  generalize f 0 = a
  generalize f 1 = b
  generalize f 2 = c
  generalize f 3 = d
  cases a <;> cases b <;> cases c <;> cases d <;> refine ⟨rfl, rfl, ?_, ?_⟩ <;> simp [mk4, hd1]
def ct (g : Nat → Nat → Bool) (j : Nat) : Nat := cnt (fun x => decide (mk (g x) ≠ 0)) j
/-- what find leaves behind -/
def FX (M : eM) (a th : Nat) (g : Nat → Nat → Bool) (pc : Nat) : Prop := yrs M a th g ∧ M.1 a 6 = nI (pl g pc th).length ∧ M.1 a 7 = nI (c0 (pl g pc th)) ∧ M.1 a 8 = nI (ct g th) ∧ M.1 a 9 = hd1 (pl g pc th)
theorem px_sumUp (ha : pn_f a) (h41 : M.1 4 1 = nI th) (hth : th ≤ 855) {g : Nat → Nat → Bool} {pc : Nat} (hp : pc ≤ 4) (hg : ∀ x p, pc ≤ p → g x p = false) (hY : yrs M a th g) : ∃ M', fX3_sumUp a M = some M' ∧ FX M' a th g pc ∧ (∀ c k, (c ≠ a ∨ k < 6 ∨ 9 < k) → M'.1 c k = M.1 c k) ∧ M'.2.2 = M.2.2 := by
  obtain ⟨-, l3, -⟩ := pn_lf ha
  have ha' := ha
  unfold pn_f at ha'
  have lp : ∀ (d f j : Nat) (M1 : eM), th - j = d → j ≤ th → d < f → M1.1 a 6 = nI (pl g pc j).length → M1.1 a 7 = nI (c0 (pl g pc j)) → M1.1 a 8 = nI (ct g j) → M1.1 a 9 = hd1 (pl g pc j) → (∀ c k, (c ≠ a ∨ k < 6 ∨ 9 < k) → M1.1 c k = M.1 c k) → M1.2.2 = M.2.2 → ∃ M', fX3_sumUp_22 a f (nI j) M1 = some M' ∧ FX M' a th g pc ∧ (∀ c k, (c ≠ a ∨ k < 6 ∨ 9 < k) → M'.1 c k = M.1 c k) ∧ M'.2.2 = M.2.2 := by
    intro d
    induction d with
    | zero =>
      intro f j M1 hd hj hf f6 f7 f8 f9 hF hR
      obtain ⟨f, rfl⟩ : ∃ f', f = f' + 1 := ⟨f - 1, by omega⟩
      obtain rfl : j = th := by omega
      have e41 : M1.1 4 1 = nI j := by rw [hF _ _ (by omega)]; exact h41
      refine ⟨M1, ?_, ⟨fun x hx => by rw [hF _ _ (by omega)]; exact hY x hx, f6, f7, f8, f9⟩, hF, hR⟩
      simp (disch := omega) only [ev_ck, ev_ci, ev_cv, ev_lt_, ↓reduceIte, ev_lens, ev_ix, ev_nz, ev_cl, ev_cll, ev_add, ev_addl, ev_ladd, ev_mul, ev_mull, ev_lmul, ev_sub, ev_subl, ev_lsub, ev_lt, ev_ltl, ev_llt, ev_le, ev_lel, ev_lle, ev_eq, ev_eql, ev_leq, ev_nm1, ev_nm5, ev_m1n, ev_neg1, ev_ltT, ev_ltF, ev_leT, ev_leF, ev_eqT, ev_eqF, ev_one0, ev_zero1, Nat.reduceAdd, Nat.reduceMul, Nat.reduceSub, ea_pI_eq, ev_pIn, ev_pIe, ea_pI_r, eq_self, fX3_sumUp_22, e41]
    | succ d ih =>
      intro f j M1 hd hj hf f6 f7 f8 f9 hF hR
      obtain ⟨f, rfl⟩ : ∃ f', f = f' + 1 := ⟨f - 1, by omega⟩
      have e41 : M1.1 4 1 = nI th := by rw [hF _ _ (by omega)]; exact h41
      have ej : M1.1 (a + 3) j = nI (mk (g j)) := by rw [hF _ _ (by omega)]; exact hY j (by omega)
      have hlt := mk_lt (g j)
      obtain ⟨p1, p2, p3, p4⟩ := plk_pop (x := j) hp (hg j)
      have hct : ct g (j + 1) = ct g j + (if decide (mk (g j) ≠ 0) = true then 1 else 0) := rfl
      have hln := pl_len g hp j
      have hc0 := c0_le (pl g pc j)
      have hctl : ct g j ≤ j := cnt_le _ _
      by_cases hz : mk (g j) = 0
      · have e0 := p3.mpr hz
        obtain ⟨M', r1, r2⟩ := ih f (j + 1) M1 (by omega) (by omega) (by omega) (by rw [pl_s, e0, List.append_nil]; exact f6) (by rw [pl_s, e0, List.append_nil]; exact f7) (by rw [hct, if_neg (by simp [hz])]; exact f8) (by rw [pl_s, e0, List.append_nil]; exact f9) hF hR
        refine ⟨M', ?_, r2⟩
        simp (disch := omega) only [ev_ck, ev_ci, ev_cv, ev_lt_, ↓reduceIte, ev_lens, ev_ix, ev_nz, ev_cl, ev_cll, ev_add, ev_addl, ev_ladd, ev_mul, ev_mull, ev_lmul, ev_sub, ev_subl, ev_lsub, ev_lt, ev_ltl, ev_llt, ev_le, ev_lel, ev_lle, ev_eq, ev_eql, ev_leq, ev_nm1, ev_nm5, ev_m1n, ev_neg1, ev_ltT, ev_ltF, ev_leT, ev_leF, ev_eqT, ev_eqF, ev_one0, ev_zero1, Nat.reduceAdd, Nat.reduceMul, Nat.reduceSub, ea_pI_eq, ev_pIn, ev_pIe, ea_pI_r, eq_self, fX3_sumUp_22, e41, l3, ej, fX3_sumUp_107]
        exact r1
      · have hct1 : ct g (j + 1) = ct g j + 1 := by rw [hct, if_pos (by simp [hz])]
        have hh := p4 hz
        have hm1 := mk_one (g j)
        cases hpl : pl g pc j with
        | nil =>
          rw [hpl] at f6 f7 f9
          have f9 : M1.1 a 9 = -1 := f9
          obtain ⟨M', r1, r2⟩ := ih f (j + 1) (ea_pI (ea_pI (ea_pI (ea_pI M1 a 6 (nI (([] : List (Nat × Nat)).length + pop (g j)))) a 7 (nI (c0 [] + (if g j 0 = true then 1 else 0)))) a 8 (nI (ct g j + 1))) a 9 (nI j)) (by omega) (by omega) (by omega) (by rw [pl_s, hpl, List.length_append, p1]; simp (disch := omega) only [ev_ck, ev_ci, ev_cv, ev_lt_, ↓reduceIte, ev_lens, ev_ix, ev_nz, ev_cl, ev_cll, ev_add, ev_addl, ev_ladd, ev_mul, ev_mull, ev_lmul, ev_sub, ev_subl, ev_lsub, ev_lt, ev_ltl, ev_llt, ev_le, ev_lel, ev_lle, ev_eq, ev_eql, ev_leq, ev_nm1, ev_nm5, ev_m1n, ev_neg1, ev_ltT, ev_ltF, ev_leT, ev_leF, ev_eqT, ev_eqF, ev_one0, ev_zero1, Nat.reduceAdd, Nat.reduceMul, Nat.reduceSub, ea_pI_eq, ev_pIn, ev_pIe, ea_pI_r, eq_self]) (by rw [pl_s, hpl, c0_app, p2]; simp (disch := omega) only [ev_ck, ev_ci, ev_cv, ev_lt_, ↓reduceIte, ev_lens, ev_ix, ev_nz, ev_cl, ev_cll, ev_add, ev_addl, ev_ladd, ev_mul, ev_mull, ev_lmul, ev_sub, ev_subl, ev_lsub, ev_lt, ev_ltl, ev_llt, ev_le, ev_lel, ev_lle, ev_eq, ev_eql, ev_leq, ev_nm1, ev_nm5, ev_m1n, ev_neg1, ev_ltT, ev_ltF, ev_leT, ev_leF, ev_eqT, ev_eqF, ev_one0, ev_zero1, Nat.reduceAdd, Nat.reduceMul, Nat.reduceSub, ea_pI_eq, ev_pIn, ev_pIe, ea_pI_r, eq_self]) (by rw [hct1]; simp (disch := omega) only [ev_ck, ev_ci, ev_cv, ev_lt_, ↓reduceIte, ev_lens, ev_ix, ev_nz, ev_cl, ev_cll, ev_add, ev_addl, ev_ladd, ev_mul, ev_mull, ev_lmul, ev_sub, ev_subl, ev_lsub, ev_lt, ev_ltl, ev_llt, ev_le, ev_lel, ev_lle, ev_eq, ev_eql, ev_leq, ev_nm1, ev_nm5, ev_m1n, ev_neg1, ev_ltT, ev_ltF, ev_leT, ev_leF, ev_eqT, ev_eqF, ev_one0, ev_zero1, Nat.reduceAdd, Nat.reduceMul, Nat.reduceSub, ea_pI_eq, ev_pIn, ev_pIe, ea_pI_r, eq_self]) (by rw [pl_s, hpl, hd_app]; simp (disch := omega) only [ev_ck, ev_ci, ev_cv, ev_lt_, ↓reduceIte, ev_lens, ev_ix, ev_nz, ev_cl, ev_cll, ev_add, ev_addl, ev_ladd, ev_mul, ev_mull, ev_lmul, ev_sub, ev_subl, ev_lsub, ev_lt, ev_ltl, ev_llt, ev_le, ev_lel, ev_lle, ev_eq, ev_eql, ev_leq, ev_nm1, ev_nm5, ev_m1n, ev_neg1, ev_ltT, ev_ltF, ev_leT, ev_leF, ev_eqT, ev_eqF, ev_one0, ev_zero1, Nat.reduceAdd, Nat.reduceMul, Nat.reduceSub, ea_pI_eq, ev_pIn, ev_pIe, ea_pI_r, eq_self]; exact hh.symm) (fun c k hk => by simp (disch := omega) only [ev_ck, ev_ci, ev_cv, ev_lt_, ↓reduceIte, ev_lens, ev_ix, ev_nz, ev_cl, ev_cll, ev_add, ev_addl, ev_ladd, ev_mul, ev_mull, ev_lmul, ev_sub, ev_subl, ev_lsub, ev_lt, ev_ltl, ev_llt, ev_le, ev_lel, ev_lle, ev_eq, ev_eql, ev_leq, ev_nm1, ev_nm5, ev_m1n, ev_neg1, ev_ltT, ev_ltF, ev_leT, ev_leF, ev_eqT, ev_eqF, ev_one0, ev_zero1, Nat.reduceAdd, Nat.reduceMul, Nat.reduceSub, ea_pI_eq, ev_pIn, ev_pIe, ea_pI_r, eq_self]; exact hF c k hk) hR
          refine ⟨M', ?_, r2⟩
          simp (disch := omega) only [ev_ck, ev_ci, ev_cv, ev_lt_, ↓reduceIte, ev_lens, ev_ix, ev_nz, ev_cl, ev_cll, ev_add, ev_addl, ev_ladd, ev_mul, ev_mull, ev_lmul, ev_sub, ev_subl, ev_lsub, ev_lt, ev_ltl, ev_llt, ev_le, ev_lel, ev_lle, ev_eq, ev_eql, ev_leq, ev_nm1, ev_nm5, ev_m1n, ev_neg1, ev_ltT, ev_ltF, ev_leT, ev_leF, ev_eqT, ev_eqF, ev_one0, ev_zero1, Nat.reduceAdd, Nat.reduceMul, Nat.reduceSub, ea_pI_eq, ev_pIn, ev_pIe, ea_pI_r, eq_self, fX3_sumUp_22, e41, l3, ej, fX3_sumUp_107, fX3_sumUp_104, mk_pop, f6, f7, f8, f9, hm1]
          exact r1
        | cons e L =>
          rw [hpl] at f6 f7 f9
          have he : e.1 < 2 ^ 31 := by
            have key : ∀ j, j ≤ th → ∀ e, e ∈ pl g pc j → e.1 < th := by
              have k2 : ∀ x k, ∀ e, e ∈ plk (g x) x k → e.1 = x := by
                intro x k
                induction k with
                | zero => intro e he; exact absurd he List.not_mem_nil
                | succ k ih =>
                  intro e he
                  rcases List.mem_append.mp he with he | he
                  · exact ih e he
                  · by_cases h : g x k = true
                    · rw [if_pos h] at he
                      rw [List.mem_singleton.mp he]
                    · rw [if_neg h] at he
                      exact absurd he List.not_mem_nil
              intro j
              induction j with
              | zero => intro _ e he; exact absurd he List.not_mem_nil
              | succ j ih =>
                intro hj e he
                rcases List.mem_append.mp he with he | he
                · exact ih (by omega) e he
                · rw [k2 j pc e he]; omega
            have := key j hj e (by rw [hpl]; exact List.mem_cons_self)
            omega
          have f9 : M1.1 a 9 = nI e.1 := f9
          obtain ⟨M', r1, r2⟩ := ih f (j + 1) (ea_pI (ea_pI (ea_pI (ea_pI M1 a 6 (nI ((e :: L).length + pop (g j)))) a 7 (nI (c0 (e :: L) + (if g j 0 = true then 1 else 0)))) a 8 (nI (ct g j + 1))) a 9 (nI e.1)) (by omega) (by omega) (by omega) (by rw [pl_s, hpl, List.length_append, p1]; simp (disch := omega) only [ev_ck, ev_ci, ev_cv, ev_lt_, ↓reduceIte, ev_lens, ev_ix, ev_nz, ev_cl, ev_cll, ev_add, ev_addl, ev_ladd, ev_mul, ev_mull, ev_lmul, ev_sub, ev_subl, ev_lsub, ev_lt, ev_ltl, ev_llt, ev_le, ev_lel, ev_lle, ev_eq, ev_eql, ev_leq, ev_nm1, ev_nm5, ev_m1n, ev_neg1, ev_ltT, ev_ltF, ev_leT, ev_leF, ev_eqT, ev_eqF, ev_one0, ev_zero1, Nat.reduceAdd, Nat.reduceMul, Nat.reduceSub, ea_pI_eq, ev_pIn, ev_pIe, ea_pI_r, eq_self]) (by rw [pl_s, hpl, c0_app, p2]; simp (disch := omega) only [ev_ck, ev_ci, ev_cv, ev_lt_, ↓reduceIte, ev_lens, ev_ix, ev_nz, ev_cl, ev_cll, ev_add, ev_addl, ev_ladd, ev_mul, ev_mull, ev_lmul, ev_sub, ev_subl, ev_lsub, ev_lt, ev_ltl, ev_llt, ev_le, ev_lel, ev_lle, ev_eq, ev_eql, ev_leq, ev_nm1, ev_nm5, ev_m1n, ev_neg1, ev_ltT, ev_ltF, ev_leT, ev_leF, ev_eqT, ev_eqF, ev_one0, ev_zero1, Nat.reduceAdd, Nat.reduceMul, Nat.reduceSub, ea_pI_eq, ev_pIn, ev_pIe, ea_pI_r, eq_self]) (by rw [hct1]; simp (disch := omega) only [ev_ck, ev_ci, ev_cv, ev_lt_, ↓reduceIte, ev_lens, ev_ix, ev_nz, ev_cl, ev_cll, ev_add, ev_addl, ev_ladd, ev_mul, ev_mull, ev_lmul, ev_sub, ev_subl, ev_lsub, ev_lt, ev_ltl, ev_llt, ev_le, ev_lel, ev_lle, ev_eq, ev_eql, ev_leq, ev_nm1, ev_nm5, ev_m1n, ev_neg1, ev_ltT, ev_ltF, ev_leT, ev_leF, ev_eqT, ev_eqF, ev_one0, ev_zero1, Nat.reduceAdd, Nat.reduceMul, Nat.reduceSub, ea_pI_eq, ev_pIn, ev_pIe, ea_pI_r, eq_self]) (by rw [pl_s, hpl, hd_app]; simp (disch := omega) only [ev_ck, ev_ci, ev_cv, ev_lt_, ↓reduceIte, ev_lens, ev_ix, ev_nz, ev_cl, ev_cll, ev_add, ev_addl, ev_ladd, ev_mul, ev_mull, ev_lmul, ev_sub, ev_subl, ev_lsub, ev_lt, ev_ltl, ev_llt, ev_le, ev_lel, ev_lle, ev_eq, ev_eql, ev_leq, ev_nm1, ev_nm5, ev_m1n, ev_neg1, ev_ltT, ev_ltF, ev_leT, ev_leF, ev_eqT, ev_eqF, ev_one0, ev_zero1, Nat.reduceAdd, Nat.reduceMul, Nat.reduceSub, ea_pI_eq, ev_pIn, ev_pIe, ea_pI_r, eq_self]; rfl) (fun c k hk => by simp (disch := omega) only [ev_ck, ev_ci, ev_cv, ev_lt_, ↓reduceIte, ev_lens, ev_ix, ev_nz, ev_cl, ev_cll, ev_add, ev_addl, ev_ladd, ev_mul, ev_mull, ev_lmul, ev_sub, ev_subl, ev_lsub, ev_lt, ev_ltl, ev_llt, ev_le, ev_lel, ev_lle, ev_eq, ev_eql, ev_leq, ev_nm1, ev_nm5, ev_m1n, ev_neg1, ev_ltT, ev_ltF, ev_leT, ev_leF, ev_eqT, ev_eqF, ev_one0, ev_zero1, Nat.reduceAdd, Nat.reduceMul, Nat.reduceSub, ea_pI_eq, ev_pIn, ev_pIe, ea_pI_r, eq_self]; exact hF c k hk) hR
          refine ⟨M', ?_, r2⟩
          simp (disch := omega) only [ev_ck, ev_ci, ev_cv, ev_lt_, ↓reduceIte, ev_lens, ev_ix, ev_nz, ev_cl, ev_cll, ev_add, ev_addl, ev_ladd, ev_mul, ev_mull, ev_lmul, ev_sub, ev_subl, ev_lsub, ev_lt, ev_ltl, ev_llt, ev_le, ev_lel, ev_lle, ev_eq, ev_eql, ev_leq, ev_nm1, ev_nm5, ev_m1n, ev_neg1, ev_ltT, ev_ltF, ev_leT, ev_leF, ev_eqT, ev_eqF, ev_one0, ev_zero1, Nat.reduceAdd, Nat.reduceMul, Nat.reduceSub, ea_pI_eq, ev_pIn, ev_pIe, ea_pI_r, eq_self, fX3_sumUp_22, e41, l3, ej, fX3_sumUp_107, fX3_sumUp_104, mk_pop, f6, f7, f8, f9, hm1]
          exact r1
  unfold fX3_sumUp fX3_sumUp_0
  exact lp th ea_N 0 _ (by omega) (by omega) (by unfold ea_N; omega) (by simp (disch := omega) only [ev_ck, ev_ci, ev_cv, ev_lt_, ↓reduceIte, ev_lens, ev_ix, ev_nz, ev_cl, ev_cll, ev_add, ev_addl, ev_ladd, ev_mul, ev_mull, ev_lmul, ev_sub, ev_subl, ev_lsub, ev_lt, ev_ltl, ev_llt, ev_le, ev_lel, ev_lle, ev_eq, ev_eql, ev_leq, ev_nm1, ev_nm5, ev_m1n, ev_neg1, ev_ltT, ev_ltF, ev_leT, ev_leF, ev_eqT, ev_eqF, ev_one0, ev_zero1, Nat.reduceAdd, Nat.reduceMul, Nat.reduceSub, ea_pI_eq, ev_pIn, ev_pIe, ea_pI_r, eq_self]; rfl) (by simp (disch := omega) only [ev_ck, ev_ci, ev_cv, ev_lt_, ↓reduceIte, ev_lens, ev_ix, ev_nz, ev_cl, ev_cll, ev_add, ev_addl, ev_ladd, ev_mul, ev_mull, ev_lmul, ev_sub, ev_subl, ev_lsub, ev_lt, ev_ltl, ev_llt, ev_le, ev_lel, ev_lle, ev_eq, ev_eql, ev_leq, ev_nm1, ev_nm5, ev_m1n, ev_neg1, ev_ltT, ev_ltF, ev_leT, ev_leF, ev_eqT, ev_eqF, ev_one0, ev_zero1, Nat.reduceAdd, Nat.reduceMul, Nat.reduceSub, ea_pI_eq, ev_pIn, ev_pIe, ea_pI_r, eq_self]; rfl) (by simp (disch := omega) only [ev_ck, ev_ci, ev_cv, ev_lt_, ↓reduceIte, ev_lens, ev_ix, ev_nz, ev_cl, ev_cll, ev_add, ev_addl, ev_ladd, ev_mul, ev_mull, ev_lmul, ev_sub, ev_subl, ev_lsub, ev_lt, ev_ltl, ev_llt, ev_le, ev_lel, ev_lle, ev_eq, ev_eql, ev_leq, ev_nm1, ev_nm5, ev_m1n, ev_neg1, ev_ltT, ev_ltF, ev_leT, ev_leF, ev_eqT, ev_eqF, ev_one0, ev_zero1, Nat.reduceAdd, Nat.reduceMul, Nat.reduceSub, ea_pI_eq, ev_pIn, ev_pIe, ea_pI_r, eq_self]; rfl) (by simp (disch := omega) only [ev_ck, ev_ci, ev_cv, ev_lt_, ↓reduceIte, ev_lens, ev_ix, ev_nz, ev_cl, ev_cll, ev_add, ev_addl, ev_ladd, ev_mul, ev_mull, ev_lmul, ev_sub, ev_subl, ev_lsub, ev_lt, ev_ltl, ev_llt, ev_le, ev_lel, ev_lle, ev_eq, ev_eql, ev_leq, ev_nm1, ev_nm5, ev_m1n, ev_neg1, ev_ltT, ev_ltF, ev_leT, ev_leF, ev_eqT, ev_eqF, ev_one0, ev_zero1, Nat.reduceAdd, Nat.reduceMul, Nat.reduceSub, ea_pI_eq, ev_pIn, ev_pIe, ea_pI_r, eq_self]; rfl) (fun c k hk => by simp (disch := omega) only [ev_ck, ev_ci, ev_cv, ev_lt_, ↓reduceIte, ev_lens, ev_ix, ev_nz, ev_cl, ev_cll, ev_add, ev_addl, ev_ladd, ev_mul, ev_mull, ev_lmul, ev_sub, ev_subl, ev_lsub, ev_lt, ev_ltl, ev_llt, ev_le, ev_lel, ev_lle, ev_eq, ev_eql, ev_leq, ev_nm1, ev_nm5, ev_m1n, ev_neg1, ev_ltT, ev_ltF, ev_leT, ev_leF, ev_eqT, ev_eqF, ev_one0, ev_zero1, Nat.reduceAdd, Nat.reduceMul, Nat.reduceSub, ea_pI_eq, ev_pIn, ev_pIe, ea_pI_r, eq_self]) rfl
theorem px_find (ha : pn_f a) (hC : Ctx M cc n v th o w q l t r) {cell known : Nat} (hcell : cell < 48) (hk : known < 1000) (hs : s < n 5) : ∃ M', fX3_find a (nI cell) (nI s) (nI known) M = some M' ∧ FX M' a th (fk n v o w s (cell % n 0) (sgs q l t r cell known)) (n 7 + 1) ∧ FrF a M M' := by
  obtain ⟨-, l3, -⟩ := pn_lf ha
  have hcc := hC.1.1
  have ho := hC.1.2.2.2.1
  have h7 := ho.2.2.2.2.2.2.2.1
  have hth := hC.1.2.2.2.2.2.2.1.1.1
  have hX := hC.1.2.2.2.2.1
  have hcol : cell % n 0 < n 0 := Nat.mod_lt _ (by have := ho.1; omega)
  obtain ⟨M1, e1, G1, F1⟩ := px_gather ha hC hcell hk
  have hSo : ∀ x, x ∈ sgs q l t r cell known → rok x := sg_upto_ok hC.2.1.1 (q 1) (Nat.le_refl _)
  have hSl : (sgs q l t r cell known).length ≤ 22 := Nat.le_trans (sg_upto_len (q 1)) (by have := hC.2.1.1.2.1; omega)
  generalize sgs q l t r cell known = S at G1 hSo hSl
  have hC1 := hC.kp (F1.kp ha)
  obtain ⟨M2, e2, y2, f2, r2⟩ := px_fill (M := M1) (a := a) (x := th) (y := nI (mk (fun p => decide (p < n 7 + 1)))) l3 hth
  have F2 : FrF a M1 M2 := ⟨fun c k hk => f2 c k (by omega), r2⟩
  have lp : ∀ (d f P : Nat) (M3 : eM), n 7 + 1 - P = d → P ≤ n 7 + 1 → d < f → FrF a M M3 → GX M3 a S (n 2) → yrs M3 a th (gst n v o w s (cell % n 0) S P 0) → ∃ M', fX3_find_56 (fX3_find_140 a) a f (nI s) cc (nI (cell % n 0)) (nI (n 7 + 1)) (nI P) M3 = some M' ∧ FX M' a th (fk n v o w s (cell % n 0) S) (n 7 + 1) ∧ FrF a M M' := by
    intro d
    induction d with
    | zero =>
      intro f P M3 hd hP hf hF hG hY
      obtain ⟨f, rfl⟩ : ∃ f', f = f' + 1 := ⟨f - 1, by omega⟩
      have hC3 := hC.kp (hF.kp ha)
      obtain ⟨M', s1, s2, s3, s4⟩ := px_sumUp ha hC3.1.2.2.2.2.2.2.2.1.1 hth (g := fk n v o w s (cell % n 0) S) (pc := n 7 + 1) (by omega) (fun x p hp => by unfold fk; rw [decide_eq_false (by omega)]; rfl) (fun x hx => by
        rw [hY x hx]
        congr 1
        apply mk_congr
        intro p hp
        unfold gst fk
        by_cases h : p < n 7 + 1
        · rw [if_pos (by omega)]
        · rw [decide_eq_false h]; rfl)
      refine ⟨M', ?_, s2, hF.trans ⟨fun c k hk => s3 c k (by omega), s4⟩⟩
      simp (disch := omega) only [ev_ck, ev_ci, ev_cv, ev_lt_, ↓reduceIte, ev_lens, ev_ix, ev_nz, ev_cl, ev_cll, ev_add, ev_addl, ev_ladd, ev_mul, ev_mull, ev_lmul, ev_sub, ev_subl, ev_lsub, ev_lt, ev_ltl, ev_llt, ev_le, ev_lel, ev_lle, ev_eq, ev_eql, ev_leq, ev_nm1, ev_nm5, ev_m1n, ev_neg1, ev_ltT, ev_ltF, ev_leT, ev_leF, ev_eqT, ev_eqF, ev_one0, ev_zero1, Nat.reduceAdd, Nat.reduceMul, Nat.reduceSub, ea_pI_eq, ev_pIn, ev_pIe, ea_pI_r, eq_self, fX3_find_56, fX3_find_140, s1]
    | succ d ih =>
      intro f P M3 hd hP hf hF hG hY
      obtain ⟨f, rfl⟩ : ∃ f', f = f' + 1 := ⟨f - 1, by omega⟩
      have hC3 := hC.kp (hF.kp ha)
      have yy := px_year hcc hC3.1.2.2.2.2.1 ho (p := P) (by omega)
      obtain ⟨M4, t1, t2, t3, t4⟩ := px_f75 ha hC3 hs hcol hSl hSo (P := P) (by omega) (x6 := nI (n 7 + 1)) (fX3_find_134 (fX3_find_56 (fX3_find_140 a) a f) a) S.length ea_N 0 M3 (by omega) (by omega) (by unfold ea_N; omega) (FrF.rf a M3) hG hY
      obtain ⟨M', r1, r2⟩ := ih f (P + 1) M4 (by omega) (by omega) (by omega) (hF.trans t2) t3 (fun x hx => by
        rw [t4 x hx]
        congr 1
        apply mk_congr
        intro p hp
        unfold gst
        by_cases h : p < P
        · rw [if_pos h, if_pos (by omega)]
        · rw [if_neg h]
          by_cases h2 : p = P
          · rw [if_pos h2, if_pos (by omega)]
          · rw [if_neg h2, if_neg (by omega)]
            by_cases h3 : p = P + 1
            · rw [if_pos h3]; rfl
            · rw [if_neg h3])
      refine ⟨M', ?_, r2⟩
      simp (disch := omega) only [ev_ck, ev_ci, ev_cv, ev_lt_, ↓reduceIte, ev_lens, ev_ix, ev_nz, ev_cl, ev_cll, ev_add, ev_addl, ev_ladd, ev_mul, ev_mull, ev_lmul, ev_sub, ev_subl, ev_lsub, ev_lt, ev_ltl, ev_llt, ev_le, ev_lel, ev_lle, ev_eq, ev_eql, ev_leq, ev_nm1, ev_nm5, ev_m1n, ev_neg1, ev_ltT, ev_ltF, ev_leT, ev_leF, ev_eqT, ev_eqF, ev_one0, ev_zero1, Nat.reduceAdd, Nat.reduceMul, Nat.reduceSub, ea_pI_eq, ev_pIn, ev_pIe, ea_pI_r, eq_self, fX3_find_56, yy]
      refine t1.trans ?_
      simp (disch := omega) only [ev_ck, ev_ci, ev_cv, ev_lt_, ↓reduceIte, ev_lens, ev_ix, ev_nz, ev_cl, ev_cll, ev_add, ev_addl, ev_ladd, ev_mul, ev_mull, ev_lmul, ev_sub, ev_subl, ev_lsub, ev_lt, ev_ltl, ev_llt, ev_le, ev_lel, ev_lle, ev_eq, ev_eql, ev_leq, ev_nm1, ev_nm5, ev_m1n, ev_neg1, ev_ltT, ev_ltF, ev_leT, ev_leF, ev_eqT, ev_eqF, ev_one0, ev_zero1, Nat.reduceAdd, Nat.reduceMul, Nat.reduceSub, ea_pI_eq, ev_pIn, ev_pIe, ea_pI_r, eq_self, fX3_find_134]
      exact r1
  obtain ⟨M', r1, r2⟩ := lp (n 7 + 1) ea_N 0 M2 (by omega) (by omega) (by unfold ea_N; omega) (F1.trans F2) (G1.fr (fun c k hk => f2 c k (by omega))) (fun x hx => by
    rw [y2 x hx]
    congr 1
    apply mk_congr
    intro p hp
    unfold gst
    by_cases h2 : p = 0
    · rw [if_neg (by omega), if_pos h2]; exact (Bool.and_true _).symm
    · rw [if_neg (by omega), if_neg h2, Bool.and_true])
  refine ⟨M', ?_, r2⟩
  have e41 := hC1.1.2.2.2.2.2.2.2.1.1
  unfold fX3_find fX3_find_0
  rw [hC.1.2.1, ea_ck_t (pn_is hcc), ev_lt_, px_col hX ho hcell, ev_ci, hX.1.2.2.2.2.2.2.2.1, show nI (n 7) + 1 = nI (n 7 + 1) from nI_add _ 1, ev_lt_, e1, ev_cv, e41, mk_full (by omega) (by omega), e2, ev_cv]
  exact r1
end FD
