theorem isInv_in {c k : Nat} (h : isInv c k = true) : c ≤ 45 ∨ (100 < c ∧ c ≤ 115) ∨ (c = 100 ∧ (k = 1 ∨ k = 8 ∨ k = 9 ∨ k = 20 ∨ k = 22)) := by
  have key : ∀ c, c < 117 → isInvC c = true → (c ≤ 45 ∨ (100 < c ∧ c ≤ 115)) := by decide +kernel
  unfold isInv at h
  by_cases hc : isInvC c = true
  · rcases Nat.lt_or_ge c 117 with q | q
    · have := key c q hc; omega
    · exfalso
      unfold isInvC at hc
      simp only [List.contains_eq_mem, List.mem_cons, List.not_mem_nil, or_false, decide_eq_true_eq] at hc
      omega
  · simp only [hc, Bool.false_or, Bool.or_eq_true, Bool.and_eq_true, beq_iff_eq] at h
    omega
/-- what a query keeps -/
def Kp (M M' : eM) : Prop := Scr M M' ∧ ∀ c k, (c = 52 ∨ c = 62) → 135 ≤ k → M'.1 c k = M.1 c k
theorem Kp.rf (M : eM) : Kp M M := ⟨⟨fun _ _ _ => rfl, rfl⟩, fun _ _ _ _ => rfl⟩
theorem Kp.trans {A B D : eM} (h : Kp A B) (g : Kp B D) : Kp A D := ⟨⟨fun c k q => (g.1.1 c k q).trans (h.1.1 c k q), g.1.2.trans h.1.2⟩, fun c k p q => (g.2 c k p q).trans (h.2 c k p q)⟩
theorem InvZ.kp {M M' : eM} (h : InvZ M) (k : Kp M M') : InvZ M' := ⟨h.1.scr k.1, fun j hj => ⟨(k.2 52 _ (Or.inl rfl) (by omega)).trans (h.2 j hj).1, (k.2 62 _ (Or.inr rfl) (by omega)).trans (h.2 j hj).2⟩⟩
/-- the class's side of a fit -/
def FrF (a : Nat) (M M' : eM) : Prop := (∀ c k, (c < a ∨ a + 9 < c ∨ (c = a + 2 ∧ 135 ≤ k)) → M'.1 c k = M.1 c k) ∧ M'.2.2 = M.2.2
theorem FrF.rf (a : Nat) (M : eM) : FrF a M M := ⟨fun _ _ _ => rfl, rfl⟩
theorem FrF.trans {a : Nat} {A B D : eM} (h : FrF a A B) (g : FrF a B D) : FrF a A D := ⟨fun c k q => (g.1 c k q).trans (h.1 c k q), g.2.trans h.2⟩
theorem FrF.kp {a : Nat} (ha : pn_f a) {M M' : eM} (h : FrF a M M') : Kp M M' := by
  unfold pn_f at ha
  refine ⟨⟨fun c k hk => h.1 c k ?_, h.2⟩, fun c k hc hk => h.1 c k ?_⟩
  · have := isInv_in hk
    omega
  · omega
/-- the model's side -/
def FrW (M M' : eM) : Prop := (∀ c k, (c < 116 ∨ 121 < c) → (c = 100 → k ≠ 29 ∧ k ≠ 33 ∧ k ≠ 34) → M'.1 c k = M.1 c k) ∧ M'.2.2 = M.2.2
theorem FrW.rf (M : eM) : FrW M M := ⟨fun _ _ _ _ => rfl, rfl⟩
theorem FrW.trans {A B D : eM} (h : FrW A B) (g : FrW B D) : FrW A D := ⟨fun c k q p => (g.1 c k q p).trans (h.1 c k q p), g.2.trans h.2⟩
theorem FrW.kp {M M' : eM} (h : FrW M M') : Kp M M' := by
  refine ⟨⟨fun c k hk => h.1 c k ?_ ?_, h.2⟩, fun c k hc hk => h.1 c k (by omega) (by omega)⟩
  · have := isInv_in hk
    omega
  · have := isInv_in hk
    omega
def Ctx (M : eM) (c : Nat) (n : Nat → Nat) (v : Nat → Nat → Nat) (th : Nat) (o w : Nat → Nat) (q : Nat → Nat) (l t r : Nat → Nat → Nat) : Prop := pn_C M c n v th o w ∧ pn_L M n q l t r ∧ pn_Z M
theorem Ctx.kp {M M' : eM} {c : Nat} {n : Nat → Nat} {v : Nat → Nat → Nat} {th : Nat} {o w : Nat → Nat} {q : Nat → Nat} {l t r : Nat → Nat → Nat} (h : Ctx M c n v th o w q l t r) (k : Kp M M') : Ctx M' c n v th o w q l t r := ⟨h.1.scr k.1, h.2.1.scr k.1, fun j hj => ⟨(k.2 52 _ (Or.inl rfl) (by omega)).trans (h.2.2 j hj).1, (k.2 62 _ (Or.inr rfl) (by omega)).trans (h.2.2 j hj).2⟩⟩
/-- a query, each side by itself -/
theorem ea_qz {fx fm : eM → Option (Int32 × eM)} (h : ∀ M c n v th o w q l t r, Ctx M c n v th o w q l t r → ∃ x, (∃ M1, fx M = some (x, M1) ∧ Kp M M1) ∧ ∀ M1, Ctx M1 c n v th o w q l t r → ∃ M2, fm M1 = some (x, M2) ∧ Kp M1 M2) : ea_st InvZ fx fm := by
  intro M hM
  obtain ⟨c, n, v, th, o, w, len, q, l, t, r, h1, h2, h3, h4⟩ := hM.1
  obtain ⟨x, ⟨M1, e1, k1⟩, g⟩ := h M c n v th o w q l t r ⟨h1, h3, hM.2⟩
  obtain ⟨M2, e2, k2⟩ := g M1 (Ctx.kp ⟨h1, h3, hM.2⟩ k1)
  exact ⟨x, M1, M2, e1, e2, hM.kp (k1.trans k2)⟩
/-- what is known of a CELL: rows of a side, the hours more, three colours -/
def nth (S : List (Nat → Nat)) (i : Nat) : Nat → Nat := S.getD i (fun _ => 0)
theorem nth_l {S : List (Nat → Nat)} {x : Nat → Nat} {i : Nat} (h : i < S.length) : nth (S ++ [x]) i = nth S i := by
  unfold nth
  rw [List.getD_eq_getElem?_getD, List.getElem?_append_left h, ← List.getD_eq_getElem?_getD]
theorem nth_r {S : List (Nat → Nat)} {x : Nat → Nat} : nth (S ++ [x]) S.length = x := by
  unfold nth
  rw [List.getD_eq_getElem?_getD, List.getElem?_append_right (Nat.le_refl _), Nat.sub_self]
  rfl
def lw (l : Nat → Nat → Nat) (i side : Nat) : Nat → Nat := fun k => if k = 0 then side else if k = 1 then 0 else l i (1 + k)
def sg_look (l : Nat → Nat → Nat) (z : Option Nat) (side : Nat) : List (Nat → Nat) := match z with
  | none => []
  | some i => if l i 6 = 1 then [] else [lw l i side]
def rtp (r : Nat → Nat → Nat) (k known i : Nat) : Bool := decide (r i 0 ≤ known) && decide (r i 1 = k)
def tw (t r : Nat → Nat → Nat) (z : Option Nat) (k : Nat) : Nat → Nat := fun j => if j = 0 then 0 else if j = 1 then t k 2 else match z with
  | none => t k (1 + j)
  | some i => r i j
def sg_try (q : Nat → Nat) (t r : Nat → Nat → Nat) (cell known k : Nat) : List (Nat → Nat) := if t k 0 ≤ known then if t k 1 = cell then [tw t r (lst (rtp r k known) (q 2)) k] else [] else []
def sg_base (q : Nat → Nat) (l : Nat → Nat → Nat) (cell known : Nat) : List (Nat → Nat) := sg_look l (lst (lkp l cell 0 known) (q 0)) 0 ++ sg_look l (lst (lkp l cell 1 known) (q 0)) 1
def sg_upto (q : Nat → Nat) (l t r : Nat → Nat → Nat) (cell known : Nat) : Nat → List (Nat → Nat)
  | 0 => sg_base q l cell known
  | k + 1 => sg_upto q l t r cell known k ++ sg_try q t r cell known k
def sgs (q : Nat → Nat) (l t r : Nat → Nat → Nat) (cell known : Nat) : List (Nat → Nat) := sg_upto q l t r cell known (q 1)
theorem sg_look_len {l : Nat → Nat → Nat} {z : Option Nat} {side : Nat} : (sg_look l z side).length ≤ 1 := by
  unfold sg_look
  cases z with
  | none => exact Nat.zero_le _
  | some i =>
    show (if l i 6 = 1 then [] else [lw l i side]).length ≤ 1
    by_cases h : l i 6 = 1
    · rw [if_pos h]; exact Nat.zero_le _
    · rw [if_neg h]; exact Nat.le_refl _
theorem sg_try_len {q : Nat → Nat} {t r : Nat → Nat → Nat} {cell known k : Nat} : (sg_try q t r cell known k).length ≤ 1 := by
  unfold sg_try
  by_cases h : t k 0 ≤ known
  · rw [if_pos h]
    by_cases h2 : t k 1 = cell
    · rw [if_pos h2]; exact Nat.le_refl _
    · rw [if_neg h2]; exact Nat.zero_le _
  · rw [if_neg h]; exact Nat.zero_le _
theorem sg_upto_len {q : Nat → Nat} {l t r : Nat → Nat → Nat} {cell known : Nat} : ∀ k, (sg_upto q l t r cell known k).length ≤ 2 + k
  | 0 => by
    show (sg_look _ _ _ ++ sg_look _ _ _).length ≤ 2
    rw [List.length_append]
    have h1 := sg_look_len (l := l) (z := lst (lkp l cell 0 known) (q 0)) (side := 0)
    have h2 := sg_look_len (l := l) (z := lst (lkp l cell 1 known) (q 0)) (side := 1)
    omega
  | k + 1 => by
    show (sg_upto q l t r cell known k ++ sg_try q t r cell known k).length ≤ _
    rw [List.length_append]
    have h1 := sg_upto_len (q := q) (l := l) (t := t) (r := r) (cell := cell) (known := known) k
    have h2 := sg_try_len (q := q) (t := t) (r := r) (cell := cell) (known := known) (k := k)
    omega
/-- a row's bounds -/
def rok (x : Nat → Nat) : Prop := x 0 ≤ 1 ∧ x 1 ≤ 999 ∧ ∀ c, c < 3 → x (2 + c) ≤ 99
theorem lw_ok {q : Nat → Nat} {l t r : Nat → Nat → Nat} (hok : pn_Lok q l t r) {i side : Nat} (hi : i < q 0) (hs : side ≤ 1) : rok (lw l i side) := by
  refine ⟨hs, Nat.zero_le _, fun c hc => ?_⟩
  have := (hok.2.2.2.2.1 i hi).2.2.2.1 c hc
  show (if 2 + c = 0 then side else if 2 + c = 1 then 0 else l i (1 + (2 + c))) ≤ 99
  rw [if_neg (by omega), if_neg (by omega), show 1 + (2 + c) = 3 + c by omega]
  exact this
theorem lw_c {l : Nat → Nat → Nat} {i side c : Nat} : lw l i side (2 + c) = l i (3 + c) := by
  show (if 2 + c = 0 then side else if 2 + c = 1 then 0 else l i (1 + (2 + c))) = _
  rw [if_neg (by omega), if_neg (by omega), show 1 + (2 + c) = 3 + c by omega]
theorem tw_n {t r : Nat → Nat → Nat} {k c : Nat} : tw t r none k (2 + c) = t k (3 + c) := by
  show (if 2 + c = 0 then 0 else if 2 + c = 1 then t k 2 else t k (1 + (2 + c))) = _
  rw [if_neg (by omega), if_neg (by omega), show 1 + (2 + c) = 3 + c by omega]
theorem tw_s {t r : Nat → Nat → Nat} {k c i : Nat} : tw t r (some i) k (2 + c) = r i (2 + c) := by
  show (if 2 + c = 0 then 0 else if 2 + c = 1 then t k 2 else r i (2 + c)) = _
  rw [if_neg (by omega), if_neg (by omega)]
theorem tw_ok {q : Nat → Nat} {l t r : Nat → Nat → Nat} (hok : pn_Lok q l t r) {k : Nat} (hk : k < q 1) {z : Option Nat} (hz : ∀ i, z = some i → i < q 2) : rok (tw t r z k) := by
  have ht := hok.2.2.2.2.2.1 k hk
  refine ⟨Nat.zero_le _, ht.2.2.1.2, fun c hc => ?_⟩
  cases z with
  | none => rw [tw_n]; exact ht.2.2.2 c hc
  | some i => rw [tw_s]; exact (hok.2.2.2.2.2.2 i (hz i rfl)).2.2 c hc
theorem sg_upto_ok {q : Nat → Nat} {l t r : Nat → Nat → Nat} (hok : pn_Lok q l t r) {cell known : Nat} : ∀ k, k ≤ q 1 → ∀ x, x ∈ sg_upto q l t r cell known k → rok x := by
  have look : ∀ side, side ≤ 1 → ∀ x, x ∈ sg_look l (lst (lkp l cell side known) (q 0)) side → rok x := by
    intro side hs x hx
    cases hz : lst (lkp l cell side known) (q 0) with
    | none => rw [hz] at hx; exact absurd hx (List.not_mem_nil)
    | some i =>
      rw [hz] at hx
      have hx : x ∈ (if l i 6 = 1 then [] else [lw l i side]) := hx
      by_cases h : l i 6 = 1
      · rw [if_pos h] at hx; exact absurd hx (List.not_mem_nil)
      · rw [if_neg h] at hx
        rw [List.mem_singleton.mp hx]
        exact lw_ok hok (lst_lt hz).1 hs
  intro k
  induction k with
  | zero =>
    intro _ x hx
    rcases List.mem_append.mp hx with hx | hx
    · exact look 0 (by decide) x hx
    · exact look 1 (by decide) x hx
  | succ k ih =>
    intro hk x hx
    rcases List.mem_append.mp hx with hx | hx
    · exact ih (by omega) x hx
    · unfold sg_try at hx
      by_cases h : t k 0 ≤ known
      · rw [if_pos h] at hx
        by_cases h2 : t k 1 = cell
        · rw [if_pos h2] at hx
          rw [List.mem_singleton.mp hx]
          exact tw_ok hok (by omega) (fun i hi => (lst_lt hi).1)
        · rw [if_neg h2] at hx; exact absurd hx (List.not_mem_nil)
      · rw [if_neg h] at hx; exact absurd hx (List.not_mem_nil)
theorem nth_ok {S : List (Nat → Nat)} (h : ∀ x, x ∈ S → rok x) (i : Nat) : rok (nth S i) := by
  unfold nth
  rw [List.getD_eq_getElem?_getD]
  cases e : S[i]? with
  | none => exact ⟨Nat.zero_le _, Nat.zero_le _, fun _ _ => Nat.zero_le _⟩
  | some x => exact h x (List.mem_of_getElem? e)
/-- the class's sights -/
def GX (M : eM) (a : Nat) (S : List (Nat → Nat)) (sl : Nat) : Prop :=
  M.1 a 10 = nI S.length ∧ ∀ i, i < S.length → M.1 (a + 6) i = nI (nth S i 0) ∧ M.1 (a + 7) i = nI (nth S i 1) ∧ ∀ c, c < 3 → M.1 (a + 8) (i * 3 + c) = nI (99 - nth S i (2 + c)) - nI sl ∧ M.1 (a + 9) (i * 3 + c) = (if nth S i (2 + c) ≤ sl then 1000000 else nI (99 - nth S i (2 + c) + sl))
def alw (M : eM) (a i c s sl : Nat) : eM := ea_pI (ea_pI M (a + 8) (i * 3 + c) (nI (99 - s) - nI sl)) (a + 9) (i * 3 + c) (if s ≤ sl then 1000000 else nI (99 - s + sl))
def sgw (M : eM) (a i : Nat) (x : Nat → Nat) (sl : Nat) : eM := ea_pI (ea_pI (ea_pI (alw (alw (alw M a i 0 (x (2 + 0)) sl) a i 1 (x (2 + 1)) sl) a i 2 (x (2 + 2)) sl) (a + 6) i (nI (x 0))) (a + 7) i (nI (x 1))) a 10 (nI (i + 1))
theorem pn_lf {a : Nat} (h : pn_f a) : ea_len (a + 2) = 138 ∧ ea_len (a + 3) = 855 ∧ ea_len (a + 6) = 22 ∧ ea_len (a + 7) = 22 ∧ ea_len (a + 8) = 66 ∧ ea_len (a + 9) = 66 := by
  rcases h with rfl | rfl <;> exact ⟨rfl, rfl, rfl, rfl, rfl, rfl⟩
theorem alw_fr {M : eM} {a i c s sl : Nat} : FrF a M (alw M a i c s sl) := by
  refine ⟨fun d k hd => ?_, rfl⟩
  simp (disch := omega) only [ev_ck, ev_ci, ev_cv, ev_lt_, ↓reduceIte, ev_lens, ev_ix, ev_nz, ev_cl, ev_cll, ev_add, ev_addl, ev_ladd, ev_mul, ev_mull, ev_lmul, ev_sub, ev_subl, ev_lsub, ev_lt, ev_ltl, ev_llt, ev_le, ev_lel, ev_lle, ev_eq, ev_eql, ev_leq, ev_nm1, ev_nm5, ev_m1n, ev_neg1, ev_ltT, ev_ltF, ev_leT, ev_leF, ev_eqT, ev_eqF, ev_one0, ev_zero1, Nat.reduceAdd, Nat.reduceMul, Nat.reduceSub, ea_pI_eq, ev_pIn, ev_pIe, ea_pI_r, eq_self, alw]
theorem alw_10 {M : eM} {a i c s sl : Nat} : (alw M a i c s sl).1 a 10 = M.1 a 10 := by
  simp (disch := omega) only [ev_ck, ev_ci, ev_cv, ev_lt_, ↓reduceIte, ev_lens, ev_ix, ev_nz, ev_cl, ev_cll, ev_add, ev_addl, ev_ladd, ev_mul, ev_mull, ev_lmul, ev_sub, ev_subl, ev_lsub, ev_lt, ev_ltl, ev_llt, ev_le, ev_lel, ev_lle, ev_eq, ev_eql, ev_leq, ev_nm1, ev_nm5, ev_m1n, ev_neg1, ev_ltT, ev_ltF, ev_leT, ev_leF, ev_eqT, ev_eqF, ev_one0, ev_zero1, Nat.reduceAdd, Nat.reduceMul, Nat.reduceSub, ea_pI_eq, ev_pIn, ev_pIe, ea_pI_r, eq_self, alw]
theorem px_allow {M : eM} {a cc i c s sl : Nat} (ha : pn_f a) (hr : M.2.2 4 0 = cc) (hcc : pn_c cc) (hs : M.1 cc 2 = nI sl) (hsl : sl ≤ 20) (hi : M.1 a 10 = nI i) (h22 : i < 22) (hc : c < 3) (h99 : s ≤ 99) : fX3_allow a (nI c) (nI s) M = some (alw M a i c s sl) := by
  obtain ⟨-, -, -, -, l8, l9⟩ := pn_lf ha
  unfold fX3_allow fX3_allow_0
  rw [hr]
  by_cases h : s ≤ sl
  · simp (disch := omega) only [ev_ck, ev_ci, ev_cv, ev_lt_, ↓reduceIte, ev_lens, ev_ix, ev_nz, ev_cl, ev_cll, ev_add, ev_addl, ev_ladd, ev_mul, ev_mull, ev_lmul, ev_subl, ev_lsub, ev_lt, ev_ltl, ev_llt, ev_le, ev_lel, ev_lle, ev_eq, ev_eql, ev_leq, ev_nm1, ev_nm5, ev_m1n, ev_neg1, ev_ltT, ev_ltF, ev_leT, ev_leF, ev_eqT, ev_eqF, ev_one0, ev_zero1, Nat.reduceAdd, Nat.reduceMul, Nat.reduceSub, ea_pI_eq, ev_pIn, ev_pIe, ea_pI_r, eq_self, pn_is hcc, hs, hi, l8, l9, fX3_allow_67]
    unfold alw
    rw [if_pos h]
  · simp (disch := omega) only [ev_ck, ev_ci, ev_cv, ev_lt_, ↓reduceIte, ev_lens, ev_ix, ev_nz, ev_cl, ev_cll, ev_add, ev_addl, ev_ladd, ev_mul, ev_mull, ev_lmul, ev_subl, ev_lsub, ev_lt, ev_ltl, ev_llt, ev_le, ev_lel, ev_lle, ev_eq, ev_eql, ev_leq, ev_nm1, ev_nm5, ev_m1n, ev_neg1, ev_ltT, ev_ltF, ev_leT, ev_leF, ev_eqT, ev_eqF, ev_one0, ev_zero1, Nat.reduceAdd, Nat.reduceMul, Nat.reduceSub, ea_pI_eq, ev_pIn, ev_pIe, ea_pI_r, eq_self, pn_is hcc, hs, hi, l8, l9, fX3_allow_67]
    unfold alw
    rw [if_neg h]
theorem px_addSight {M : eM} {a i sd mr : Nat} (ha : pn_f a) (hi : M.1 a 10 = nI i) (h22 : i < 22) : fX3_addSight a (nI sd) (nI mr) M = some (ea_pI (ea_pI (ea_pI M (a + 6) i (nI sd)) (a + 7) i (nI mr)) a 10 (nI (i + 1))) := by
  obtain ⟨-, -, l6, l7, -, -⟩ := pn_lf ha
  unfold fX3_addSight fX3_addSight_0
  simp (disch := omega) only [ev_ck, ev_ci, ev_cv, ev_lt_, ↓reduceIte, ev_lens, ev_ix, ev_nz, ev_cl, ev_cll, ev_add, ev_addl, ev_ladd, ev_mul, ev_mull, ev_lmul, ev_sub, ev_subl, ev_lsub, ev_lt, ev_ltl, ev_llt, ev_le, ev_lel, ev_lle, ev_eq, ev_eql, ev_leq, ev_nm1, ev_nm5, ev_m1n, ev_neg1, ev_ltT, ev_ltF, ev_leT, ev_leF, ev_eqT, ev_eqF, ev_one0, ev_zero1, Nat.reduceAdd, Nat.reduceMul, Nat.reduceSub, ea_pI_eq, ev_pIn, ev_pIe, ea_pI_r, eq_self, hi, l6, l7]
theorem sgw_fr {M : eM} {a i sl : Nat} {x : Nat → Nat} : FrF a M (sgw M a i x sl) := by
  refine ⟨fun d k hd => ?_, rfl⟩
  simp (disch := omega) only [ev_ck, ev_ci, ev_cv, ev_lt_, ↓reduceIte, ev_lens, ev_ix, ev_nz, ev_cl, ev_cll, ev_add, ev_addl, ev_ladd, ev_mul, ev_mull, ev_lmul, ev_sub, ev_subl, ev_lsub, ev_lt, ev_ltl, ev_llt, ev_le, ev_lel, ev_lle, ev_eq, ev_eql, ev_leq, ev_nm1, ev_nm5, ev_m1n, ev_neg1, ev_ltT, ev_ltF, ev_leT, ev_leF, ev_eqT, ev_eqF, ev_one0, ev_zero1, Nat.reduceAdd, Nat.reduceMul, Nat.reduceSub, ea_pI_eq, ev_pIn, ev_pIe, ea_pI_r, eq_self, sgw, alw]
theorem sgw_gx {M : eM} {a sl : Nat} {S : List (Nat → Nat)} {x : Nat → Nat} (h : GX M a S sl) : GX (sgw M a S.length x sl) a (S ++ [x]) sl := by
  refine ⟨?_, fun i hi => ?_⟩
  · rw [List.length_append]
    simp (disch := omega) only [ev_ck, ev_ci, ev_cv, ev_lt_, ↓reduceIte, ev_lens, ev_ix, ev_nz, ev_cl, ev_cll, ev_add, ev_addl, ev_ladd, ev_mul, ev_mull, ev_lmul, ev_sub, ev_subl, ev_lsub, ev_lt, ev_ltl, ev_llt, ev_le, ev_lel, ev_lle, ev_eq, ev_eql, ev_leq, ev_nm1, ev_nm5, ev_m1n, ev_neg1, ev_ltT, ev_ltF, ev_leT, ev_leF, ev_eqT, ev_eqF, ev_one0, ev_zero1, Nat.reduceAdd, Nat.reduceMul, Nat.reduceSub, ea_pI_eq, ev_pIn, ev_pIe, ea_pI_r, eq_self, sgw]
    rfl
  · rw [List.length_append] at hi
    have hi : i < S.length + 1 := hi
    by_cases e : i < S.length
    · obtain ⟨g1, g2, g3⟩ := h.2 i e
      rw [nth_l e]
      refine ⟨?_, ?_, fun c hc => ⟨?_, ?_⟩⟩
      · rw [← g1]
        simp (disch := omega) only [ev_ck, ev_ci, ev_cv, ev_lt_, ↓reduceIte, ev_lens, ev_ix, ev_nz, ev_cl, ev_cll, ev_add, ev_addl, ev_ladd, ev_mul, ev_mull, ev_lmul, ev_sub, ev_subl, ev_lsub, ev_lt, ev_ltl, ev_llt, ev_le, ev_lel, ev_lle, ev_eq, ev_eql, ev_leq, ev_nm1, ev_nm5, ev_m1n, ev_neg1, ev_ltT, ev_ltF, ev_leT, ev_leF, ev_eqT, ev_eqF, ev_one0, ev_zero1, Nat.reduceAdd, Nat.reduceMul, Nat.reduceSub, ea_pI_eq, ev_pIn, ev_pIe, ea_pI_r, eq_self, sgw, alw]
      · rw [← g2]
        simp (disch := omega) only [ev_ck, ev_ci, ev_cv, ev_lt_, ↓reduceIte, ev_lens, ev_ix, ev_nz, ev_cl, ev_cll, ev_add, ev_addl, ev_ladd, ev_mul, ev_mull, ev_lmul, ev_sub, ev_subl, ev_lsub, ev_lt, ev_ltl, ev_llt, ev_le, ev_lel, ev_lle, ev_eq, ev_eql, ev_leq, ev_nm1, ev_nm5, ev_m1n, ev_neg1, ev_ltT, ev_ltF, ev_leT, ev_leF, ev_eqT, ev_eqF, ev_one0, ev_zero1, Nat.reduceAdd, Nat.reduceMul, Nat.reduceSub, ea_pI_eq, ev_pIn, ev_pIe, ea_pI_r, eq_self, sgw, alw]
      · rw [← (g3 c hc).1]
        simp (disch := omega) only [ev_ck, ev_ci, ev_cv, ev_lt_, ↓reduceIte, ev_lens, ev_ix, ev_nz, ev_cl, ev_cll, ev_add, ev_addl, ev_ladd, ev_mul, ev_mull, ev_lmul, ev_sub, ev_subl, ev_lsub, ev_lt, ev_ltl, ev_llt, ev_le, ev_lel, ev_lle, ev_eq, ev_eql, ev_leq, ev_nm1, ev_nm5, ev_m1n, ev_neg1, ev_ltT, ev_ltF, ev_leT, ev_leF, ev_eqT, ev_eqF, ev_one0, ev_zero1, Nat.reduceAdd, Nat.reduceMul, Nat.reduceSub, ea_pI_eq, ev_pIn, ev_pIe, ea_pI_r, eq_self, sgw, alw]
      · rw [← (g3 c hc).2]
        simp (disch := omega) only [ev_ck, ev_ci, ev_cv, ev_lt_, ↓reduceIte, ev_lens, ev_ix, ev_nz, ev_cl, ev_cll, ev_add, ev_addl, ev_ladd, ev_mul, ev_mull, ev_lmul, ev_sub, ev_subl, ev_lsub, ev_lt, ev_ltl, ev_llt, ev_le, ev_lel, ev_lle, ev_eq, ev_eql, ev_leq, ev_nm1, ev_nm5, ev_m1n, ev_neg1, ev_ltT, ev_ltF, ev_leT, ev_leF, ev_eqT, ev_eqF, ev_one0, ev_zero1, Nat.reduceAdd, Nat.reduceMul, Nat.reduceSub, ea_pI_eq, ev_pIn, ev_pIe, ea_pI_r, eq_self, sgw, alw]
    · obtain rfl : i = S.length := by omega
      rw [nth_r]
      refine ⟨?_, ?_, fun c hc => ?_⟩
      · simp (disch := omega) only [ev_ck, ev_ci, ev_cv, ev_lt_, ↓reduceIte, ev_lens, ev_ix, ev_nz, ev_cl, ev_cll, ev_add, ev_addl, ev_ladd, ev_mul, ev_mull, ev_lmul, ev_sub, ev_subl, ev_lsub, ev_lt, ev_ltl, ev_llt, ev_le, ev_lel, ev_lle, ev_eq, ev_eql, ev_leq, ev_nm1, ev_nm5, ev_m1n, ev_neg1, ev_ltT, ev_ltF, ev_leT, ev_leF, ev_eqT, ev_eqF, ev_one0, ev_zero1, Nat.reduceAdd, Nat.reduceMul, Nat.reduceSub, ea_pI_eq, ev_pIn, ev_pIe, ea_pI_r, eq_self, sgw]
      · simp (disch := omega) only [ev_ck, ev_ci, ev_cv, ev_lt_, ↓reduceIte, ev_lens, ev_ix, ev_nz, ev_cl, ev_cll, ev_add, ev_addl, ev_ladd, ev_mul, ev_mull, ev_lmul, ev_sub, ev_subl, ev_lsub, ev_lt, ev_ltl, ev_llt, ev_le, ev_lel, ev_lle, ev_eq, ev_eql, ev_leq, ev_nm1, ev_nm5, ev_m1n, ev_neg1, ev_ltT, ev_ltF, ev_leT, ev_leF, ev_eqT, ev_eqF, ev_one0, ev_zero1, Nat.reduceAdd, Nat.reduceMul, Nat.reduceSub, ea_pI_eq, ev_pIn, ev_pIe, ea_pI_r, eq_self, sgw]
      · rcases (show c = 0 ∨ c = 1 ∨ c = 2 by omega) with rfl | rfl | rfl
        · refine ⟨?_, ?_⟩ <;> simp (disch := omega) only [ev_ck, ev_ci, ev_cv, ev_lt_, ↓reduceIte, ev_lens, ev_ix, ev_nz, ev_cl, ev_cll, ev_add, ev_addl, ev_ladd, ev_mul, ev_mull, ev_lmul, ev_sub, ev_subl, ev_lsub, ev_lt, ev_ltl, ev_llt, ev_le, ev_lel, ev_lle, ev_eq, ev_eql, ev_leq, ev_nm1, ev_nm5, ev_m1n, ev_neg1, ev_ltT, ev_ltF, ev_leT, ev_leF, ev_eqT, ev_eqF, ev_one0, ev_zero1, Nat.reduceMul, Nat.reduceSub, ea_pI_eq, ev_pIn, ev_pIe, ea_pI_r, eq_self, sgw, alw]
        · refine ⟨?_, ?_⟩ <;> simp (disch := omega) only [ev_ck, ev_ci, ev_cv, ev_lt_, ↓reduceIte, ev_lens, ev_ix, ev_nz, ev_cl, ev_cll, ev_add, ev_addl, ev_ladd, ev_mul, ev_mull, ev_lmul, ev_sub, ev_subl, ev_lsub, ev_lt, ev_ltl, ev_llt, ev_le, ev_lel, ev_lle, ev_eq, ev_eql, ev_leq, ev_nm1, ev_nm5, ev_m1n, ev_neg1, ev_ltT, ev_ltF, ev_leT, ev_leF, ev_eqT, ev_eqF, ev_one0, ev_zero1, Nat.reduceMul, Nat.reduceSub, ea_pI_eq, ev_pIn, ev_pIe, ea_pI_r, eq_self, sgw, alw]
        · refine ⟨?_, ?_⟩ <;> simp (disch := omega) only [ev_ck, ev_ci, ev_cv, ev_lt_, ↓reduceIte, ev_lens, ev_ix, ev_nz, ev_cl, ev_cll, ev_add, ev_addl, ev_ladd, ev_mul, ev_mull, ev_lmul, ev_sub, ev_subl, ev_lsub, ev_lt, ev_ltl, ev_llt, ev_le, ev_lel, ev_lle, ev_eq, ev_eql, ev_leq, ev_nm1, ev_nm5, ev_m1n, ev_neg1, ev_ltT, ev_ltF, ev_leT, ev_leF, ev_eqT, ev_eqF, ev_one0, ev_zero1, Nat.reduceMul, Nat.reduceSub, ea_pI_eq, ev_pIn, ev_pIe, ea_pI_r, eq_self, sgw, alw]
section GT
variable {M : eM} {cc th : Nat} {n : Nat → Nat} {v : Nat → Nat → Nat} {o w q : Nat → Nat} {l t r : Nat → Nat → Nat}
theorem px_rightL (hok : pn_Lok q l t r) (h : pn_LX M 30 q l t r) {k known : Nat} (hk : k < 1000) (hn : known < 1000) : fX8_latestRight 30 (nI k) (nI known) M = some (enc id (lst (rtp r k known) (q 2)), M) := by
  have hq := hok.2.2.1
  have lp : ∀ (f j : Nat), j < f → j ≤ q 2 → fX8_latestRight_7 30 f (nI k) (nI known) (nI j - 1) M = some (enc id (lst (rtp r k known) j), M) := by
    intro f
    induction f with
    | zero => intro j h1; omega
    | succ f ih =>
      intro j h1 h2
      match j with
      | 0 => rw [fX8_latestRight_7, if_pos (by decide)]; rfl
      | j + 1 =>
        obtain ⟨b0, b1, -⟩ := hok.2.2.2.2.2.2 j (by omega)
        obtain ⟨g0, g1, -⟩ := h.2.2.2 j (by omega)
        have nx : fX8_latestRight_41 (fX8_latestRight_7 30 f) 30 (nI k) (nI known) (nI j) M = some (enc id (lst (rtp r k known) j), M) := by
          unfold fX8_latestRight_41
          rw [pz_m1]
          exact ih j (by omega) (by omega)
        have el : lst (rtp r k known) (j + 1) = if rtp r k known j = true then some j else lst (rtp r k known) j := rfl
        rw [nI_pred, el]
        by_cases c0 : r j 0 ≤ known
        · by_cases c1 : r j 1 = k
          · have e : rtp r k known j = true := by simp [rtp, c0, c1]
            simp (disch := omega) only [ev_ck, ev_ci, ev_cv, ev_lt_, ↓reduceIte, ev_lens, ev_ix, ev_nz, ev_cl, ev_cll, ev_add, ev_addl, ev_ladd, ev_mul, ev_mull, ev_lmul, ev_sub, ev_subl, ev_lsub, ev_lt, ev_ltl, ev_llt, ev_le, ev_lel, ev_lle, ev_eq, ev_eql, ev_leq, ev_nm1, ev_nm5, ev_m1n, ev_neg1, ev_ltT, ev_ltF, ev_leT, ev_leF, ev_eqT, ev_eqF, ev_one0, ev_zero1, Nat.reduceAdd, Nat.reduceMul, Nat.reduceSub, ea_pI_eq, ev_pIn, ev_pIe, ea_pI_r, eq_self, fX8_latestRight_7, Nat.mul_comm j 6, g0, g1, e]
            rfl
          · have e : rtp r k known j = false := by simp [rtp, c1]
            simp (disch := omega) only [ev_ck, ev_ci, ev_cv, ev_lt_, ↓reduceIte, ev_lens, ev_ix, ev_nz, ev_cl, ev_cll, ev_add, ev_addl, ev_ladd, ev_mul, ev_mull, ev_lmul, ev_sub, ev_subl, ev_lsub, ev_lt, ev_ltl, ev_llt, ev_le, ev_lel, ev_lle, ev_eq, ev_eql, ev_leq, ev_nm1, ev_nm5, ev_m1n, ev_neg1, ev_ltT, ev_ltF, ev_leT, ev_leF, ev_eqT, ev_eqF, ev_one0, ev_zero1, Nat.reduceAdd, Nat.reduceMul, Nat.reduceSub, ea_pI_eq, ev_pIn, ev_pIe, ea_pI_r, eq_self, fX8_latestRight_7, Nat.mul_comm j 6, g0, g1, e, nx, Bool.false_eq_true]
        · have e : rtp r k known j = false := by simp [rtp, c0]
          simp (disch := omega) only [ev_ck, ev_ci, ev_cv, ev_lt_, ↓reduceIte, ev_lens, ev_ix, ev_nz, ev_cl, ev_cll, ev_add, ev_addl, ev_ladd, ev_mul, ev_mull, ev_lmul, ev_sub, ev_subl, ev_lsub, ev_lt, ev_ltl, ev_llt, ev_le, ev_lel, ev_lle, ev_eq, ev_eql, ev_leq, ev_nm1, ev_nm5, ev_m1n, ev_neg1, ev_ltT, ev_ltF, ev_leT, ev_leF, ev_eqT, ev_eqF, ev_one0, ev_zero1, Nat.reduceAdd, Nat.reduceMul, Nat.reduceSub, ea_pI_eq, ev_pIn, ev_pIe, ea_pI_r, eq_self, fX8_latestRight_7, Nat.mul_comm j 6, g0, g1, e, nx, Bool.false_eq_true]
  unfold fX8_latestRight fX8_latestRight_0
  rw [h.1.2.2.1]
  exact lp ea_N (q 2) (by unfold ea_N; omega) (Nat.le_refl _)
theorem px_triedS (hok : pn_Lok q l t r) (h : pn_LX M 30 q l t r) {k known c : Nat} (hk : k < q 1) (hn : known < 1000) (hc : c < 3) : fX8_triedShade 30 (nI k) (nI known) (nI c) M = some (nI (tw t r (lst (rtp r k known) (q 2)) k (2 + c)), M) := by
  have hq1 := hok.2.1
  have hq2 := hok.2.2.1
  unfold fX8_triedShade fX8_triedShade_0
  rw [px_rightL hok h (by omega) hn]
  cases hz : lst (rtp r k known) (q 2) with
  | none =>
    have g := h.2.2.1 k (3 + c) hk (by omega)
    rw [tw_n]
    show ea_ci (some (-1, M)) _ = _
    simp (disch := omega) only [ev_ck, ev_ci, ev_cv, ev_lt_, ↓reduceIte, ev_lens, ev_ix, ev_nz, ev_cl, ev_cll, ev_add, ev_addl, ev_ladd, ev_mul, ev_mull, ev_lmul, ev_sub, ev_subl, ev_lsub, ev_lt, ev_ltl, ev_llt, ev_le, ev_lel, ev_lle, ev_eq, ev_eql, ev_leq, ev_nm1, ev_nm5, ev_m1n, ev_neg1, ev_ltT, ev_ltF, ev_leT, ev_leF, ev_eqT, ev_eqF, ev_one0, ev_zero1, Nat.reduceAdd, Nat.reduceMul, Nat.reduceSub, ea_pI_eq, ev_pIn, ev_pIe, ea_pI_r, eq_self, Nat.mul_comm k 6, Nat.add_assoc, g]
  | some i =>
    have hi := (lst_lt hz).1
    have g := (h.2.2.2 i hi).2.2 c hc
    rw [tw_s]
    show ea_ci (some (nI i, M)) _ = _
    simp (disch := omega) only [ev_ck, ev_ci, ev_cv, ev_lt_, ↓reduceIte, ev_lens, ev_ix, ev_nz, ev_cl, ev_cll, ev_add, ev_addl, ev_ladd, ev_mul, ev_mull, ev_lmul, ev_sub, ev_subl, ev_lsub, ev_lt, ev_ltl, ev_llt, ev_le, ev_lel, ev_lle, ev_eq, ev_eql, ev_leq, ev_nm1, ev_nm5, ev_m1n, ev_neg1, ev_ltT, ev_ltF, ev_leT, ev_leF, ev_eqT, ev_eqF, ev_one0, ev_zero1, Nat.reduceAdd, Nat.reduceMul, Nat.reduceSub, ea_pI_eq, ev_pIn, ev_pIe, ea_pI_r, eq_self, Nat.mul_comm i 6, Nat.add_assoc, g]
end GT
