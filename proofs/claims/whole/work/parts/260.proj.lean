/-- what an EYE's sense sees of one light: E takes, F the front, ten times so many steps -/
def ptv (E : Nat → Nat → Nat) (F : Nat → Nat) (k c j : Nat) : Nat := E k c * (F c * j * 10 / 100)
def wtv (E : Nat → Nat → Nat) (G : Nat → Nat) (k : Nat) : Nat → Nat
  | 0 => 0
  | c + 1 => wtv E G k c + E k c * G c
def see (E : Nat → Nat → Nat) (F : Nat → Nat) (a b c k : Nat) : Nat := ptv E F k 0 a + ptv E F k 1 b + ptv E F k 2 c
def dif (x y : Nat) : Nat := if x < y then y - x else x - y
def mx2 (x y : Nat) : Nat := if y ≤ x then x else y
def mis (E : Nat → Nat → Nat) (F G : Nat → Nat) (a b c : Nat) : Nat := mx2 (mx2 (mx2 0 (dif (see E F a b c 0) (wtv E G 0 3))) (dif (see E F a b c 1) (wtv E G 1 3))) (dif (see E F a b c 2) (wtv E G 2 3))
def pok (E : Nat → Nat → Nat) (F G : Nat → Nat) : Prop := (∀ k c, k < 3 → c < 3 → E k c ≤ 9) ∧ (∀ c, c < 3 → F c ≤ 99) ∧ ∀ c, c < 3 → G c ≤ 99
theorem ptv_le {E : Nat → Nat → Nat} {F G : Nat → Nat} (h : pok E F G) {k c j : Nat} (hk : k < 3) (hc : c < 3) (hj : j ≤ 20) : F c * j * 10 ≤ 19800 ∧ ptv E F k c j ≤ 1782 := by
  have h1 : F c * j ≤ 99 * 20 := Nat.mul_le_mul (h.2.1 c hc) hj
  have h2 : F c * j * 10 / 100 ≤ 198 := by omega
  have h3 : E k c * (F c * j * 10 / 100) ≤ 9 * 198 := Nat.mul_le_mul (h.1 k c hk hc) h2
  exact ⟨by omega, h3⟩
theorem wtv_le {E : Nat → Nat → Nat} {F G : Nat → Nat} (h : pok E F G) {k : Nat} (hk : k < 3) : ∀ c, c ≤ 3 → wtv E G k c ≤ c * 891
  | 0, _ => Nat.zero_le _
  | c + 1, hc => by
    have ih := wtv_le h hk c (by omega)
    have h3 : E k c * G c ≤ 9 * 99 := Nat.mul_le_mul (h.1 k c hk (by omega)) (h.2.2 c (by omega))
    show wtv E G k c + E k c * G c ≤ _
    omega
theorem see_le {E : Nat → Nat → Nat} {F G : Nat → Nat} (h : pok E F G) {a b c k : Nat} (hk : k < 3) (ha : a ≤ 20) (hb : b ≤ 20) (hc : c ≤ 20) : see E F a b c k ≤ 5346 := by
  have h1 := (ptv_le h hk (c := 0) (by decide) ha).2
  have h2 := (ptv_le h hk (c := 1) (by decide) hb).2
  have h3 := (ptv_le h hk (c := 2) (by decide) hc).2
  unfold see
  omega
theorem ptv_mono {E : Nat → Nat → Nat} {F : Nat → Nat} {k c j j' : Nat} (h : j ≤ j') : ptv E F k c j ≤ ptv E F k c j' := by
  unfold ptv
  refine Nat.mul_le_mul_left _ (Nat.div_le_div_right (Nat.mul_le_mul_right _ (Nat.mul_le_mul_left _ h)))
theorem dif_le {x y m : Nat} (hx : x ≤ m) (hy : y ≤ m) : dif x y ≤ m := by
  unfold dif
  by_cases h : x < y
  · rw [if_pos h]; omega
  · rw [if_neg h]; omega
theorem mx2_le {x y m : Nat} (hx : x ≤ m) (hy : y ≤ m) : mx2 x y ≤ m := by
  unfold mx2
  by_cases h : y ≤ x
  · rw [if_pos h]; exact hx
  · rw [if_neg h]; exact hy
theorem mx2_l {x y : Nat} : x ≤ mx2 x y := by
  unfold mx2
  by_cases h : y ≤ x
  · rw [if_pos h]; exact Nat.le_refl _
  · rw [if_neg h]; omega
theorem mx2_r {x y : Nat} : y ≤ mx2 x y := by
  unfold mx2
  by_cases h : y ≤ x
  · rw [if_pos h]; exact h
  · rw [if_neg h]; exact Nat.le_refl _
theorem mis_k {E : Nat → Nat → Nat} {F G : Nat → Nat} {a b c k : Nat} (hk : k < 3) : dif (see E F a b c k) (wtv E G k 3) ≤ mis E F G a b c := by
  unfold mis
  rcases (show k = 0 ∨ k = 1 ∨ k = 2 by omega) with rfl | rfl | rfl
  · exact Nat.le_trans mx2_r (Nat.le_trans mx2_l mx2_l)
  · exact Nat.le_trans mx2_r mx2_l
  · exact mx2_r
theorem mis_le {E : Nat → Nat → Nat} {F G : Nat → Nat} (h : pok E F G) {a b c : Nat} (ha : a ≤ 20) (hb : b ≤ 20) (hc : c ≤ 20) : mis E F G a b c ≤ 5346 := by
  have key : ∀ k, k < 3 → dif (see E F a b c k) (wtv E G k 3) ≤ 5346 := fun k hk => dif_le (see_le h hk ha hb hc) (Nat.le_trans (wtv_le h hk 3 (by decide)) (by decide))
  exact mx2_le (mx2_le (mx2_le (Nat.zero_le _) (key 0 (by decide))) (key 1 (by decide))) (key 2 (by decide))
/-- the best light so far: what it misses, and its three steps -/
def upg (E : Nat → Nat → Nat) (F G : Nat → Nat) (a b c : Nat) (st : Option (Nat × Nat × Nat × Nat)) : Option (Nat × Nat × Nat × Nat) := match st with
  | none => some (mis E F G a b c, a, b, c)
  | some (m, a', b', c') => if mis E F G a b c < m ∨ (mis E F G a b c = m ∧ a + b + c < a' + b' + c') then some (mis E F G a b c, a, b, c) else some (m, a', b', c')
def fdc (E : Nat → Nat → Nat) (F G : Nat → Nat) (a b : Nat) (st : Option (Nat × Nat × Nat × Nat)) : Nat → Option (Nat × Nat × Nat × Nat)
  | 0 => st
  | c + 1 => upg E F G a b c (fdc E F G a b st c)
def fdb (E : Nat → Nat → Nat) (F G : Nat → Nat) (C a : Nat) (st : Option (Nat × Nat × Nat × Nat)) : Nat → Option (Nat × Nat × Nat × Nat)
  | 0 => st
  | b + 1 => fdc E F G a b (fdb E F G C a st b) (C + 1)
def fda (E : Nat → Nat → Nat) (F G : Nat → Nat) (B C : Nat) : Nat → Option (Nat × Nat × Nat × Nat)
  | 0 => none
  | a + 1 => fdb E F G C a (fda E F G B C a) (B + 1)
def sok (st : Option (Nat × Nat × Nat × Nat)) : Prop := match st with
  | none => True
  | some (m, a, b, c) => m ≤ 5346 ∧ a ≤ 20 ∧ b ≤ 20 ∧ c ≤ 20
theorem upg_ok {E : Nat → Nat → Nat} {F G : Nat → Nat} (h : pok E F G) {a b c : Nat} (ha : a ≤ 20) (hb : b ≤ 20) (hc : c ≤ 20) {st : Option (Nat × Nat × Nat × Nat)} (hs : sok st) : sok (upg E F G a b c st) := by
  have hm := mis_le h ha hb hc
  match st with
  | none => exact ⟨hm, ha, hb, hc⟩
  | some (m, a', b', c') =>
    show sok (if _ then _ else _)
    by_cases q : mis E F G a b c < m ∨ (mis E F G a b c = m ∧ a + b + c < a' + b' + c')
    · rw [if_pos q]; exact ⟨hm, ha, hb, hc⟩
    · rw [if_neg q]; exact hs
theorem fdc_ok {E : Nat → Nat → Nat} {F G : Nat → Nat} (h : pok E F G) {a b : Nat} (ha : a ≤ 20) (hb : b ≤ 20) {st : Option (Nat × Nat × Nat × Nat)} (hs : sok st) : ∀ c, c ≤ 21 → sok (fdc E F G a b st c)
  | 0, _ => hs
  | c + 1, hc => upg_ok h ha hb (by omega) (fdc_ok h ha hb hs c (by omega))
theorem fdb_ok {E : Nat → Nat → Nat} {F G : Nat → Nat} (h : pok E F G) {C a : Nat} (hC : C ≤ 20) (ha : a ≤ 20) {st : Option (Nat × Nat × Nat × Nat)} (hs : sok st) : ∀ b, b ≤ 21 → sok (fdb E F G C a st b)
  | 0, _ => hs
  | b + 1, hb => fdc_ok h ha (by omega) (fdb_ok h hC ha hs b (by omega)) _ (by omega)
theorem fda_ok {E : Nat → Nat → Nat} {F G : Nat → Nat} (h : pok E F G) {B C : Nat} (hB : B ≤ 20) (hC : C ≤ 20) : ∀ a, a ≤ 21 → sok (fda E F G B C a)
  | 0, _ => trivial
  | a + 1, ha => fdb_ok h hC (by omega) (fda_ok h hB hC a (by omega)) _ (by omega)
/-- where nothing of the third light can do as well, all of it is passed over -/
def mvv (st : Option (Nat × Nat × Nat × Nat)) : Nat := match st with
  | none => 1000000
  | some (m, _) => m
def svv (st : Option (Nat × Nat × Nat × Nat)) : Nat := match st with
  | none => 1000000
  | some (_, a, b, c) => a + b + c
theorem fdc_skip {E : Nat → Nat → Nat} {F G : Nat → Nat} (h : pok E F G) {a b : Nat} (ha : a ≤ 20) (hb : b ≤ 20) {st : Option (Nat × Nat × Nat × Nat)} : ∀ k, k ≤ 21 → (∀ c, c < k → mvv st < mis E F G a b c) → fdc E F G a b st k = st
  | 0, _, _ => rfl
  | k + 1, hk, hm => by
    show upg E F G a b k (fdc E F G a b st k) = st
    rw [fdc_skip h ha hb k (by omega) (fun c hc => hm c (by omega))]
    have h1 := hm k (by omega)
    have h2 := mis_le h ha hb (show k ≤ 20 by omega)
    match st with
    | none =>
      have h1 : 1000000 < mis E F G a b k := h1
      omega
    | some (m, a', b', c') =>
      have h1 : m < mis E F G a b k := h1
      show (if _ then _ else _) = _
      rw [if_neg (by omega)]
/-- the class's rows for one EYE -/
def S77 (M : eM) (E : Nat → Nat → Nat) (F G : Nat → Nat) : Prop := (∀ k, k < 3 → M.1 76 k = nI (wtv E G k 3)) ∧ ∀ k c j, k < 3 → c < 3 → j < 21 → M.1 77 ((c * 21 + j) * 3 + k) = nI (ptv E F k c j)
def S72 (M : eM) (st : Option (Nat × Nat × Nat × Nat)) : Prop := M.1 72 3 = nI (mvv st) ∧ M.1 72 6 = nI (svv st) ∧ match st with
  | none => True
  | some (_, a, b, c) => M.1 75 0 = nI (a * 10) ∧ M.1 75 1 = nI (b * 10) ∧ M.1 75 2 = nI (c * 10)
/-- the frame of a search: light, missed and least sum alone -/
def FrP (M M' : eM) : Prop := (∀ c k, c ≠ 75 → (c ≠ 72 ∨ (k ≠ 3 ∧ k ≠ 6)) → M'.1 c k = M.1 c k) ∧ M'.2.2 = M.2.2
theorem FrP.trans {A B D : eM} (h : FrP A B) (g : FrP B D) : FrP A D := ⟨fun c k p q => (g.1 c k p q).trans (h.1 c k p q), g.2.trans h.2⟩
theorem S77.fr {M M' : eM} {E : Nat → Nat → Nat} {F G : Nat → Nat} (h : S77 M E F G) (f : FrP M M') : S77 M' E F G := ⟨fun k hk => by rw [f.1 _ _ (by omega) (by omega)]; exact h.1 k hk, fun k c j a b d => by rw [f.1 _ _ (by omega) (by omega)]; exact h.2 k c j a b d⟩
section PJ
variable {M : eM} {E : Nat → Nat → Nat} {F G : Nat → Nat}
theorem px_weigh (h : pok E F G) (hS : S77 M E F G) {a b c : Nat} (ha : a ≤ 20) (hb : b ≤ 20) (hc : c ≤ 20) {st : Option (Nat × Nat × Nat × Nat)} (hs : S72 M st) (hso : sok st) : ∃ M', fX6_weigh (nI a) (nI b) (nI c) M = some M' ∧ S72 M' (upg E F G a b c st) ∧ FrP M M' := by
  have stp : ∀ (k x : Nat) (f : Nat), k < 3 → x ≤ 5346 → fX6_weigh_27 fX6_weigh_93 (f + 1) (nI a) (nI b) (nI c) (nI ((0 * 21 + a) * 3)) (nI ((1 * 21 + b) * 3)) (nI ((2 * 21 + c) * 3)) (nI x) (nI k) M = fX6_weigh_27 fX6_weigh_93 f (nI a) (nI b) (nI c) (nI ((0 * 21 + a) * 3)) (nI ((1 * 21 + b) * 3)) (nI ((2 * 21 + c) * 3)) (nI (mx2 x (dif (see E F a b c k) (wtv E G k 3)))) (nI (k + 1)) M := by
    intro k x f hk hx
    have p0 := hS.2 k 0 a hk (by decide) (by omega)
    have p1 := hS.2 k 1 b hk (by decide) (by omega)
    have p2 := hS.2 k 2 c hk (by decide) (by omega)
    have w := hS.1 k hk
    have q0 := (ptv_le h hk (c := 0) (by decide) ha).2
    have q1 := (ptv_le h hk (c := 1) (by decide) hb).2
    have q2 := (ptv_le h hk (c := 2) (by decide) hc).2
    have wl := wtv_le h hk 3 (by decide)
    have ab : ea_abs (nI (ptv E F k 0 a + ptv E F k 1 b + ptv E F k 2 c) - nI (wtv E G k 3)) = nI (dif (see E F a b c k) (wtv E G k 3)) := ev_abs (by omega) (by omega)
    have dl : dif (see E F a b c k) (wtv E G k 3) ≤ 5346 := dif_le (see_le h hk ha hb hc) (by omega)
    have mm : ea_max (nI x) (nI (dif (see E F a b c k) (wtv E G k 3))) = nI (mx2 x (dif (see E F a b c k) (wtv E G k 3))) := ev_max (by omega) (by omega)
    rw [fX6_weigh_27]
    simp (disch := omega) only [ev_ck, ev_ci, ev_cv, ev_lt_, ↓reduceIte, ev_lens, ev_ix, ev_nz, ev_cl, ev_cll, ev_add, ev_addl, ev_ladd, ev_mul, ev_mull, ev_lmul, ev_subl, ev_lsub, ev_lt, ev_ltl, ev_llt, ev_le, ev_lel, ev_lle, ev_eq, ev_eql, ev_leq, ev_nm1, ev_nm5, ev_m1n, ev_neg1, ev_ltT, ev_ltF, ev_leT, ev_leF, ev_eqT, ev_eqF, ev_one0, ev_zero1, Nat.reduceAdd, Nat.reduceSub, ea_pI_eq, ev_pIn, ev_pIe, ea_pI_r, eq_self, p0, p1, p2, w]
    rw [ab, mm]
  have d0 : dif (see E F a b c 0) (wtv E G 0 3) ≤ 5346 := dif_le (see_le h (by decide) ha hb hc) (Nat.le_trans (wtv_le h (by decide) 3 (by decide)) (by decide))
  have d1 : dif (see E F a b c 1) (wtv E G 1 3) ≤ 5346 := dif_le (see_le h (by decide) ha hb hc) (Nat.le_trans (wtv_le h (by decide) 3 (by decide)) (by decide))
  have m0 : mx2 0 (dif (see E F a b c 0) (wtv E G 0 3)) ≤ 5346 := mx2_le (Nat.zero_le _) d0
  have m1 := mx2_le m0 d1
  have hm := mis_le h ha hb hc
  have run : fX6_weigh (nI a) (nI b) (nI c) M = fX6_weigh_93 (nI a) (nI b) (nI c) (nI (mis E F G a b c)) M := by
    unfold fX6_weigh fX6_weigh_0 fX6_placeOf fX6_placeOf_0
    have e0 : ((0 : Int32) * 21 + nI a) * 3 = nI ((0 * 21 + a) * 3) := by rw [show (0 : Int32) * 21 = nI (0 * 21) from rfl, ev_add, show (3 : Int32) = nI 3 from rfl, ev_mul]
    have e1 : ((1 : Int32) * 21 + nI b) * 3 = nI ((1 * 21 + b) * 3) := by rw [show (1 : Int32) * 21 = nI (1 * 21) from rfl, ev_add, show (3 : Int32) = nI 3 from rfl, ev_mul]
    have e2 : ((2 : Int32) * 21 + nI c) * 3 = nI ((2 * 21 + c) * 3) := by rw [show (2 : Int32) * 21 = nI (2 * 21) from rfl, ev_add, show (3 : Int32) = nI 3 from rfl, ev_mul]
    rw [ev_ci, ev_ci, ev_ci, e0, e1, e2]
    show fX6_weigh_27 fX6_weigh_93 (99996 + 1 + 1 + 1 + 1) (nI a) (nI b) (nI c) (nI ((0 * 21 + a) * 3)) (nI ((1 * 21 + b) * 3)) (nI ((2 * 21 + c) * 3)) (nI 0) (nI 0) M = _
    rw [stp 0 0 _ (by decide) (by decide), stp 1 _ _ (by decide) m0, stp 2 _ _ (by decide) m1, fX6_weigh_27, if_pos (by decide)]
    rfl
  rw [run]
  have put : fX6_weigh_127 (nI a) (nI b) (nI c) (nI (mis E F G a b c)) (nI (a + b + c)) M = some (ea_pI (ea_pI (ea_pI (ea_pI (ea_pI M 72 3 (nI (mis E F G a b c))) 72 6 (nI (a + b + c))) 75 0 (nI (a * 10))) 75 1 (nI (b * 10))) 75 2 (nI (c * 10))) := by
    unfold fX6_weigh_127
    simp (disch := omega) only [ev_ck, ev_ci, ev_cv, ev_lt_, ↓reduceIte, ev_lens, ev_ix, ev_nz, ev_cl, ev_cll, ev_add, ev_addl, ev_ladd, ev_mul, ev_mull, ev_lmul, ev_sub, ev_subl, ev_lsub, ev_lt, ev_ltl, ev_llt, ev_le, ev_lel, ev_lle, ev_eq, ev_eql, ev_leq, ev_nm1, ev_nm5, ev_m1n, ev_neg1, ev_ltT, ev_ltF, ev_leT, ev_leF, ev_eqT, ev_eqF, ev_one0, ev_zero1, Nat.reduceAdd, Nat.reduceMul, Nat.reduceSub, ea_pI_eq, ev_pIn, ev_pIe, ea_pI_r, eq_self]
  have res : S72 (ea_pI (ea_pI (ea_pI (ea_pI (ea_pI M 72 3 (nI (mis E F G a b c))) 72 6 (nI (a + b + c))) 75 0 (nI (a * 10))) 75 1 (nI (b * 10))) 75 2 (nI (c * 10))) (some (mis E F G a b c, a, b, c)) := by
    refine ⟨?_, ?_, ?_, ?_, ?_⟩
    · simp (disch := omega) only [ev_ck, ev_ci, ev_cv, ev_lt_, ↓reduceIte, ev_lens, ev_ix, ev_nz, ev_cl, ev_cll, ev_add, ev_addl, ev_ladd, ev_mul, ev_mull, ev_lmul, ev_sub, ev_subl, ev_lsub, ev_lt, ev_ltl, ev_llt, ev_le, ev_lel, ev_lle, ev_eq, ev_eql, ev_leq, ev_nm1, ev_nm5, ev_m1n, ev_neg1, ev_ltT, ev_ltF, ev_leT, ev_leF, ev_eqT, ev_eqF, ev_one0, ev_zero1, Nat.reduceAdd, Nat.reduceMul, Nat.reduceSub, ea_pI_eq, ev_pIn, ev_pIe, ea_pI_r, eq_self]; rfl
    · simp (disch := omega) only [ev_ck, ev_ci, ev_cv, ev_lt_, ↓reduceIte, ev_lens, ev_ix, ev_nz, ev_cl, ev_cll, ev_add, ev_addl, ev_ladd, ev_mul, ev_mull, ev_lmul, ev_sub, ev_subl, ev_lsub, ev_lt, ev_ltl, ev_llt, ev_le, ev_lel, ev_lle, ev_eq, ev_eql, ev_leq, ev_nm1, ev_nm5, ev_m1n, ev_neg1, ev_ltT, ev_ltF, ev_leT, ev_leF, ev_eqT, ev_eqF, ev_one0, ev_zero1, Nat.reduceAdd, Nat.reduceMul, Nat.reduceSub, ea_pI_eq, ev_pIn, ev_pIe, ea_pI_r, eq_self]; rfl
    · simp (disch := omega) only [ev_ck, ev_ci, ev_cv, ev_lt_, ↓reduceIte, ev_lens, ev_ix, ev_nz, ev_cl, ev_cll, ev_add, ev_addl, ev_ladd, ev_mul, ev_mull, ev_lmul, ev_sub, ev_subl, ev_lsub, ev_lt, ev_ltl, ev_llt, ev_le, ev_lel, ev_lle, ev_eq, ev_eql, ev_leq, ev_nm1, ev_nm5, ev_m1n, ev_neg1, ev_ltT, ev_ltF, ev_leT, ev_leF, ev_eqT, ev_eqF, ev_one0, ev_zero1, Nat.reduceAdd, Nat.reduceMul, Nat.reduceSub, ea_pI_eq, ev_pIn, ev_pIe, ea_pI_r, eq_self]
    · simp (disch := omega) only [ev_ck, ev_ci, ev_cv, ev_lt_, ↓reduceIte, ev_lens, ev_ix, ev_nz, ev_cl, ev_cll, ev_add, ev_addl, ev_ladd, ev_mul, ev_mull, ev_lmul, ev_sub, ev_subl, ev_lsub, ev_lt, ev_ltl, ev_llt, ev_le, ev_lel, ev_lle, ev_eq, ev_eql, ev_leq, ev_nm1, ev_nm5, ev_m1n, ev_neg1, ev_ltT, ev_ltF, ev_leT, ev_leF, ev_eqT, ev_eqF, ev_one0, ev_zero1, Nat.reduceAdd, Nat.reduceMul, Nat.reduceSub, ea_pI_eq, ev_pIn, ev_pIe, ea_pI_r, eq_self]
    · simp (disch := omega) only [ev_ck, ev_ci, ev_cv, ev_lt_, ↓reduceIte, ev_lens, ev_ix, ev_nz, ev_cl, ev_cll, ev_add, ev_addl, ev_ladd, ev_mul, ev_mull, ev_lmul, ev_sub, ev_subl, ev_lsub, ev_lt, ev_ltl, ev_llt, ev_le, ev_lel, ev_lle, ev_eq, ev_eql, ev_leq, ev_nm1, ev_nm5, ev_m1n, ev_neg1, ev_ltT, ev_ltF, ev_leT, ev_leF, ev_eqT, ev_eqF, ev_one0, ev_zero1, Nat.reduceAdd, Nat.reduceMul, Nat.reduceSub, ea_pI_eq, ev_pIn, ev_pIe, ea_pI_r, eq_self]
  have frm' : FrP M (ea_pI (ea_pI (ea_pI (ea_pI (ea_pI M 72 3 (nI (mis E F G a b c))) 72 6 (nI (a + b + c))) 75 0 (nI (a * 10))) 75 1 (nI (b * 10))) 75 2 (nI (c * 10))) := ⟨fun c k p q => by simp (disch := omega) only [ev_ck, ev_ci, ev_cv, ev_lt_, ↓reduceIte, ev_lens, ev_ix, ev_nz, ev_cl, ev_cll, ev_add, ev_addl, ev_ladd, ev_mul, ev_mull, ev_lmul, ev_sub, ev_subl, ev_lsub, ev_lt, ev_ltl, ev_llt, ev_le, ev_lel, ev_lle, ev_eq, ev_eql, ev_leq, ev_nm1, ev_nm5, ev_m1n, ev_neg1, ev_ltT, ev_ltF, ev_leT, ev_leF, ev_eqT, ev_eqF, ev_one0, ev_zero1, Nat.reduceAdd, Nat.reduceMul, Nat.reduceSub, ea_pI_eq, ev_pIn, ev_pIe, ea_pI_r, eq_self], rfl⟩
  have rf : FrP M M := ⟨fun _ _ _ _ => rfl, rfl⟩
  unfold fX6_weigh_93
  rw [ev_add, ev_add, hs.1, hs.2.1]
  match st with
  | none =>
    refine ⟨_, ?_, res, frm'⟩
    show (if nI (mis E F G a b c) < nI 1000000 then _ else _) = _
    rw [if_pos (by rw [pn_ltI (by omega) (by omega)]; omega)]
    exact put
  | some (m, a', b', c') =>
    have hso : m ≤ 5346 ∧ a' ≤ 20 ∧ b' ≤ 20 ∧ c' ≤ 20 := hso
    show ∃ M', (if nI (mis E F G a b c) < nI m then fX6_weigh_127 (nI a) (nI b) (nI c) (nI (mis E F G a b c)) (nI (a + b + c)) M else if nI (mis E F G a b c) = nI m then if nI (a' + b' + c') ≤ nI (a + b + c) then some M else fX6_weigh_127 (nI a) (nI b) (nI c) (nI (mis E F G a b c)) (nI (a + b + c)) M else some M) = some M' ∧ S72 M' (if mis E F G a b c < m ∨ (mis E F G a b c = m ∧ a + b + c < a' + b' + c') then some (mis E F G a b c, a, b, c) else some (m, a', b', c')) ∧ FrP M M'
    rw [put]
    have w1 := pn_ltI (show mis E F G a b c < 2 ^ 31 by omega) (show m < 2 ^ 31 by omega)
    have w2 := pn_eqI (show mis E F G a b c < 2 ^ 31 by omega) (show m < 2 ^ 31 by omega)
    have w3 := pn_leI (show a' + b' + c' < 2 ^ 31 by omega) (show a + b + c < 2 ^ 31 by omega)
    by_cases q1 : mis E F G a b c < m
    · rw [if_pos (w1.mpr q1), if_pos (Or.inl q1)]
      exact ⟨_, rfl, res, frm'⟩
    · rw [if_neg (fun z => q1 (w1.mp z))]
      by_cases q2 : mis E F G a b c = m
      · rw [if_pos (w2.mpr q2)]
        by_cases q3 : a + b + c < a' + b' + c'
        · rw [if_neg (fun z => by have := w3.mp z; omega), if_pos (Or.inr ⟨q2, q3⟩)]
          exact ⟨_, rfl, res, frm'⟩
        · rw [if_pos (w3.mpr (by omega)), if_neg (by omega)]
          exact ⟨M, rfl, hs, rf⟩
      · rw [if_neg (fun z => q2 (w2.mp z)), if_neg (by omega)]
        exact ⟨M, rfl, hs, rf⟩
theorem px_mayDo (h : pok E F G) (hS : S77 M E F G) {a b C : Nat} (ha : a ≤ 20) (hb : b ≤ 20) (hC : C ≤ 20) {st : Option (Nat × Nat × Nat × Nat)} (hs : S72 M st) (hso : sok st) : ∃ z : Bool, fX6_mayDo (nI a) (nI b) (nI C) M = some (if z = true then 1 else 0, M) ∧ (z = false → ∀ c, c ≤ C → mvv st < mis E F G a b c) := by
  have hmv : mvv st ≤ 1000000 := by
    match st with
    | none => exact Nat.le_refl _
    | some (m, a', b', c') => have hso : m ≤ 5346 ∧ _ := hso; show m ≤ 1000000; omega
  have e0 : ((0 : Int32) * 21 + nI a) * 3 = nI ((0 * 21 + a) * 3) := by rw [show (0 : Int32) * 21 = nI (0 * 21) from rfl, ev_add, show (3 : Int32) = nI 3 from rfl, ev_mul]
  have e1 : ((1 : Int32) * 21 + nI b) * 3 = nI ((1 * 21 + b) * 3) := by rw [show (1 : Int32) * 21 = nI (1 * 21) from rfl, ev_add, show (3 : Int32) = nI 3 from rfl, ev_mul]
  have e2 : ((2 : Int32) * 21 + nI C) * 3 = nI ((2 * 21 + C) * 3) := by rw [show (2 : Int32) * 21 = nI (2 * 21) from rfl, ev_add, show (3 : Int32) = nI 3 from rfl, ev_mul]
  have lp : ∀ (d f k : Nat), 3 - k = d → k ≤ 3 → d < f → ∃ z : Bool, fX6_mayDo_24 f (nI ((0 * 21 + a) * 3)) (nI ((1 * 21 + b) * 3)) (nI ((2 * 21 + C) * 3)) (nI k) M = some (if z = true then 1 else 0, M) ∧ (z = false → ∀ c, c ≤ C → mvv st < mis E F G a b c) := by
    intro d
    induction d with
    | zero =>
      intro f k hd hk hf
      obtain ⟨f, rfl⟩ : ∃ f', f = f' + 1 := ⟨f - 1, by omega⟩
      obtain rfl : k = 3 := by omega
      refine ⟨true, ?_, fun q => by cases q⟩
      rw [fX6_mayDo_24, if_pos (by decide)]
      rfl
    | succ d ih =>
      intro f k hd hk hf
      obtain ⟨f, rfl⟩ : ∃ f', f = f' + 1 := ⟨f - 1, by omega⟩
      obtain ⟨z, r1, r2⟩ := ih f (k + 1) (by omega) (by omega) (by omega)
      have hk3 : k < 3 := by omega
      have p0 := hS.2 k 0 a hk3 (by decide) (by omega)
      have p1 := hS.2 k 1 b hk3 (by decide) (by omega)
      have p2 := hS.2 k 2 C hk3 (by decide) (by omega)
      have w := hS.1 k hk3
      have q0 := (ptv_le h hk3 (c := 0) (by decide) ha).2
      have q1 := (ptv_le h hk3 (c := 1) (by decide) hb).2
      have q2 := (ptv_le h hk3 (c := 2) (by decide) hC).2
      have wl := wtv_le h hk3 3 (by decide)
      have hm := hs.1
      -- as integers
      have i1 : (nI (ptv E F k 0 a + ptv E F k 1 b) - nI (wtv E G k 3)).toInt = ((ptv E F k 0 a + ptv E F k 1 b : Nat) : Int) - (wtv E G k 3 : Nat) := pk_sub_toInt (by omega) (by omega)
      have i2 : (nI (ptv E F k 0 a + ptv E F k 1 b) - nI (wtv E G k 3) + nI (ptv E F k 2 C)).toInt = ((ptv E F k 0 a + ptv E F k 1 b : Nat) : Int) - (wtv E G k 3 : Nat) + (ptv E F k 2 C : Nat) := pz_add i1 (nI_toInt (by omega)) (by omega) (by omega)
      have i3 : (-(nI (mvv st)) : Int32).toInt = -((mvv st : Nat) : Int) := by
        have : (nI 0 - nI (mvv st)).toInt = ((0 : Nat) : Int) - (mvv st : Nat) := pk_sub_toInt (by omega) (by omega)
        rw [show (nI 0 : Int32) = 0 from rfl, Int32.zero_sub] at this
        rw [this]
        omega
      have bad : ∀ c, c ≤ C → (mvv st + wtv E G k 3 < ptv E F k 0 a + ptv E F k 1 b ∨ ptv E F k 0 a + ptv E F k 1 b + ptv E F k 2 C + mvv st < wtv E G k 3) → mvv st < mis E F G a b c := by
        intro c hc hor
        refine Nat.lt_of_lt_of_le ?_ (mis_k (k := k) hk3)
        have hmo := ptv_mono (E := E) (F := F) (k := k) (c := 2) hc
        unfold dif see
        by_cases hx : ptv E F k 0 a + ptv E F k 1 b + ptv E F k 2 c < wtv E G k 3
        · rw [if_pos hx]; omega
        · rw [if_neg hx]; omega
      rw [fX6_mayDo_24]
      simp (disch := omega) only [ev_ck, ev_ci, ev_cv, ev_lt_, ↓reduceIte, ev_lens, ev_ix, ev_nz, ev_cl, ev_cll, ev_add, ev_addl, ev_ladd, ev_mul, ev_mull, ev_lmul, ev_subl, ev_lsub, ev_lt, ev_ltl, ev_llt, ev_le, ev_lel, ev_lle, ev_eq, ev_eql, ev_leq, ev_nm1, ev_nm5, ev_m1n, ev_neg1, ev_ltT, ev_ltF, ev_leT, ev_leF, ev_eqT, ev_eqF, ev_one0, ev_zero1, Nat.reduceAdd, Nat.reduceSub, ea_pI_eq, ev_pIn, ev_pIe, ea_pI_r, eq_self, p0, p1, w, hm, p2]
      by_cases c1 : mvv st + wtv E G k 3 < ptv E F k 0 a + ptv E F k 1 b
      · refine ⟨false, ?_, fun _ c hc => bad c hc (Or.inl c1)⟩
        rw [if_pos (by rw [Int32.lt_iff_toInt_lt, nI_toInt (by omega), i1]; omega)]
        rfl
      · rw [if_neg (by rw [Int32.lt_iff_toInt_lt, nI_toInt (by omega), i1]; omega)]
        by_cases c2 : ptv E F k 0 a + ptv E F k 1 b + ptv E F k 2 C + mvv st < wtv E G k 3
        · refine ⟨false, ?_, fun _ c hc => bad c hc (Or.inr c2)⟩
          rw [if_neg (by rw [Int32.le_iff_toInt_le, i3, i2]; omega)]
          rfl
        · refine ⟨z, ?_, r2⟩
          rw [if_pos (by rw [Int32.le_iff_toInt_le, i3, i2]; omega)]
          exact r1
  unfold fX6_mayDo fX6_mayDo_0 fX6_placeOf fX6_placeOf_0
  rw [ev_ci, ev_ci, ev_ci, e0, e1, e2]
  exact lp 3 ea_N 0 (by omega) (by omega) (by unfold ea_N; omega)
theorem px_srch (h : pok E F G) {cc : Nat} {A B C : Nat} (hA : A ≤ 20) (hB : B ≤ 20) (hC : C ≤ 20) : ∀ (d f a : Nat) (M1 : eM), A + 1 - a = d → a ≤ A + 1 → d < f → S77 M1 E F G → S72 M1 (fda E F G B C a) → FrP M M1 → ∃ M', fX6_search_53 cc f (nI A) (nI B) (nI C) (nI a) M1 = some M' ∧ S72 M' (fda E F G B C (A + 1)) ∧ FrP M M' := by
  have inn : ∀ (k129 : Int32 → Int32 → Int32 → Int32 → Int32 → eM → Option eM) (a b : Nat) (st : Option (Nat × Nat × Nat × Nat)), a ≤ 20 → b ≤ 20 → sok st → ∀ (d f c : Nat) (M1 : eM), C + 1 - c = d → c ≤ C + 1 → d < f → S77 M1 E F G → S72 M1 (fdc E F G a b st c) → FrP M M1 → ∃ M', fX6_search_99 k129 cc f (nI A) (nI B) (nI C) (nI a) (nI b) (nI c) M1 = k129 (nI A) (nI B) (nI C) (nI a) (nI b) M' ∧ S77 M' E F G ∧ S72 M' (fdc E F G a b st (C + 1)) ∧ FrP M M' := by
    intro k129 a b st ha hb hst d
    induction d with
    | zero =>
      intro f c M1 hd hc hf hS hs hF
      obtain ⟨f, rfl⟩ : ∃ f', f = f' + 1 := ⟨f - 1, by omega⟩
      obtain rfl : c = C + 1 := by omega
      refine ⟨M1, ?_, hS, hs, hF⟩
      simp (disch := omega) only [ev_ck, ev_ci, ev_cv, ev_lt_, ↓reduceIte, ev_lens, ev_ix, ev_nz, ev_cl, ev_cll, ev_add, ev_addl, ev_ladd, ev_mul, ev_mull, ev_lmul, ev_sub, ev_subl, ev_lsub, ev_lt, ev_ltl, ev_llt, ev_le, ev_lel, ev_lle, ev_eq, ev_eql, ev_leq, ev_nm1, ev_nm5, ev_m1n, ev_neg1, ev_ltT, ev_ltF, ev_leT, ev_leF, ev_eqT, ev_eqF, ev_one0, ev_zero1, Nat.reduceAdd, Nat.reduceMul, Nat.reduceSub, ea_pI_eq, ev_pIn, ev_pIe, ea_pI_r, eq_self, fX6_search_99]
    | succ d ih =>
      intro f c M1 hd hc hf hS hs hF
      obtain ⟨f, rfl⟩ : ∃ f', f = f' + 1 := ⟨f - 1, by omega⟩
      obtain ⟨M2, e2, s2, f2⟩ := px_weigh h hS ha hb (show c ≤ 20 by omega) hs (fdc_ok h ha hb hst c (by omega))
      obtain ⟨M3, r1, r2⟩ := ih f (c + 1) M2 (by omega) (by omega) (by omega) (hS.fr f2) s2 (hF.trans f2)
      refine ⟨M3, ?_, r2⟩
      simp (disch := omega) only [ev_ck, ev_ci, ev_cv, ev_lt_, ↓reduceIte, ev_lens, ev_ix, ev_nz, ev_cl, ev_cll, ev_add, ev_addl, ev_ladd, ev_mul, ev_mull, ev_lmul, ev_sub, ev_subl, ev_lsub, ev_lt, ev_ltl, ev_llt, ev_le, ev_lel, ev_lle, ev_eq, ev_eql, ev_leq, ev_nm1, ev_nm5, ev_m1n, ev_neg1, ev_ltT, ev_ltF, ev_leT, ev_leF, ev_eqT, ev_eqF, ev_one0, ev_zero1, Nat.reduceAdd, Nat.reduceMul, Nat.reduceSub, ea_pI_eq, ev_pIn, ev_pIe, ea_pI_r, eq_self, fX6_search_99, e2]
      exact r1
  have mid : ∀ (k135 : Int32 → Int32 → Int32 → Int32 → eM → Option eM) (a : Nat) (st : Option (Nat × Nat × Nat × Nat)), a ≤ 20 → sok st → ∀ (d f b : Nat) (M1 : eM), B + 1 - b = d → b ≤ B + 1 → d < f → S77 M1 E F G → S72 M1 (fdb E F G C a st b) → FrP M M1 → ∃ M', fX6_search_69 k135 cc f (nI A) (nI B) (nI C) (nI a) (nI b) M1 = k135 (nI A) (nI B) (nI C) (nI a) M' ∧ S77 M' E F G ∧ S72 M' (fdb E F G C a st (B + 1)) ∧ FrP M M' := by
    intro k135 a st ha hst d
    induction d with
    | zero =>
      intro f b M1 hd hb hf hS hs hF
      obtain ⟨f, rfl⟩ : ∃ f', f = f' + 1 := ⟨f - 1, by omega⟩
      obtain rfl : b = B + 1 := by omega
      refine ⟨M1, ?_, hS, hs, hF⟩
      simp (disch := omega) only [ev_ck, ev_ci, ev_cv, ev_lt_, ↓reduceIte, ev_lens, ev_ix, ev_nz, ev_cl, ev_cll, ev_add, ev_addl, ev_ladd, ev_mul, ev_mull, ev_lmul, ev_sub, ev_subl, ev_lsub, ev_lt, ev_ltl, ev_llt, ev_le, ev_lel, ev_lle, ev_eq, ev_eql, ev_leq, ev_nm1, ev_nm5, ev_m1n, ev_neg1, ev_ltT, ev_ltF, ev_leT, ev_leF, ev_eqT, ev_eqF, ev_one0, ev_zero1, Nat.reduceAdd, Nat.reduceMul, Nat.reduceSub, ea_pI_eq, ev_pIn, ev_pIe, ea_pI_r, eq_self, fX6_search_69]
    | succ d ih =>
      intro f b M1 hd hb hf hS hs hF
      obtain ⟨f, rfl⟩ : ∃ f', f = f' + 1 := ⟨f - 1, by omega⟩
      have hok := fdb_ok h hC ha hst b (by omega)
      obtain ⟨z, z1, z2⟩ := px_mayDo h hS ha (show b ≤ 20 by omega) hC hs hok
      cases z with
      | false =>
        have sk := fdc_skip h ha (show b ≤ 20 by omega) (st := fdb E F G C a st b) (C + 1) (by omega) (fun c hc => z2 rfl c (by omega))
        obtain ⟨M3, r1, r2⟩ := ih f (b + 1) M1 (by omega) (by omega) (by omega) hS (by show S72 M1 (fdc E F G a b (fdb E F G C a st b) (C + 1)); rw [sk]; exact hs) hF
        refine ⟨M3, ?_, r2⟩
        simp (disch := omega) only [ev_ck, ev_ci, ev_cv, ev_lt_, ↓reduceIte, ev_lens, ev_ix, ev_nz, ev_cl, ev_cll, ev_add, ev_addl, ev_ladd, ev_mul, ev_mull, ev_lmul, ev_sub, ev_subl, ev_lsub, ev_lt, ev_ltl, ev_llt, ev_le, ev_lel, ev_lle, ev_eq, ev_eql, ev_leq, ev_nm1, ev_nm5, ev_m1n, ev_neg1, ev_ltT, ev_ltF, ev_leT, ev_leF, ev_eqT, ev_eqF, ev_one0, ev_zero1, Nat.reduceAdd, Nat.reduceMul, Nat.reduceSub, ea_pI_eq, ev_pIn, ev_pIe, ea_pI_r, eq_self, fX6_search_69, z1, Bool.false_eq_true, fX6_search_129]
        exact r1
      | true =>
        obtain ⟨M2, t1, t2, t3, t4⟩ := inn (fX6_search_129 (fX6_search_69 k135 cc f) cc) a b (fdb E F G C a st b) ha (by omega) hok (C + 1) ea_N 0 M1 (by omega) (by omega) (by unfold ea_N; omega) hS hs hF
        obtain ⟨M3, r1, r2⟩ := ih f (b + 1) M2 (by omega) (by omega) (by omega) t2 t3 t4
        refine ⟨M3, ?_, r2⟩
        simp (disch := omega) only [ev_ck, ev_ci, ev_cv, ev_lt_, ↓reduceIte, ev_lens, ev_ix, ev_nz, ev_cl, ev_cll, ev_add, ev_addl, ev_ladd, ev_mul, ev_mull, ev_lmul, ev_sub, ev_subl, ev_lsub, ev_lt, ev_ltl, ev_llt, ev_le, ev_lel, ev_lle, ev_eq, ev_eql, ev_leq, ev_nm1, ev_nm5, ev_m1n, ev_neg1, ev_ltT, ev_ltF, ev_leT, ev_leF, ev_eqT, ev_eqF, ev_one0, ev_zero1, Nat.reduceAdd, Nat.reduceMul, Nat.reduceSub, ea_pI_eq, ev_pIn, ev_pIe, ea_pI_r, eq_self, fX6_search_69, z1]
        refine (show fX6_search_99 _ cc ea_N (nI A) (nI B) (nI C) (nI a) (nI b) 0 M1 = _ from t1).trans ?_
        simp (disch := omega) only [ev_ck, ev_ci, ev_cv, ev_lt_, ↓reduceIte, ev_lens, ev_ix, ev_nz, ev_cl, ev_cll, ev_add, ev_addl, ev_ladd, ev_mul, ev_mull, ev_lmul, ev_sub, ev_subl, ev_lsub, ev_lt, ev_ltl, ev_llt, ev_le, ev_lel, ev_lle, ev_eq, ev_eql, ev_leq, ev_nm1, ev_nm5, ev_m1n, ev_neg1, ev_ltT, ev_ltF, ev_leT, ev_leF, ev_eqT, ev_eqF, ev_one0, ev_zero1, Nat.reduceAdd, Nat.reduceMul, Nat.reduceSub, ea_pI_eq, ev_pIn, ev_pIe, ea_pI_r, eq_self, fX6_search_129]
        exact r1
  intro d
  induction d with
  | zero =>
    intro f a M1 hd ha hf hS hs hF
    obtain ⟨f, rfl⟩ : ∃ f', f = f' + 1 := ⟨f - 1, by omega⟩
    obtain rfl : a = A + 1 := by omega
    refine ⟨M1, ?_, hs, hF⟩
    simp (disch := omega) only [ev_ck, ev_ci, ev_cv, ev_lt_, ↓reduceIte, ev_lens, ev_ix, ev_nz, ev_cl, ev_cll, ev_add, ev_addl, ev_ladd, ev_mul, ev_mull, ev_lmul, ev_sub, ev_subl, ev_lsub, ev_lt, ev_ltl, ev_llt, ev_le, ev_lel, ev_lle, ev_eq, ev_eql, ev_leq, ev_nm1, ev_nm5, ev_m1n, ev_neg1, ev_ltT, ev_ltF, ev_leT, ev_leF, ev_eqT, ev_eqF, ev_one0, ev_zero1, Nat.reduceAdd, Nat.reduceMul, Nat.reduceSub, ea_pI_eq, ev_pIn, ev_pIe, ea_pI_r, eq_self, fX6_search_53]
  | succ d ih =>
    intro f a M1 hd ha hf hS hs hF
    obtain ⟨f, rfl⟩ : ∃ f', f = f' + 1 := ⟨f - 1, by omega⟩
    obtain ⟨M2, t1, t2, t3, t4⟩ := mid (fX6_search_135 (fX6_search_53 cc f) cc) a (fda E F G B C a) (by omega) (fda_ok h hB hC a (by omega)) (B + 1) ea_N 0 M1 (by omega) (by omega) (by unfold ea_N; omega) hS hs hF
    obtain ⟨M3, r1, r2⟩ := ih f (a + 1) M2 (by omega) (by omega) (by omega) t2 t3 t4
    refine ⟨M3, ?_, r2⟩
    simp (disch := omega) only [ev_ck, ev_ci, ev_cv, ev_lt_, ↓reduceIte, ev_lens, ev_ix, ev_nz, ev_cl, ev_cll, ev_add, ev_addl, ev_ladd, ev_mul, ev_mull, ev_lmul, ev_sub, ev_subl, ev_lsub, ev_lt, ev_ltl, ev_llt, ev_le, ev_lel, ev_lle, ev_eq, ev_eql, ev_leq, ev_nm1, ev_nm5, ev_m1n, ev_neg1, ev_ltT, ev_ltF, ev_leT, ev_leF, ev_eqT, ev_eqF, ev_one0, ev_zero1, Nat.reduceAdd, Nat.reduceMul, Nat.reduceSub, ea_pI_eq, ev_pIn, ev_pIe, ea_pI_r, eq_self, fX6_search_53]
    refine (show fX6_search_69 _ cc ea_N (nI A) (nI B) (nI C) (nI a) 0 M1 = _ from t1).trans ?_
    simp (disch := omega) only [ev_ck, ev_ci, ev_cv, ev_lt_, ↓reduceIte, ev_lens, ev_ix, ev_nz, ev_cl, ev_cll, ev_add, ev_addl, ev_ladd, ev_mul, ev_mull, ev_lmul, ev_sub, ev_subl, ev_lsub, ev_lt, ev_ltl, ev_llt, ev_le, ev_lel, ev_lle, ev_eq, ev_eql, ev_leq, ev_nm1, ev_nm5, ev_m1n, ev_neg1, ev_ltT, ev_ltF, ev_leT, ev_leF, ev_eqT, ev_eqF, ev_one0, ev_zero1, Nat.reduceAdd, Nat.reduceMul, Nat.reduceSub, ea_pI_eq, ev_pIn, ev_pIe, ea_pI_r, eq_self, fX6_search_135]
    exact r1
end PJ
