def yrP (v : Nat → Nat → Nat) (p : Nat) : Nat := if p = 0 then 0 else v 1 (p - 1)
def near (a b s : Nat) : Bool := decide (a ≤ b + s) && decide (b ≤ a + s)
theorem near_t {a b s : Nat} (h : a ≤ b + s ∧ b ≤ a + s) : near a b s = true := by unfold near; rw [decide_eq_true h.1, decide_eq_true h.2]; rfl
theorem near_f {a b s : Nat} (h : ¬ (a ≤ b + s ∧ b ≤ a + s)) : near a b s = false := by
  unfold near
  by_cases h1 : a ≤ b + s
  · rw [decide_eq_true h1, decide_eq_false (fun h2 => h ⟨h1, h2⟩)]; rfl
  · rw [decide_eq_false h1]; rfl
/-- whether a THREAD shows a row's colours behind h hours -/
def ok1 (v : Nat → Nat → Nat) (o w : Nat → Nat) (sl x h : Nat) (row : Nat → Nat) : Bool := near (sp_col v o w x h 0) (row (2 + 0)) sl && (near (sp_col v o w x h 1) (row (2 + 1)) sl && near (sp_col v o w x h 2) (row (2 + 2)) sl)
theorem kw_lt {b s sl : Nat} (hb : b ≤ 198) (hs : s ≤ 99) (hsl : sl ≤ 20) : (nI b < nI (99 - s) - nI sl) = (b + s + sl < 99) := by
  apply propext
  rw [Int32.lt_iff_toInt_lt, nI_toInt (by omega), pk_sub_toInt (a := 99 - s) (b := sl) (by omega) (by omega)]
  omega
theorem kw_le {b s sl : Nat} (hb : b ≤ 198) (hs : s ≤ 99) (hsl : sl ≤ 20) : (nI b ≤ (if s ≤ sl then 1000000 else nI (99 - s + sl))) = (s ≤ sl ∨ b + s ≤ 99 + sl) := by
  by_cases h : s ≤ sl
  · rw [if_pos h, show (1000000 : Int32) = nI 1000000 from rfl, pn_leI (by omega) (by omega)]
    exact propext ⟨fun _ => Or.inl h, fun _ => by omega⟩
  · rw [if_neg h, pn_leI (by omega) (by omega)]
    exact propext (by omega)
theorem px_kws {M : eM} {p a2 a3 k f one two c s sl t1 t2 : Nat} (lp : ea_len (p + 1) = 138) (l2 : ea_len a2 = 66) (l3 : ea_len a3 = 66) (hc : c < 3) (h1 : one + c < 138) (h2 : two + c < 138) (hf : f + c < 66) (e1 : M.1 (p + 1) (one + c) = nI t1) (e2 : M.1 (p + 1) (two + c) = nI t2) (b1 : t1 ≤ 99) (b2 : t2 ≤ 99) (hs : s ≤ 99) (hsl : sl ≤ 20) (m1 : M.1 a2 (f + c) = nI (99 - s) - nI sl) (m2 : M.1 a3 (f + c) = (if s ≤ sl then 1000000 else nI (99 - s + sl))) :
    fX5_keepsWithin_29 p a2 a3 (k + 1) (nI f) (nI one) (nI two) (nI c) M = if near (99 - t1 - t2) s sl = true then fX5_keepsWithin_29 p a2 a3 k (nI f) (nI one) (nI two) (nI (c + 1)) M else some (0, M) := by
  rw [fX5_keepsWithin_29]
  simp (disch := omega) only [ev_ck, ev_ci, ev_cv, ev_lt_, ↓reduceIte, ev_lens, ev_ix, ev_nz, ev_cl, ev_cll, ev_add, ev_addl, ev_ladd, ev_mul, ev_mull, ev_lmul, ev_sub, ev_subl, ev_lsub, ev_lt, ev_ltl, ev_llt, ev_le, ev_lel, ev_lle, ev_eq, ev_eql, ev_leq, ev_nm1, ev_nm5, ev_m1n, ev_neg1, ev_ltT, ev_ltF, ev_leT, ev_leF, ev_eqT, ev_eqF, ev_one0, ev_zero1, Nat.reduceAdd, Nat.reduceMul, Nat.reduceSub, ea_pI_eq, ev_pIn, ev_pIe, ea_pI_r, eq_self, lp, l2, l3, e1, e2]
  rw [m1, m2]
  have w1 := kw_lt (b := t1 + t2) (s := s) (sl := sl) (by omega) hs hsl
  have w2 := kw_le (b := t1 + t2) (s := s) (sl := sl) (by omega) hs hsl
  by_cases q1 : t1 + t2 + s + sl < 99
  · rw [if_pos (w1.mpr q1), near_f (by omega), if_neg (by decide)]
  · rw [if_neg (fun h => q1 (w1.mp h))]
    by_cases q2 : s ≤ sl ∨ t1 + t2 + s ≤ 99 + sl
    · rw [if_pos (w2.mpr q2), near_t (by omega), if_pos rfl]
    · rw [if_neg (fun h => q2 (w2.mp h)), near_f (by omega), if_neg (by decide)]
/-- what one sight lets -/
def BX (M : eM) (a i : Nat) (row : Nat → Nat) (sl : Nat) : Prop := ∀ c, c < 3 → M.1 (a + 8) (i * 3 + c) = nI (99 - row (2 + c)) - nI sl ∧ M.1 (a + 9) (i * 3 + c) = (if row (2 + c) ≤ sl then 1000000 else nI (99 - row (2 + c) + sl))
def PH (M : eM) (a : Nat) (n : Nat → Nat) (v : Nat → Nat → Nat) (h : Nat) : Prop := ∀ x c, c < 3 → x < 9 * n 4 → M.1 (a + 1 + 1) (x * 3 + c) = nI (sp_tk v x h c)
section KW
variable {M : eM} {a cc th : Nat} {n : Nat → Nat} {v : Nat → Nat → Nat} {o w q : Nat → Nat} {l t r : Nat → Nat → Nat}
theorem ph_w (ha : pn_f a) (hC : Ctx M cc n v th o w q l t r) {h : Nat} (hP : PH M a n v h) {x c : Nat} (hx : x = 45 ∨ x < 9 * n 4) (hc : c < 3) : M.1 (a + 1 + 1) (x * 3 + c) = nI (sp_tk v x h c) := by
  rcases hx with rfl | hx
  · have e : sp_tk v 45 h c = 0 := if_neg (by decide)
    rw [e]
    rcases ha with rfl | rfl
    · exact (hC.2.2 c hc).1
    · exact (hC.2.2 c hc).2
  · exact hP x c hc hx
theorem px_kw (ha : pn_f a) (hC : Ctx M cc n v th o w q l t r) {h : Nat} (hP : PH M a n v h) {x i : Nat} (hx : x < th) {row : Nat → Nat} (hrow : rok row) (hB : BX M a i row (n 2)) (hi : i < 22) : fX5_keepsWithin (a + 1) (a + 8) (a + 9) (nI x) (nI (i * 3)) M = some (if ok1 v o w (n 2) x h row = true then 1 else 0, M) := by
  obtain ⟨l2, -, -, -, l8, l9⟩ := pn_lf ha
  have ho := hC.1.2.2.2.1
  have h4 := ho.2.2.2.2.1
  have hsl := ho.2.2.1
  have hTh := hC.1.2.2.2.2.2.2.1
  obtain ⟨ox, wx⟩ := hTh.1.2 x hx
  have hth := hTh.1.1
  obtain ⟨e5, e6⟩ := hC.1.2.2.2.2.2.2.2.1.2 x hx
  have st : ∀ k c, c < 3 → fX5_keepsWithin_29 (a + 1) (a + 8) (a + 9) (k + 1) (nI (i * 3)) (nI (o x * 3)) (nI (w x * 3)) (nI c) M = if near (sp_col v o w x h c) (row (2 + c)) (n 2) = true then fX5_keepsWithin_29 (a + 1) (a + 8) (a + 9) k (nI (i * 3)) (nI (o x * 3)) (nI (w x * 3)) (nI (c + 1)) M else some (0, M) := fun k c hc => px_kws l2 l8 l9 hc (by omega) (by omega) (by omega) (hP (o x) c hc ox) (ph_w ha hC hP wx hc) (sp_tk_le ho (Or.inr ox) hc) (sp_tk_le ho wx hc) (hrow.2.2 c hc) hsl (hB c hc).1 (hB c hc).2
  unfold fX5_keepsWithin fX5_keepsWithin_0
  simp (disch := omega) only [ev_ck, ev_ci, ev_cv, ev_lt_, ↓reduceIte, ev_lens, ev_ix, ev_nz, ev_cl, ev_cll, ev_add, ev_addl, ev_ladd, ev_mul, ev_mull, ev_lmul, ev_sub, ev_subl, ev_lsub, ev_lt, ev_ltl, ev_llt, ev_le, ev_lel, ev_lle, ev_eq, ev_eql, ev_leq, ev_nm1, ev_nm5, ev_m1n, ev_neg1, ev_ltT, ev_ltF, ev_leT, ev_leF, ev_eqT, ev_eqF, ev_one0, ev_zero1, Nat.reduceAdd, Nat.reduceMul, Nat.reduceSub, ea_pI_eq, ev_pIn, ev_pIe, ea_pI_r, eq_self, e5, e6]
  show fX5_keepsWithin_29 (a + 1) (a + 8) (a + 9) (99996 + 1 + 1 + 1 + 1) (nI (i * 3)) (nI (o x * 3)) (nI (w x * 3)) (nI 0) M = _
  rw [st _ 0 (by decide), st _ 1 (by decide), st _ 2 (by decide)]
  unfold ok1
  by_cases q0 : near (sp_col v o w x h 0) (row (2 + 0)) (n 2) = true
  · rw [if_pos q0, q0, Bool.true_and]
    by_cases q1 : near (sp_col v o w x h 1) (row (2 + 1)) (n 2) = true
    · rw [if_pos q1, q1, Bool.true_and]
      by_cases q2 : near (sp_col v o w x h 2) (row (2 + 2)) (n 2) = true
      · rw [if_pos q2, q2, if_pos rfl, fX5_keepsWithin_29, if_pos (by decide)]
      · rw [if_neg q2, if_neg q2]
    · rw [if_neg q1, Bool.eq_false_iff.mpr q1, Bool.false_and, if_neg (by decide)]
  · rw [if_neg q0, Bool.eq_false_iff.mpr q0, Bool.false_and, if_neg (by decide)]
end KW
/-- YEARS by bits -/
def mk4 (a b c d : Bool) : Nat := (if a = true then 1 else 0) + (if b = true then 2 else 0) + (if c = true then 4 else 0) + (if d = true then 8 else 0)
def mk (g : Nat → Bool) : Nat := mk4 (g 0) (g 1) (g 2) (g 3)
theorem mk_congr {f g : Nat → Bool} (h : ∀ p, p < 4 → f p = g p) : mk f = mk g := by
  unfold mk
  rw [h 0 (by decide), h 1 (by decide), h 2 (by decide), h 3 (by decide)]
theorem mk_lt (f : Nat → Bool) : mk f < 16 := by
  have key : ∀ a b c d, mk4 a b c d < 16 := by decide
  exact key _ _ _ _
theorem mk_z (f : Nat → Bool) : mk f = 0 ↔ ∀ p, p < 4 → f p = false := by
  have key : ∀ a b c d, mk4 a b c d = 0 ↔ (a = false ∧ b = false ∧ c = false ∧ d = false) := by decide
  constructor
  · intro h p hp
    obtain ⟨h0, h1, h2, h3⟩ := (key _ _ _ _).mp h
    rcases (show p = 0 ∨ p = 1 ∨ p = 2 ∨ p = 3 by omega) with rfl | rfl | rfl | rfl <;> assumption
  · intro h
    exact (key _ _ _ _).mpr ⟨h 0 (by decide), h 1 (by decide), h 2 (by decide), h 3 (by decide)⟩
def bitP (b : Int32) (p : Nat) : Prop := (∀ f : Nat → Bool, (nI (mk f) &&& b = 0) ↔ f p = false) ∧ ∀ f : Nat → Bool, nI (mk f) &&& (b ^^^ (-1 : Int32)) = nI (mk (fun p' => if p' = p then false else f p'))
theorem bit_ok {p : Nat} (hp : p < 4) : bitP ((1 : Int32) <<< (nI p &&& 31)) p := by
  rcases (show p = 0 ∨ p = 1 ∨ p = 2 ∨ p = 3 by omega) with rfl | rfl | rfl | rfl
  · have k1 : ∀ a b c d, (nI (mk4 a b c d) &&& ((1 : Int32) <<< (nI 0 &&& 31)) = 0) ↔ a = false := by decide +kernel
    have k2 : ∀ a b c d, nI (mk4 a b c d) &&& (((1 : Int32) <<< (nI 0 &&& 31)) ^^^ (-1 : Int32)) = nI (mk4 false b c d) := by decide +kernel
    exact ⟨fun f => k1 _ _ _ _, fun f => k2 _ _ _ _⟩
  · have k1 : ∀ a b c d, (nI (mk4 a b c d) &&& ((1 : Int32) <<< (nI 1 &&& 31)) = 0) ↔ b = false := by decide +kernel
    have k2 : ∀ a b c d, nI (mk4 a b c d) &&& (((1 : Int32) <<< (nI 1 &&& 31)) ^^^ (-1 : Int32)) = nI (mk4 a false c d) := by decide +kernel
    exact ⟨fun f => k1 _ _ _ _, fun f => k2 _ _ _ _⟩
  · have k1 : ∀ a b c d, (nI (mk4 a b c d) &&& ((1 : Int32) <<< (nI 2 &&& 31)) = 0) ↔ c = false := by decide +kernel
    have k2 : ∀ a b c d, nI (mk4 a b c d) &&& (((1 : Int32) <<< (nI 2 &&& 31)) ^^^ (-1 : Int32)) = nI (mk4 a b false d) := by decide +kernel
    exact ⟨fun f => k1 _ _ _ _, fun f => k2 _ _ _ _⟩
  · have k1 : ∀ a b c d, (nI (mk4 a b c d) &&& ((1 : Int32) <<< (nI 3 &&& 31)) = 0) ↔ d = false := by decide +kernel
    have k2 : ∀ a b c d, nI (mk4 a b c d) &&& (((1 : Int32) <<< (nI 3 &&& 31)) ^^^ (-1 : Int32)) = nI (mk4 a b c false) := by decide +kernel
    exact ⟨fun f => k1 _ _ _ _, fun f => k2 _ _ _ _⟩
theorem mk_shr {p : Nat} (hp : p < 4) (f : Nat → Bool) : ((nI (mk f) >>> (nI p &&& 31)) &&& (1 : Int32) = 0) ↔ f p = false := by
  rcases (show p = 0 ∨ p = 1 ∨ p = 2 ∨ p = 3 by omega) with rfl | rfl | rfl | rfl
  · have k1 : ∀ a b c d, ((nI (mk4 a b c d) >>> (nI 0 &&& 31)) &&& (1 : Int32) = 0) ↔ a = false := by decide +kernel
    exact k1 _ _ _ _
  · have k1 : ∀ a b c d, ((nI (mk4 a b c d) >>> (nI 1 &&& 31)) &&& (1 : Int32) = 0) ↔ b = false := by decide +kernel
    exact k1 _ _ _ _
  · have k1 : ∀ a b c d, ((nI (mk4 a b c d) >>> (nI 2 &&& 31)) &&& (1 : Int32) = 0) ↔ c = false := by decide +kernel
    exact k1 _ _ _ _
  · have k1 : ∀ a b c d, ((nI (mk4 a b c d) >>> (nI 3 &&& 31)) &&& (1 : Int32) = 0) ↔ d = false := by decide +kernel
    exact k1 _ _ _ _
theorem mk_full {pc : Nat} (h1 : 1 ≤ pc) (h4 : pc ≤ 4) : ((1 : Int32) <<< (nI pc &&& 31)) - (1 : Int32) = nI (mk (fun p => decide (p < pc))) := by
  rcases (show pc = 1 ∨ pc = 2 ∨ pc = 3 ∨ pc = 4 by omega) with rfl | rfl | rfl | rfl <;> decide +kernel
theorem mk_one (f : Nat → Bool) : nI (mk f) &&& (1 : Int32) = nI (if f 0 = true then 1 else 0) := by
  have k1 : ∀ a b c d, nI (mk4 a b c d) &&& (1 : Int32) = nI (if a = true then 1 else 0) := by decide +kernel
  exact k1 _ _ _ _
def pop (f : Nat → Bool) : Nat := (if f 0 = true then 1 else 0) + (if f 1 = true then 1 else 0) + (if f 2 = true then 1 else 0) + (if f 3 = true then 1 else 0)
theorem mk_pop (f : Nat → Bool) (M : eM) : fJ6_bitCount_0f7a4 (nI (mk f)) M = some (nI (pop f), M) := by
  have k1 : ∀ a b c d, ∀ M : eM, fJ6_bitCount_0f7a4 (nI (mk4 a b c d)) M = some (nI ((if a = true then 1 else 0) + (if b = true then 1 else 0) + (if c = true then 1 else 0) + (if d = true then 1 else 0)), M) := by
    intro a b c d M
    have e : ∀ x y : Int32, x = y → some (x, M) = some (y, M) := fun x y h => by rw [h]
    cases a <;> cases b <;> cases c <;> cases d <;> exact e _ _ (by decide +kernel)
  exact k1 _ _ _ _ M
def yrs (M : eM) (a th : Nat) (g : Nat → Nat → Bool) : Prop := ∀ x, x < th → M.1 (a + 3) x = nI (mk (g x))
section NW
variable {M : eM} {a cc th : Nat} {n : Nat → Nat} {v : Nat → Nat → Nat} {o w q : Nat → Nat} {l t r : Nat → Nat → Nat}
theorem px_narrow (ha : pn_f a) (hC0 : Ctx M cc n v th o w q l t r) {h : Nat} (hP : PH M a n v h) {i : Nat} {row : Nat → Nat} (hrow : rok row) (hB : BX M a i row (n 2)) (hi : i < 22) {g : Nat → Nat → Bool} (hY : yrs M a th g) {b : Int32} {p : Nat} (hb : bitP b p) :
    ∃ M', fX3_narrow a b (nI (i * 3)) M = some M' ∧ yrs M' a th (fun x p' => if p' = p then g x p && ok1 v o w (n 2) x h row else g x p') ∧ (∀ c k, c ≠ a + 3 → M'.1 c k = M.1 c k) ∧ M'.2.2 = M.2.2 := by
  obtain ⟨-, l3, -⟩ := pn_lf ha
  have hth := hC0.1.2.2.2.2.2.2.1.1.1
  generalize hg' : (fun x p' => if p' = p then g x p && ok1 v o w (n 2) x h row else g x p') = g'
  have lp : ∀ (d f j : Nat) (M1 : eM), th - j = d → j ≤ th → d < f → (∀ x, x < th → M1.1 (a + 3) x = nI (mk (if x < j then g' x else g x))) → (∀ c k, c ≠ a + 3 → M1.1 c k = M.1 c k) → M1.2.2 = M.2.2 → ∃ M', fX3_narrow_2 a f b (nI (i * 3)) (nI j) M1 = some M' ∧ yrs M' a th g' ∧ (∀ c k, c ≠ a + 3 → M'.1 c k = M.1 c k) ∧ M'.2.2 = M.2.2 := by
    intro d
    induction d with
    | zero =>
      intro f j M1 hd hj hf hy hF hR
      obtain ⟨f, rfl⟩ : ∃ f', f = f' + 1 := ⟨f - 1, by omega⟩
      obtain rfl : j = th := by omega
      have e41 : M1.1 4 1 = nI j := by rw [hF _ _ (by unfold pn_f at ha; omega)]; exact hC0.1.2.2.2.2.2.2.2.1.1
      refine ⟨M1, ?_, fun x hx => ?_, hF, hR⟩
      · simp (disch := omega) only [ev_ck, ev_ci, ev_cv, ev_lt_, ↓reduceIte, ev_lens, ev_ix, ev_nz, ev_cl, ev_cll, ev_add, ev_addl, ev_ladd, ev_mul, ev_mull, ev_lmul, ev_sub, ev_subl, ev_lsub, ev_lt, ev_ltl, ev_llt, ev_le, ev_lel, ev_lle, ev_eq, ev_eql, ev_leq, ev_nm1, ev_nm5, ev_m1n, ev_neg1, ev_ltT, ev_ltF, ev_leT, ev_leF, ev_eqT, ev_eqF, ev_one0, ev_zero1, Nat.reduceAdd, Nat.reduceMul, Nat.reduceSub, ea_pI_eq, ev_pIn, ev_pIe, ea_pI_r, eq_self, fX3_narrow_2, e41]
      · rw [hy x hx, if_pos hx]
    | succ d ih =>
      intro f j M1 hd hj hf hy hF hR
      obtain ⟨f, rfl⟩ : ∃ f', f = f' + 1 := ⟨f - 1, by omega⟩
      have e41 : M1.1 4 1 = nI th := by rw [hF _ _ (by unfold pn_f at ha; omega)]; exact hC0.1.2.2.2.2.2.2.2.1.1
      have fr1 : FrF a M M1 := ⟨fun c k hk => hF c k (by omega), hR⟩
      have hC := hC0.kp (fr1.kp ha)
      have hP1 : PH M1 a n v h := fun x c hc hx => by rw [hF _ _ (by omega)]; exact hP x c hc hx
      have hB1 : BX M1 a i row (n 2) := fun c hc => by rw [hF _ _ (by omega), hF _ _ (by omega)]; exact hB c hc
      have kw := px_kw ha hC hP1 (x := j) (by omega) hrow hB1 hi
      have ej : M1.1 (a + 3) j = nI (mk (g j)) := by rw [hy j (by omega), if_neg (by omega)]
      have gj : ∀ p', g' j p' = if p' = p then g j p && ok1 v o w (n 2) j h row else g j p' := fun p' => by rw [← hg']
      -- the same bits again
      have same : mk (g' j) = mk (g j) → ∃ M', fX3_narrow_56 (fX3_narrow_2 a f) a b (nI (i * 3)) (nI j) M1 = some M' ∧ yrs M' a th g' ∧ (∀ c k, c ≠ a + 3 → M'.1 c k = M.1 c k) ∧ M'.2.2 = M.2.2 := by
        intro e
        obtain ⟨M', r1, r2⟩ := ih f (j + 1) M1 (by omega) (by omega) (by omega) (fun x hx => by
          by_cases hxj : x = j
          · subst hxj
            rw [ej, if_pos (by omega), e]
          · rw [hy x hx]
            by_cases h' : x < j
            · rw [if_pos h', if_pos (by omega)]
            · rw [if_neg h', if_neg (by omega)]) hF hR
        refine ⟨M', ?_, r2⟩
        simp (disch := omega) only [ev_ck, ev_ci, ev_cv, ev_lt_, ↓reduceIte, ev_lens, ev_ix, ev_nz, ev_cl, ev_cll, ev_add, ev_addl, ev_ladd, ev_mul, ev_mull, ev_lmul, ev_sub, ev_subl, ev_lsub, ev_lt, ev_ltl, ev_llt, ev_le, ev_lel, ev_lle, ev_eq, ev_eql, ev_leq, ev_nm1, ev_nm5, ev_m1n, ev_neg1, ev_ltT, ev_ltF, ev_leT, ev_leF, ev_eqT, ev_eqF, ev_one0, ev_zero1, Nat.reduceAdd, Nat.reduceMul, Nat.reduceSub, ea_pI_eq, ev_pIn, ev_pIe, ea_pI_r, eq_self, fX3_narrow_56]
        exact r1
      by_cases hz : g j p = false
      · have z := eq_true ((hb.1 (g j)).mpr hz)
        obtain ⟨M', r1, r2⟩ := same (mk_congr (fun p' _ => by
          rw [gj]
          by_cases e : p' = p
          · rw [if_pos e, hz, e, hz]; rfl
          · rw [if_neg e]))
        refine ⟨M', ?_, r2⟩
        simp (disch := omega) only [ev_ck, ev_ci, ev_cv, ev_lt_, ↓reduceIte, ev_lens, ev_ix, ev_nz, ev_cl, ev_cll, ev_add, ev_addl, ev_ladd, ev_mul, ev_mull, ev_lmul, ev_sub, ev_subl, ev_lsub, ev_lt, ev_ltl, ev_llt, ev_le, ev_lel, ev_lle, ev_eq, ev_eql, ev_leq, ev_nm1, ev_nm5, ev_m1n, ev_neg1, ev_ltT, ev_ltF, ev_leT, ev_leF, ev_eqT, ev_eqF, ev_one0, ev_zero1, Nat.reduceAdd, Nat.reduceMul, Nat.reduceSub, ea_pI_eq, ev_pIn, ev_pIe, ea_pI_r, eq_self, fX3_narrow_2, e41, l3, ej, z]
        exact r1
      · have z := eq_false (fun q => hz ((hb.1 (g j)).mp q))
        have hz' : g j p = true := by simpa using hz
        by_cases k1 : ok1 v o w (n 2) j h row = true
        · obtain ⟨M', r1, r2⟩ := same (mk_congr (fun p' _ => by
            rw [gj]
            by_cases e : p' = p
            · rw [if_pos e, hz', k1, e, hz']; rfl
            · rw [if_neg e]))
          refine ⟨M', ?_, r2⟩
          rw [k1, if_pos rfl] at kw
          simp (disch := omega) only [ev_ck, ev_ci, ev_cv, ev_lt_, ↓reduceIte, ev_lens, ev_ix, ev_nz, ev_cl, ev_cll, ev_add, ev_addl, ev_ladd, ev_mul, ev_mull, ev_lmul, ev_sub, ev_subl, ev_lsub, ev_lt, ev_ltl, ev_llt, ev_le, ev_lel, ev_lle, ev_eq, ev_eql, ev_leq, ev_nm1, ev_nm5, ev_m1n, ev_neg1, ev_ltT, ev_ltF, ev_leT, ev_leF, ev_eqT, ev_eqF, ev_one0, ev_zero1, Nat.reduceAdd, Nat.reduceMul, Nat.reduceSub, ea_pI_eq, ev_pIn, ev_pIe, ea_pI_r, eq_self, fX3_narrow_2, e41, l3, ej, z, kw]
          exact r1
        · have k1 := Bool.eq_false_iff.mpr k1
          rw [k1, if_neg (by decide)] at kw
          have cl := hb.2 (g j)
          rw [mk_congr (f := fun p' => if p' = p then false else g j p') (g := g' j) (fun p' _ => by
            show (if p' = p then false else g j p') = g' j p'
            rw [gj]
            by_cases e : p' = p
            · rw [if_pos e, if_pos e, k1, Bool.and_false]
            · rw [if_neg e, if_neg e])] at cl
          obtain ⟨M', r1, r2⟩ := ih f (j + 1) (ea_pI M1 (a + 3) j (nI (mk (g' j)))) (by omega) (by omega) (by omega) (fun x hx => by
            by_cases hxj : x = j
            · subst hxj
              rw [ea_pI_eq, if_pos (by omega)]
            · rw [ea_pI_ne (by omega), hy x hx]
              by_cases h' : x < j
              · rw [if_pos h', if_pos (by omega)]
              · rw [if_neg h', if_neg (by omega)]) (fun c k hk => by rw [ea_pI_ne (by omega)]; exact hF c k hk) hR
          refine ⟨M', ?_, r2⟩
          simp (disch := omega) only [ev_ck, ev_ci, ev_cv, ev_lt_, ↓reduceIte, ev_lens, ev_ix, ev_nz, ev_cl, ev_cll, ev_add, ev_addl, ev_ladd, ev_mul, ev_mull, ev_lmul, ev_sub, ev_subl, ev_lsub, ev_lt, ev_ltl, ev_llt, ev_le, ev_lel, ev_lle, ev_eq, ev_eql, ev_leq, ev_nm1, ev_nm5, ev_m1n, ev_neg1, ev_ltT, ev_ltF, ev_leT, ev_leF, ev_eqT, ev_eqF, ev_one0, ev_zero1, Nat.reduceAdd, Nat.reduceMul, Nat.reduceSub, ea_pI_eq, ev_pIn, ev_pIe, ea_pI_r, eq_self, fX3_narrow_2, e41, l3, ej, z, kw, cl, fX3_narrow_56]
          exact r1
  exact lp th ea_N 0 M (by omega) (by omega) (by unfold ea_N; omega) (fun x hx => by rw [if_neg (by omega)]; exact hY x hx) (fun _ _ _ => rfl) rfl
end NW
