/-- a byte, as it is and without its sign -/
theorem byt8 {x : Int32} (h : x.toInt8.toInt32 = x) : ∃ u : Nat, u < 256 ∧ x &&& 255 = nI u ∧ (u < 128 → x = nI u) ∧ (128 ≤ u → x < 0) := by
  have key : ∀ u, u < 256 → ((Int8.ofBitVec (BitVec.ofNat 8 u)).toInt32 &&& 255 = nI u ∧ (u < 128 → (Int8.ofBitVec (BitVec.ofNat 8 u)).toInt32 = nI u) ∧ (128 ≤ u → (Int8.ofBitVec (BitVec.ofNat 8 u)).toInt32 < 0)) := by decide +kernel
  have e : x = (Int8.ofBitVec (BitVec.ofNat 8 x.toInt8.toBitVec.toNat)).toInt32 := by
    rw [BitVec.ofNat_toNat, BitVec.setWidth_eq]
    exact h.symm
  have hu : x.toInt8.toBitVec.toNat < 256 := x.toInt8.toBitVec.isLt
  have k := key _ hu
  rw [← e] at k
  exact ⟨x.toInt8.toBitVec.toNat, hu, k⟩
def isLt (u : Nat) : Bool := decide (97 ≤ u) && decide (u ≤ 122)
def isDg (u : Nat) : Bool := decide (48 ≤ u) && decide (u ≤ 57)
def isBk (u : Nat) : Bool := decide (u = 32) || decide (u = 10)
/-- the tape's bytes as both sides hold them -/
def BY (M : eM) (B : Nat → Nat) (len : Nat) : Prop := len ≤ 900 ∧ ∀ k, k < len → B k < 256 ∧ M.1 101 k &&& 255 = nI (B k) ∧ (B k < 128 → M.1 2 k = nI (B k)) ∧ (128 ≤ B k → M.1 2 k < 0)
/-- runs: how many places from p on a test holds -/
def rn (t : Nat → Bool) (B : Nat → Nat) (len : Nat) : Nat → Nat → Nat
  | 0, p => p
  | d + 1, p => if p < len then (if t (B p) = true then rn t B len d (p + 1) else p) else p
def rnr (t : Nat → Bool) (B : Nat → Nat) (len p : Nat) : Nat := rn t B len (len - p) p
theorem rnr_no {t : Nat → Bool} {B : Nat → Nat} {len p : Nat} (h : p < len → t (B p) = false) : rnr t B len p = p := by
  unfold rnr
  cases hd : len - p with
  | zero => rfl
  | succ d =>
    show (if p < len then (if t (B p) = true then _ else p) else p) = p
    rw [if_pos (by omega), h (by omega), if_neg Bool.false_ne_true]
theorem rnr_yes {t : Nat → Bool} {B : Nat → Nat} {len p : Nat} (h : p < len) (ht : t (B p) = true) : rnr t B len p = rnr t B len (p + 1) := by
  unfold rnr
  obtain ⟨d, hd⟩ : ∃ d, len - p = d + 1 := ⟨len - p - 1, by omega⟩
  rw [hd, show len - (p + 1) = d by omega]
  show (if p < len then (if t (B p) = true then rn t B len d (p + 1) else p) else p) = _
  rw [if_pos h, if_pos ht]
theorem rnr_b {t : Nat → Bool} {B : Nat → Nat} {len : Nat} : ∀ (d p : Nat), len - p = d → p ≤ len → p ≤ rnr t B len p ∧ rnr t B len p ≤ len := by
  intro d
  induction d with
  | zero =>
    intro p hd hp
    rw [rnr_no (fun h => by omega)]
    exact ⟨Nat.le_refl _, hp⟩
  | succ d ih =>
    intro p hd hp
    by_cases ht : t (B p) = true
    · rw [rnr_yes (by omega) ht]
      have := ih (p + 1) (by omega) (by omega)
      omega
    · rw [rnr_no (fun _ => Bool.eq_false_iff.mpr ht)]
      exact ⟨Nat.le_refl _, hp⟩
/-- the TOKEN from p on: where it begins and ends, and its kind (0 none left, 1 WORD, 2 number, 3 ';', 4 no TOKEN) -/
def tS (B : Nat → Nat) (len p : Nat) : Nat := rnr isBk B len p
def tE (B : Nat → Nat) (len p : Nat) : Nat := if len ≤ tS B len p then tS B len p else if isLt (B (tS B len p)) = true then rnr isLt B len (tS B len p) else if isDg (B (tS B len p)) = true then rnr isDg B len (tS B len p) else tS B len p + 1
def tK (B : Nat → Nat) (len p : Nat) : Nat := if len ≤ tS B len p then 0 else if isLt (B (tS B len p)) = true then (if tE B len p - tS B len p ≤ 8 then 1 else 4) else if isDg (B (tS B len p)) = true then (if tE B len p - tS B len p ≤ 4 then 2 else 4) else if B (tS B len p) = 59 then 3 else 4
/-- a number's value, a WORD's code -/
def nvl (B : Nat → Nat) (q : Nat) : Nat → Nat
  | 0 => 0
  | d + 1 => nvl B q d * 10 + (B (q + d) - 48)
def wcd (b : Nat) (B : Nat → Nat) (q : Nat) : Nat → Nat
  | 0 => 0
  | d + 1 => wcd b B q d * b + (B (q + d) - 96)
theorem nvl_le {B : Nat → Nat} {q : Nat} : ∀ d, (∀ i, i < d → B (q + i) ≤ 57) → nvl B q d + 1 ≤ 10 ^ d
  | 0, _ => Nat.le_refl _
  | d + 1, h => by
    have ih := nvl_le d (fun i hi => h i (by omega))
    have := h d (by omega)
    show nvl B q d * 10 + (B (q + d) - 48) + 1 ≤ 10 ^ (d + 1)
    rw [Nat.pow_succ]
    omega
section TK0
variable {M : eM} {B : Nat → Nat} {len : Nat}
theorem bk_x (h : BY M B len) {k : Nat} (hk : k < len) (M1 : eM) : fX2_isBlankByte (M.1 2 k) M1 = some (if isBk (B k) = true then 1 else 0, M1) := by
  obtain ⟨b1, -, b3, b4⟩ := h.2 k hk
  unfold fX2_isBlankByte fX2_isBlankByte_0 fX2_isBlankByte_12 isBk
  by_cases hb : B k < 128
  · rw [b3 hb]
    by_cases e1 : B k = 32
    · rw [if_pos (by rw [e1]; rfl), decide_eq_true e1]
      rfl
    · rw [if_neg (by rw [show (32 : Int32) = nI 32 from rfl, pn_eqI (by omega) (by omega)]; exact e1), decide_eq_false e1]
      by_cases e2 : B k = 10
      · rw [if_pos (by rw [e2]; rfl), decide_eq_true e2]
        rfl
      · rw [if_neg (by rw [show (10 : Int32) = nI 10 from rfl, pn_eqI (by omega) (by omega)]; exact e2), decide_eq_false e2]
        rfl
  · have hn := b4 (by omega)
    rw [decide_eq_false (by omega : ¬ B k = 32), decide_eq_false (by omega : ¬ B k = 10), if_neg (fun e => by rw [e] at hn; exact absurd hn (by decide)), if_neg (fun e => by rw [e] at hn; exact absurd hn (by decide))]
    rfl
theorem lt_x (h : BY M B len) {k : Nat} (hk : k < len) (M1 : eM) : fX2_isLetter (M.1 2 k) M1 = some (if isLt (B k) = true then 1 else 0, M1) := by
  obtain ⟨b1, -, b3, b4⟩ := h.2 k hk
  unfold fX2_isLetter fX2_isLetter_0 isLt
  by_cases hb : B k < 128
  · rw [b3 hb]
    have w1 : (nI (B k) < (97 : Int32)) = (B k < 97) := pn_ltI (b := 97) (show B k < 2 ^ 31 by omega) (by decide)
    have w2 : ((122 : Int32) < nI (B k)) = (122 < B k) := pn_ltI (a := 122) (by decide) (show B k < 2 ^ 31 by omega)
    by_cases c1 : B k < 97
    · rw [if_pos (w1.mpr c1), decide_eq_false (by omega : ¬ 97 ≤ B k)]
      rfl
    · rw [if_neg (fun z => c1 (w1.mp z)), decide_eq_true (by omega : 97 ≤ B k)]
      by_cases c2 : 122 < B k
      · rw [if_pos (w2.mpr c2), decide_eq_false (by omega : ¬ B k ≤ 122)]
        rfl
      · rw [if_neg (fun z => c2 (w2.mp z)), decide_eq_true (by omega : B k ≤ 122)]
        rfl
  · have hn := b4 (by omega)
    rw [if_pos (Int32.lt_trans hn (by decide)), decide_eq_false (by omega : ¬ B k ≤ 122), Bool.and_false]
    rfl
theorem dg_x (h : BY M B len) {k : Nat} (hk : k < len) (M1 : eM) : fX2_isDigit (M.1 2 k) M1 = some (if isDg (B k) = true then 1 else 0, M1) := by
  obtain ⟨b1, -, b3, b4⟩ := h.2 k hk
  unfold fX2_isDigit fX2_isDigit_0 isDg
  by_cases hb : B k < 128
  · rw [b3 hb]
    have w1 : (nI (B k) < (48 : Int32)) = (B k < 48) := pn_ltI (b := 48) (show B k < 2 ^ 31 by omega) (by decide)
    have w2 : ((57 : Int32) < nI (B k)) = (57 < B k) := pn_ltI (a := 57) (by decide) (show B k < 2 ^ 31 by omega)
    by_cases c1 : B k < 48
    · rw [if_pos (w1.mpr c1), decide_eq_false (by omega : ¬ 48 ≤ B k)]
      rfl
    · rw [if_neg (fun z => c1 (w1.mp z)), decide_eq_true (by omega : 48 ≤ B k)]
      by_cases c2 : 57 < B k
      · rw [if_pos (w2.mpr c2), decide_eq_false (by omega : ¬ B k ≤ 57)]
        rfl
      · rw [if_neg (fun z => c2 (w2.mp z)), decide_eq_true (by omega : B k ≤ 57)]
        rfl
  · have hn := b4 (by omega)
    rw [if_pos (Int32.lt_trans hn (by decide)), decide_eq_false (by omega : ¬ B k ≤ 57), Bool.and_false]
    rfl
theorem py_byte (h : BY M B len) (h2 : M.1 100 2 = nI len) {k : Nat} (hk : k ≤ 1000) : fX11_byteAt (nI k) M = some (if k < len then nI (B k) else -1, M) := by
  have hl := h.1
  unfold fX11_byteAt fX11_byteAt_0
  rw [h2]
  by_cases c : k < len
  · obtain ⟨-, b2, -⟩ := h.2 k c
    rw [if_pos c]
    simp (disch := omega) only [ev_ck, ev_ci, ev_cv, ev_lt_, ↓reduceIte, ev_lens, ev_ix, ev_nz, ev_cl, ev_cll, ev_add, ev_addl, ev_ladd, ev_mul, ev_mull, ev_lmul, ev_sub, ev_subl, ev_lsub, ev_lt, ev_ltl, ev_llt, ev_le, ev_lel, ev_lle, ev_eq, ev_eql, ev_leq, ev_nm1, ev_nm5, ev_m1n, ev_neg1, ev_ltT, ev_ltF, ev_leT, ev_leF, ev_eqT, ev_eqF, ev_one0, ev_zero1, Nat.reduceAdd, Nat.reduceMul, Nat.reduceSub, ea_pI_eq, ev_pIn, ev_pIe, ea_pI_r, eq_self, b2]
  · rw [if_neg c]
    simp (disch := omega) only [ev_ck, ev_ci, ev_cv, ev_lt_, ↓reduceIte, ev_lens, ev_ix, ev_nz, ev_cl, ev_cll, ev_add, ev_addl, ev_ladd, ev_mul, ev_mull, ev_lmul, ev_sub, ev_subl, ev_lsub, ev_lt, ev_ltl, ev_llt, ev_le, ev_lel, ev_lle, ev_eq, ev_eql, ev_leq, ev_nm1, ev_nm5, ev_m1n, ev_neg1, ev_ltT, ev_ltF, ev_leT, ev_leF, ev_eqT, ev_eqF, ev_one0, ev_zero1, Nat.reduceAdd, Nat.reduceMul, Nat.reduceSub, ea_pI_eq, ev_pIn, ev_pIe, ea_pI_r, eq_self]
end TK0
