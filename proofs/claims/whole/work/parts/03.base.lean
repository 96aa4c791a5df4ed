abbrev eM : Type := (Nat → Nat → Int32) × (Nat → Nat → Int64) × (Nat → Nat → Nat)
abbrev eE : Type := (Nat → Nat) × (Nat → ClassId) × va_G × (Nat → Nat)
abbrev ea_cl : List vw_C := [(RX0, TX0, 1), (RX1, TX1, 18), (RX2, TX2, 10), (RX3, TX3, 15), (RX4, TX4, 2), (RX5, TX5, 2), (RX6, TX6, 7), (RX7, TX7, 2), (RX8, TX8, 8), (RX9, TX9, 4), (RX10, TX10, 12), (RX11, TX11, 48)]
def ea_kinds : List Nat := [10, 7, 22, 2, 9, 20, 20, 99, 99, 99, 1, 20, 20, 21, 20, 21, 20, 20, 21, 20, 1, 20, 20, 21, 20, 21, 20, 20, 21, 20, 8, 20, 20, 20, 8, 20, 20, 20, 8, 20, 20, 20, 8, 20, 20, 20, 24, 99, 99, 99, 3, 5, 20, 20, 20, 20, 20, 20, 20, 20, 3, 5, 20, 20, 20, 20, 20, 20, 20, 20, 4, 20, 6, 20, 20, 20, 20, 20, 0, 20, 99, 99, 99, 99, 99, 99, 99, 99, 99, 99, 99, 99, 99, 99, 99, 99, 99, 99, 99, 99, 11, 22, 20, 21, 21, 21, 20, 20, 20, 20, 20, 20, 20, 20, 20, 23, 20, 20, 20, 20, 20, 20, 23, 23, 20, 20, 20, 20, 20, 20]
def ea_lens : List Nat := [0, 0, 900, 0, 0, 855, 855, 0, 0, 0, 0, 3, 3, 5, 30, 4, 4, 96, 2, 18, 0, 3, 3, 5, 30, 4, 4, 96, 2, 18, 0, 540, 120, 120, 0, 540, 120, 120, 0, 540, 120, 120, 0, 540, 120, 120, 3, 0, 0, 0, 0, 0, 138, 855, 3, 3, 22, 22, 66, 66, 0, 0, 138, 855, 3, 3, 22, 22, 66, 66, 0, 3420, 0, 3, 3, 3, 3, 189, 0, 48, 0, 0, 0, 0, 0, 0, 0, 0, 0, 0, 0, 0, 0, 0, 0, 0, 0, 0, 0, 0, 0, 900, 28, 5, 4, 2, 60, 8, 192, 36, 855, 855, 855, 855, 3416, 3, 22, 22, 66, 3420, 3420, 88, 855, 855, 48, 8192, 8192, 8, 3, 3]
def ea_kind (c : Nat) : Nat := ea_kinds.getD c 99
def ea_len (c : Nat) : Nat := ea_lens.getD c 0
def ea_szs : List Nat := [1, 10, 1, 10, 2, 2, 6, 2, 4, 3, 1, 30]
def ea_sz (K : Nat) : Nat := ea_szs.getD K 1
def ea_fs (E : eE) (M : eM) (c : Nat) : Nat → List Value
  | 0 => [.long (M.2.1 c 0)]
  | 1 => [.int (M.1 c 0), .int (M.1 c 1), .int (M.1 c 2), .int (M.1 c 3), .int (M.1 c 4), .ref (E.1 (c + 1)), .int (M.1 c 6), .ref (E.1 (c + 2)), .int (M.1 c 8), .ref (E.1 (c + 3)), .ref (E.1 (c + 4)), .int (M.1 c 11), .ref (E.1 (c + 5)), .ref (E.1 (c + 6)), .ref (E.1 (c + 7)), .int (M.1 c 15), .ref (E.1 (c + 8)), .ref (E.1 (c + 9))]
  | 2 => [.int (M.1 c 0), .int (M.1 c 1), .ref (E.1 1), .ref (E.1 (M.2.2 c 3)), .int (M.1 c 4), .int (M.1 c 5), .int (M.1 c 6), .int (M.1 c 7), .int (M.1 c 8), .long (M.2.1 c 9)]
  | 3 => [.ref (E.1 4), .ref (E.1 30), .ref (E.1 (c + 1)), .ref (E.1 (c + 3)), .ref (E.1 (c + 4)), .ref (E.1 (c + 5)), .int (M.1 c 6), .int (M.1 c 7), .int (M.1 c 8), .int (M.1 c 9), .int (M.1 c 10), .ref (E.1 (c + 6)), .ref (E.1 (c + 7)), .ref (E.1 (c + 8)), .ref (E.1 (c + 9))]
  | 4 => [.ref (E.1 (c + 1)), .int (M.1 c 1)]
  | 5 => [.ref (E.1 4), .ref (E.1 (c + 1))]
  | 6 => [.ref (E.1 (c + 1)), .ref (E.1 (c + 2)), .ref (E.1 (c + 3)), .int (M.1 c 3), .ref (E.1 (c + 4)), .ref (E.1 (c + 5)), .int (M.1 c 6)]
  | 7 => [.ref (E.1 (c + 1)), .int (M.1 c 1)]
  | 8 => [.ref (E.1 (c + 1)), .ref (E.1 (c + 2)), .ref (E.1 (c + 3)), .int (M.1 c 3), .int (M.1 c 4), .int (M.1 c 5), .int (M.1 c 6), .int (M.1 c 7)]
  | 9 => [.ref (E.1 (M.2.2 c 0)), .int (M.1 c 1), .ref (E.1 (c + 1)), .ref (E.1 (c + 2))]
  | 10 => [.ref (E.1 1), .ref (E.1 3), .ref (E.1 4), .ref (E.1 (M.2.2 c 3)), .ref (E.1 30), .ref (E.1 46), .ref (E.1 50), .ref (E.1 60), .ref (E.1 70), .ref (E.1 72), .ref (E.1 78), .ref (E.1 79)]
  | 11 => [.ref (E.1 (c + 1)), .int (M.1 c 1), .int (M.1 c 2), .int (M.1 c 3), .int (M.1 c 4), .int (M.1 c 5), .int (M.1 c 6), .int (M.1 c 7), .int (M.1 c 8), .int (M.1 c 9), .long (M.2.1 c 10), .int (M.1 c 11), .ref (E.1 (c + 2)), .ref (E.1 (c + 3)), .ref (E.1 (c + 4)), .ref (E.1 (c + 5)), .ref (E.1 (c + 6)), .ref (E.1 (c + 7)), .ref (E.1 (c + 8)), .ref (E.1 (c + 9)), .int (M.1 c 20), .int (M.1 c 21), .int (M.1 c 22), .ref (E.1 (c + 10)), .ref (E.1 (c + 11)), .ref (E.1 (c + 12)), .ref (E.1 (c + 13)), .ref (E.1 (c + 14)), .ref (E.1 (c + 15)), .int (M.1 c 29), .ref (E.1 (c + 16)), .ref (E.1 (c + 17)), .ref (E.1 (c + 18)), .int (M.1 c 33), .int (M.1 c 34), .ref (E.1 (c + 19)), .ref (E.1 (c + 20)), .ref (E.1 (c + 21)), .ref (E.1 (c + 22)), .ref (E.1 (c + 23)), .ref (E.1 (c + 24)), .ref (E.1 (c + 25)), .ref (E.1 (c + 26)), .ref (E.1 (c + 27)), .ref (E.1 (c + 28)), .ref (E.1 (c + 29)), .int (M.1 c 46), .long (M.2.1 c 47)]
  | _ => []
def ea_ent (E : eE) (M : eM) (c : Nat) : va_E :=
  if ea_kind c = 20 then .inl (E.2.1 0, ea_len c, .inl (M.1 c)) else
  if ea_kind c = 21 then .inl (E.2.1 1, ea_len c, .inr (.inl (M.2.1 c))) else
  if ea_kind c = 22 then .inl (E.2.1 2, ea_len c, .inl (M.1 c)) else
  if ea_kind c = 23 then .inl (E.2.1 3, ea_len c, .inl (M.1 c)) else
  if ea_kind c = 24 then .inl (E.2.1 4, ea_len c, .inr (.inr (.inr (.inr (fun j => some (E.1 (34 + 4 * j))))))) else
  .inr (ea_kind c, ea_fs E M c (ea_kind c))
theorem ea_ent_congr {E : eE} {M M' : eM} {a : Nat} (h1 : M.1 a = M'.1 a) (h2 : M.2.1 a = M'.2.1 a) (h3 : M.2.2 a = M'.2.2 a) : ea_ent E M a = ea_ent E M' a := by
  have hf : ∀ K, ea_fs E M a K = ea_fs E M' a K := by
    intro K
    unfold ea_fs
    split <;> simp only [h1, h2, h3]
  unfold ea_ent
  rw [h1, h2, hf]
theorem ea_entI {E : eE} {M : eM} {c : Nat} (h : ea_kind c = 20) : ea_ent E M c = .inl (E.2.1 0, ea_len c, .inl (M.1 c)) := by simp [ea_ent, h]
theorem ea_entL {E : eE} {M : eM} {c : Nat} (h : ea_kind c = 21) : ea_ent E M c = .inl (E.2.1 1, ea_len c, .inr (.inl (M.2.1 c))) := by simp [ea_ent, h]
theorem ea_entB {E : eE} {M : eM} {c : Nat} (h : ea_kind c = 22) : ea_ent E M c = .inl (E.2.1 2, ea_len c, .inl (M.1 c)) := by simp [ea_ent, h]
theorem ea_entZ {E : eE} {M : eM} {c : Nat} (h : ea_kind c = 23) : ea_ent E M c = .inl (E.2.1 3, ea_len c, .inl (M.1 c)) := by simp [ea_ent, h]
theorem ea_entT {E : eE} {M : eM} {c : Nat} (h : ea_kind c = 24) : ea_ent E M c = .inl (E.2.1 4, ea_len c, .inr (.inr (.inr (.inr (fun j => some (E.1 (34 + 4 * j))))))) := by simp [ea_ent, h]
theorem ea_entO {E : eE} {M : eM} {c K : Nat} (h : ea_kind c = K) (hK : K < 20) : ea_ent E M c = .inr (K, ea_fs E M c K) := by
  subst h
  unfold ea_ent
  rw [if_neg (by omega), if_neg (by omega), if_neg (by omega), if_neg (by omega), if_neg (by omega)]
/-- writes -/
def ea_pI (M : eM) (c k : Nat) (v : Int32) : eM := (fun a => if a = c then upd (M.1 c) k v else M.1 a, M.2)
def ea_pL (M : eM) (c k : Nat) (v : Int64) : eM := (M.1, fun a => if a = c then vp_updL (M.2.1 c) k v else M.2.1 a, M.2.2)
def ea_pR (M : eM) (c k : Nat) (v : Nat) : eM := (M.1, M.2.1, fun a => if a = c then (fun j => if j = k then v else M.2.2 c j) else M.2.2 a)
theorem ea_pI_o {E : eE} {M : eM} {c k a : Nat} {v : Int32} (h : a ≠ c) : ea_ent E (ea_pI M c k v) a = ea_ent E M a := ea_ent_congr (if_neg h) rfl rfl
theorem ea_pL_o {E : eE} {M : eM} {c k a : Nat} {v : Int64} (h : a ≠ c) : ea_ent E (ea_pL M c k v) a = ea_ent E M a := ea_ent_congr rfl (if_neg h) rfl
theorem ea_pR_o {E : eE} {M : eM} {c k a : Nat} {v : Nat} (h : a ≠ c) : ea_ent E (ea_pR M c k v) a = ea_ent E M a := ea_ent_congr rfl rfl (if_neg h)
theorem ea_pI_s {M : eM} {c k : Nat} {v : Int32} : (ea_pI M c k v).1 c = upd (M.1 c) k v := if_pos rfl
theorem ea_pL_s {M : eM} {c k : Nat} {v : Int64} : (ea_pL M c k v).2.1 c = vp_updL (M.2.1 c) k v := if_pos rfl
theorem ea_pR_s {M : eM} {c k : Nat} {v : Nat} : (ea_pR M c k v).2.2 c = (fun j => if j = k then v else M.2.2 c j) := if_pos rfl
/-- a cell of a kind, with what it owns -/
def ea_ok (ids : List Nat) (c K : Nat) : Prop := ea_kind c = K ∧ ∀ j, j < ea_sz K → c + j ∈ ids
def ea_rX (c K : Nat) : Bool := decide (c < 100) && (ea_kind c == K) && decide (K ≠ 99)
def ea_rM (c K : Nat) : Bool := decide (100 ≤ c) && (ea_kind c == K) && decide (K ≠ 99)
def ea_X (ids : List Nat) : Prop := ∀ c K, ea_rX c K = true → ea_ok ids c K
def ea_Y (ids : List Nat) : Prop := ∀ c K, ea_rM c K = true → ea_ok ids c K
theorem ea_ok.mem {ids : List Nat} {c K : Nat} (h : ea_ok ids c K) (hz : 0 < ea_sz K) : c ∈ ids := h.2 0 hz
theorem ea_kind_lt {c K : Nat} (h : ea_kind c = K) (hK : K ≠ 99) : c < 130 := by
  rcases Nat.lt_or_ge c 130 with q | q
  · exact q
  · exact absurd (show ea_kind c = 99 by unfold ea_kind; rw [List.getD_eq_getElem?_getD, List.getElem?_eq_none (show ea_kinds.length ≤ c from q)]; rfl) (by omega)
theorem ea_own {ids : List Nat} {c K j K2 : Nat} (h : ea_ok ids c K) (hK : K ≠ 99) (hj : j < ea_sz K) (hsz : ea_sz K2 + j ≤ ea_sz K) (hall : ∀ c, c < 130 → ea_kind c = K → ea_kind (c + j) = K2) : ea_ok ids (c + j) K2 := by
  refine ⟨hall c (ea_kind_lt h.1 hK) h.1, fun i hi => ?_⟩
  rw [Nat.add_assoc]
  exact h.2 (j + i) (by omega)
theorem ok_1_5 {ids : List Nat} {c : Nat} (h : ea_ok ids c 1) : ea_ok ids (c + 1) 20 := ea_own h (by decide) (by decide) (by decide) (by decide +kernel)
theorem ok_1_7 {ids : List Nat} {c : Nat} (h : ea_ok ids c 1) : ea_ok ids (c + 2) 20 := ea_own h (by decide) (by decide) (by decide) (by decide +kernel)
theorem ok_1_9 {ids : List Nat} {c : Nat} (h : ea_ok ids c 1) : ea_ok ids (c + 3) 21 := ea_own h (by decide) (by decide) (by decide) (by decide +kernel)
theorem ok_1_10 {ids : List Nat} {c : Nat} (h : ea_ok ids c 1) : ea_ok ids (c + 4) 20 := ea_own h (by decide) (by decide) (by decide) (by decide +kernel)
theorem ok_1_12 {ids : List Nat} {c : Nat} (h : ea_ok ids c 1) : ea_ok ids (c + 5) 21 := ea_own h (by decide) (by decide) (by decide) (by decide +kernel)
theorem ok_1_13 {ids : List Nat} {c : Nat} (h : ea_ok ids c 1) : ea_ok ids (c + 6) 20 := ea_own h (by decide) (by decide) (by decide) (by decide +kernel)
theorem ok_1_14 {ids : List Nat} {c : Nat} (h : ea_ok ids c 1) : ea_ok ids (c + 7) 20 := ea_own h (by decide) (by decide) (by decide) (by decide +kernel)
theorem ok_1_16 {ids : List Nat} {c : Nat} (h : ea_ok ids c 1) : ea_ok ids (c + 8) 21 := ea_own h (by decide) (by decide) (by decide) (by decide +kernel)
theorem ok_1_17 {ids : List Nat} {c : Nat} (h : ea_ok ids c 1) : ea_ok ids (c + 9) 20 := ea_own h (by decide) (by decide) (by decide) (by decide +kernel)
theorem ok_3_2 {ids : List Nat} {c : Nat} (h : ea_ok ids c 3) : ea_ok ids (c + 1) 5 := ea_own h (by decide) (by decide) (by decide) (by decide +kernel)
theorem ok_3_3 {ids : List Nat} {c : Nat} (h : ea_ok ids c 3) : ea_ok ids (c + 3) 20 := ea_own h (by decide) (by decide) (by decide) (by decide +kernel)
theorem ok_3_4 {ids : List Nat} {c : Nat} (h : ea_ok ids c 3) : ea_ok ids (c + 4) 20 := ea_own h (by decide) (by decide) (by decide) (by decide +kernel)
theorem ok_3_5 {ids : List Nat} {c : Nat} (h : ea_ok ids c 3) : ea_ok ids (c + 5) 20 := ea_own h (by decide) (by decide) (by decide) (by decide +kernel)
theorem ok_3_11 {ids : List Nat} {c : Nat} (h : ea_ok ids c 3) : ea_ok ids (c + 6) 20 := ea_own h (by decide) (by decide) (by decide) (by decide +kernel)
theorem ok_3_12 {ids : List Nat} {c : Nat} (h : ea_ok ids c 3) : ea_ok ids (c + 7) 20 := ea_own h (by decide) (by decide) (by decide) (by decide +kernel)
theorem ok_3_13 {ids : List Nat} {c : Nat} (h : ea_ok ids c 3) : ea_ok ids (c + 8) 20 := ea_own h (by decide) (by decide) (by decide) (by decide +kernel)
theorem ok_3_14 {ids : List Nat} {c : Nat} (h : ea_ok ids c 3) : ea_ok ids (c + 9) 20 := ea_own h (by decide) (by decide) (by decide) (by decide +kernel)
theorem ok_4_0 {ids : List Nat} {c : Nat} (h : ea_ok ids c 4) : ea_ok ids (c + 1) 20 := ea_own h (by decide) (by decide) (by decide) (by decide +kernel)
theorem ok_5_1 {ids : List Nat} {c : Nat} (h : ea_ok ids c 5) : ea_ok ids (c + 1) 20 := ea_own h (by decide) (by decide) (by decide) (by decide +kernel)
theorem ok_6_0 {ids : List Nat} {c : Nat} (h : ea_ok ids c 6) : ea_ok ids (c + 1) 20 := ea_own h (by decide) (by decide) (by decide) (by decide +kernel)
theorem ok_6_1 {ids : List Nat} {c : Nat} (h : ea_ok ids c 6) : ea_ok ids (c + 2) 20 := ea_own h (by decide) (by decide) (by decide) (by decide +kernel)
theorem ok_6_2 {ids : List Nat} {c : Nat} (h : ea_ok ids c 6) : ea_ok ids (c + 3) 20 := ea_own h (by decide) (by decide) (by decide) (by decide +kernel)
theorem ok_6_4 {ids : List Nat} {c : Nat} (h : ea_ok ids c 6) : ea_ok ids (c + 4) 20 := ea_own h (by decide) (by decide) (by decide) (by decide +kernel)
theorem ok_6_5 {ids : List Nat} {c : Nat} (h : ea_ok ids c 6) : ea_ok ids (c + 5) 20 := ea_own h (by decide) (by decide) (by decide) (by decide +kernel)
theorem ok_7_0 {ids : List Nat} {c : Nat} (h : ea_ok ids c 7) : ea_ok ids (c + 1) 22 := ea_own h (by decide) (by decide) (by decide) (by decide +kernel)
theorem ok_8_0 {ids : List Nat} {c : Nat} (h : ea_ok ids c 8) : ea_ok ids (c + 1) 20 := ea_own h (by decide) (by decide) (by decide) (by decide +kernel)
theorem ok_8_1 {ids : List Nat} {c : Nat} (h : ea_ok ids c 8) : ea_ok ids (c + 2) 20 := ea_own h (by decide) (by decide) (by decide) (by decide +kernel)
theorem ok_8_2 {ids : List Nat} {c : Nat} (h : ea_ok ids c 8) : ea_ok ids (c + 3) 20 := ea_own h (by decide) (by decide) (by decide) (by decide +kernel)
theorem ok_9_2 {ids : List Nat} {c : Nat} (h : ea_ok ids c 9) : ea_ok ids (c + 1) 20 := ea_own h (by decide) (by decide) (by decide) (by decide +kernel)
theorem ok_9_3 {ids : List Nat} {c : Nat} (h : ea_ok ids c 9) : ea_ok ids (c + 2) 20 := ea_own h (by decide) (by decide) (by decide) (by decide +kernel)
theorem ok_11_0 {ids : List Nat} {c : Nat} (h : ea_ok ids c 11) : ea_ok ids (c + 1) 22 := ea_own h (by decide) (by decide) (by decide) (by decide +kernel)
theorem ok_11_12 {ids : List Nat} {c : Nat} (h : ea_ok ids c 11) : ea_ok ids (c + 2) 20 := ea_own h (by decide) (by decide) (by decide) (by decide +kernel)
theorem ok_11_13 {ids : List Nat} {c : Nat} (h : ea_ok ids c 11) : ea_ok ids (c + 3) 21 := ea_own h (by decide) (by decide) (by decide) (by decide +kernel)
theorem ok_11_14 {ids : List Nat} {c : Nat} (h : ea_ok ids c 11) : ea_ok ids (c + 4) 21 := ea_own h (by decide) (by decide) (by decide) (by decide +kernel)
theorem ok_11_15 {ids : List Nat} {c : Nat} (h : ea_ok ids c 11) : ea_ok ids (c + 5) 21 := ea_own h (by decide) (by decide) (by decide) (by decide +kernel)
theorem ok_11_16 {ids : List Nat} {c : Nat} (h : ea_ok ids c 11) : ea_ok ids (c + 6) 20 := ea_own h (by decide) (by decide) (by decide) (by decide +kernel)
theorem ok_11_17 {ids : List Nat} {c : Nat} (h : ea_ok ids c 11) : ea_ok ids (c + 7) 20 := ea_own h (by decide) (by decide) (by decide) (by decide +kernel)
theorem ok_11_18 {ids : List Nat} {c : Nat} (h : ea_ok ids c 11) : ea_ok ids (c + 8) 20 := ea_own h (by decide) (by decide) (by decide) (by decide +kernel)
theorem ok_11_19 {ids : List Nat} {c : Nat} (h : ea_ok ids c 11) : ea_ok ids (c + 9) 20 := ea_own h (by decide) (by decide) (by decide) (by decide +kernel)
theorem ok_11_23 {ids : List Nat} {c : Nat} (h : ea_ok ids c 11) : ea_ok ids (c + 10) 20 := ea_own h (by decide) (by decide) (by decide) (by decide +kernel)
theorem ok_11_24 {ids : List Nat} {c : Nat} (h : ea_ok ids c 11) : ea_ok ids (c + 11) 20 := ea_own h (by decide) (by decide) (by decide) (by decide +kernel)
theorem ok_11_25 {ids : List Nat} {c : Nat} (h : ea_ok ids c 11) : ea_ok ids (c + 12) 20 := ea_own h (by decide) (by decide) (by decide) (by decide +kernel)
theorem ok_11_26 {ids : List Nat} {c : Nat} (h : ea_ok ids c 11) : ea_ok ids (c + 13) 20 := ea_own h (by decide) (by decide) (by decide) (by decide +kernel)
theorem ok_11_27 {ids : List Nat} {c : Nat} (h : ea_ok ids c 11) : ea_ok ids (c + 14) 20 := ea_own h (by decide) (by decide) (by decide) (by decide +kernel)
theorem ok_11_28 {ids : List Nat} {c : Nat} (h : ea_ok ids c 11) : ea_ok ids (c + 15) 23 := ea_own h (by decide) (by decide) (by decide) (by decide +kernel)
theorem ok_11_30 {ids : List Nat} {c : Nat} (h : ea_ok ids c 11) : ea_ok ids (c + 16) 20 := ea_own h (by decide) (by decide) (by decide) (by decide +kernel)
theorem ok_11_31 {ids : List Nat} {c : Nat} (h : ea_ok ids c 11) : ea_ok ids (c + 17) 20 := ea_own h (by decide) (by decide) (by decide) (by decide +kernel)
theorem ok_11_32 {ids : List Nat} {c : Nat} (h : ea_ok ids c 11) : ea_ok ids (c + 18) 20 := ea_own h (by decide) (by decide) (by decide) (by decide +kernel)
theorem ok_11_35 {ids : List Nat} {c : Nat} (h : ea_ok ids c 11) : ea_ok ids (c + 19) 20 := ea_own h (by decide) (by decide) (by decide) (by decide +kernel)
theorem ok_11_36 {ids : List Nat} {c : Nat} (h : ea_ok ids c 11) : ea_ok ids (c + 20) 20 := ea_own h (by decide) (by decide) (by decide) (by decide +kernel)
theorem ok_11_37 {ids : List Nat} {c : Nat} (h : ea_ok ids c 11) : ea_ok ids (c + 21) 20 := ea_own h (by decide) (by decide) (by decide) (by decide +kernel)
theorem ok_11_38 {ids : List Nat} {c : Nat} (h : ea_ok ids c 11) : ea_ok ids (c + 22) 23 := ea_own h (by decide) (by decide) (by decide) (by decide +kernel)
theorem ok_11_39 {ids : List Nat} {c : Nat} (h : ea_ok ids c 11) : ea_ok ids (c + 23) 23 := ea_own h (by decide) (by decide) (by decide) (by decide +kernel)
theorem ok_11_40 {ids : List Nat} {c : Nat} (h : ea_ok ids c 11) : ea_ok ids (c + 24) 20 := ea_own h (by decide) (by decide) (by decide) (by decide +kernel)
theorem ok_11_41 {ids : List Nat} {c : Nat} (h : ea_ok ids c 11) : ea_ok ids (c + 25) 20 := ea_own h (by decide) (by decide) (by decide) (by decide +kernel)
theorem ok_11_42 {ids : List Nat} {c : Nat} (h : ea_ok ids c 11) : ea_ok ids (c + 26) 20 := ea_own h (by decide) (by decide) (by decide) (by decide +kernel)
theorem ok_11_43 {ids : List Nat} {c : Nat} (h : ea_ok ids c 11) : ea_ok ids (c + 27) 20 := ea_own h (by decide) (by decide) (by decide) (by decide +kernel)
theorem ok_11_44 {ids : List Nat} {c : Nat} (h : ea_ok ids c 11) : ea_ok ids (c + 28) 20 := ea_own h (by decide) (by decide) (by decide) (by decide +kernel)
theorem ok_11_45 {ids : List Nat} {c : Nat} (h : ea_ok ids c 11) : ea_ok ids (c + 29) 20 := ea_own h (by decide) (by decide) (by decide) (by decide +kernel)
theorem ok_slot {ids : List Nat} (h : ea_X ids) {j : Nat} (hj : j < 3) : ea_ok ids (34 + 4 * j) 8 := by
  rcases (show j = 0 ∨ j = 1 ∨ j = 2 by omega) with rfl | rfl | rfl
  · exact h 34 8 rfl
  · exact h 38 8 rfl
  · exact h 42 8 rfl
theorem pf_0_0 {E : eE} {M : eM} {c : Nat} {v : Int64} (h : ea_kind c = 0) : ea_ent E (ea_pL M c 0 v) c = .inr (0, (ea_fs E M c 0).set 0 (.long v)) := by rw [ea_entO h (by decide)]; simp [ea_fs, ea_pL, vp_updL]
theorem pf_1_0 {E : eE} {M : eM} {c : Nat} {v : Int32} (h : ea_kind c = 1) : ea_ent E (ea_pI M c 0 v) c = .inr (1, (ea_fs E M c 1).set 0 (.int v)) := by rw [ea_entO h (by decide)]; simp [ea_fs, ea_pI, upd]
theorem pf_1_1 {E : eE} {M : eM} {c : Nat} {v : Int32} (h : ea_kind c = 1) : ea_ent E (ea_pI M c 1 v) c = .inr (1, (ea_fs E M c 1).set 1 (.int v)) := by rw [ea_entO h (by decide)]; simp [ea_fs, ea_pI, upd]
theorem pf_1_2 {E : eE} {M : eM} {c : Nat} {v : Int32} (h : ea_kind c = 1) : ea_ent E (ea_pI M c 2 v) c = .inr (1, (ea_fs E M c 1).set 2 (.int v)) := by rw [ea_entO h (by decide)]; simp [ea_fs, ea_pI, upd]
theorem pf_1_3 {E : eE} {M : eM} {c : Nat} {v : Int32} (h : ea_kind c = 1) : ea_ent E (ea_pI M c 3 v) c = .inr (1, (ea_fs E M c 1).set 3 (.int v)) := by rw [ea_entO h (by decide)]; simp [ea_fs, ea_pI, upd]
theorem pf_1_4 {E : eE} {M : eM} {c : Nat} {v : Int32} (h : ea_kind c = 1) : ea_ent E (ea_pI M c 4 v) c = .inr (1, (ea_fs E M c 1).set 4 (.int v)) := by rw [ea_entO h (by decide)]; simp [ea_fs, ea_pI, upd]
theorem pf_1_6 {E : eE} {M : eM} {c : Nat} {v : Int32} (h : ea_kind c = 1) : ea_ent E (ea_pI M c 6 v) c = .inr (1, (ea_fs E M c 1).set 6 (.int v)) := by rw [ea_entO h (by decide)]; simp [ea_fs, ea_pI, upd]
theorem pf_1_8 {E : eE} {M : eM} {c : Nat} {v : Int32} (h : ea_kind c = 1) : ea_ent E (ea_pI M c 8 v) c = .inr (1, (ea_fs E M c 1).set 8 (.int v)) := by rw [ea_entO h (by decide)]; simp [ea_fs, ea_pI, upd]
theorem pf_1_11 {E : eE} {M : eM} {c : Nat} {v : Int32} (h : ea_kind c = 1) : ea_ent E (ea_pI M c 11 v) c = .inr (1, (ea_fs E M c 1).set 11 (.int v)) := by rw [ea_entO h (by decide)]; simp [ea_fs, ea_pI, upd]
theorem pf_1_15 {E : eE} {M : eM} {c : Nat} {v : Int32} (h : ea_kind c = 1) : ea_ent E (ea_pI M c 15 v) c = .inr (1, (ea_fs E M c 1).set 15 (.int v)) := by rw [ea_entO h (by decide)]; simp [ea_fs, ea_pI, upd]
theorem pf_2_0 {E : eE} {M : eM} {c : Nat} {v : Int32} (h : ea_kind c = 2) : ea_ent E (ea_pI M c 0 v) c = .inr (2, (ea_fs E M c 2).set 0 (.int v)) := by rw [ea_entO h (by decide)]; simp [ea_fs, ea_pI, upd]
theorem pf_2_1 {E : eE} {M : eM} {c : Nat} {v : Int32} (h : ea_kind c = 2) : ea_ent E (ea_pI M c 1 v) c = .inr (2, (ea_fs E M c 2).set 1 (.int v)) := by rw [ea_entO h (by decide)]; simp [ea_fs, ea_pI, upd]
theorem pf_2_3 {E : eE} {M : eM} {c : Nat} {v : Nat} (h : ea_kind c = 2) : ea_ent E (ea_pR M c 3 v) c = .inr (2, (ea_fs E M c 2).set 3 (.ref (E.1 v))) := by rw [ea_entO h (by decide)]; simp [ea_fs, ea_pR]
theorem pf_2_4 {E : eE} {M : eM} {c : Nat} {v : Int32} (h : ea_kind c = 2) : ea_ent E (ea_pI M c 4 v) c = .inr (2, (ea_fs E M c 2).set 4 (.int v)) := by rw [ea_entO h (by decide)]; simp [ea_fs, ea_pI, upd]
theorem pf_2_5 {E : eE} {M : eM} {c : Nat} {v : Int32} (h : ea_kind c = 2) : ea_ent E (ea_pI M c 5 v) c = .inr (2, (ea_fs E M c 2).set 5 (.int v)) := by rw [ea_entO h (by decide)]; simp [ea_fs, ea_pI, upd]
theorem pf_2_6 {E : eE} {M : eM} {c : Nat} {v : Int32} (h : ea_kind c = 2) : ea_ent E (ea_pI M c 6 v) c = .inr (2, (ea_fs E M c 2).set 6 (.int v)) := by rw [ea_entO h (by decide)]; simp [ea_fs, ea_pI, upd]
theorem pf_2_7 {E : eE} {M : eM} {c : Nat} {v : Int32} (h : ea_kind c = 2) : ea_ent E (ea_pI M c 7 v) c = .inr (2, (ea_fs E M c 2).set 7 (.int v)) := by rw [ea_entO h (by decide)]; simp [ea_fs, ea_pI, upd]
theorem pf_2_8 {E : eE} {M : eM} {c : Nat} {v : Int32} (h : ea_kind c = 2) : ea_ent E (ea_pI M c 8 v) c = .inr (2, (ea_fs E M c 2).set 8 (.int v)) := by rw [ea_entO h (by decide)]; simp [ea_fs, ea_pI, upd]
theorem pf_2_9 {E : eE} {M : eM} {c : Nat} {v : Int64} (h : ea_kind c = 2) : ea_ent E (ea_pL M c 9 v) c = .inr (2, (ea_fs E M c 2).set 9 (.long v)) := by rw [ea_entO h (by decide)]; simp [ea_fs, ea_pL, vp_updL]
theorem pf_3_6 {E : eE} {M : eM} {c : Nat} {v : Int32} (h : ea_kind c = 3) : ea_ent E (ea_pI M c 6 v) c = .inr (3, (ea_fs E M c 3).set 6 (.int v)) := by rw [ea_entO h (by decide)]; simp [ea_fs, ea_pI, upd]
theorem pf_3_7 {E : eE} {M : eM} {c : Nat} {v : Int32} (h : ea_kind c = 3) : ea_ent E (ea_pI M c 7 v) c = .inr (3, (ea_fs E M c 3).set 7 (.int v)) := by rw [ea_entO h (by decide)]; simp [ea_fs, ea_pI, upd]
theorem pf_3_8 {E : eE} {M : eM} {c : Nat} {v : Int32} (h : ea_kind c = 3) : ea_ent E (ea_pI M c 8 v) c = .inr (3, (ea_fs E M c 3).set 8 (.int v)) := by rw [ea_entO h (by decide)]; simp [ea_fs, ea_pI, upd]
theorem pf_3_9 {E : eE} {M : eM} {c : Nat} {v : Int32} (h : ea_kind c = 3) : ea_ent E (ea_pI M c 9 v) c = .inr (3, (ea_fs E M c 3).set 9 (.int v)) := by rw [ea_entO h (by decide)]; simp [ea_fs, ea_pI, upd]
theorem pf_3_10 {E : eE} {M : eM} {c : Nat} {v : Int32} (h : ea_kind c = 3) : ea_ent E (ea_pI M c 10 v) c = .inr (3, (ea_fs E M c 3).set 10 (.int v)) := by rw [ea_entO h (by decide)]; simp [ea_fs, ea_pI, upd]
theorem pf_4_1 {E : eE} {M : eM} {c : Nat} {v : Int32} (h : ea_kind c = 4) : ea_ent E (ea_pI M c 1 v) c = .inr (4, (ea_fs E M c 4).set 1 (.int v)) := by rw [ea_entO h (by decide)]; simp [ea_fs, ea_pI, upd]
theorem pf_6_3 {E : eE} {M : eM} {c : Nat} {v : Int32} (h : ea_kind c = 6) : ea_ent E (ea_pI M c 3 v) c = .inr (6, (ea_fs E M c 6).set 3 (.int v)) := by rw [ea_entO h (by decide)]; simp [ea_fs, ea_pI, upd]
theorem pf_6_6 {E : eE} {M : eM} {c : Nat} {v : Int32} (h : ea_kind c = 6) : ea_ent E (ea_pI M c 6 v) c = .inr (6, (ea_fs E M c 6).set 6 (.int v)) := by rw [ea_entO h (by decide)]; simp [ea_fs, ea_pI, upd]
theorem pf_7_1 {E : eE} {M : eM} {c : Nat} {v : Int32} (h : ea_kind c = 7) : ea_ent E (ea_pI M c 1 v) c = .inr (7, (ea_fs E M c 7).set 1 (.int v)) := by rw [ea_entO h (by decide)]; simp [ea_fs, ea_pI, upd]
theorem pf_8_3 {E : eE} {M : eM} {c : Nat} {v : Int32} (h : ea_kind c = 8) : ea_ent E (ea_pI M c 3 v) c = .inr (8, (ea_fs E M c 8).set 3 (.int v)) := by rw [ea_entO h (by decide)]; simp [ea_fs, ea_pI, upd]
theorem pf_8_4 {E : eE} {M : eM} {c : Nat} {v : Int32} (h : ea_kind c = 8) : ea_ent E (ea_pI M c 4 v) c = .inr (8, (ea_fs E M c 8).set 4 (.int v)) := by rw [ea_entO h (by decide)]; simp [ea_fs, ea_pI, upd]
theorem pf_8_5 {E : eE} {M : eM} {c : Nat} {v : Int32} (h : ea_kind c = 8) : ea_ent E (ea_pI M c 5 v) c = .inr (8, (ea_fs E M c 8).set 5 (.int v)) := by rw [ea_entO h (by decide)]; simp [ea_fs, ea_pI, upd]
theorem pf_8_6 {E : eE} {M : eM} {c : Nat} {v : Int32} (h : ea_kind c = 8) : ea_ent E (ea_pI M c 6 v) c = .inr (8, (ea_fs E M c 8).set 6 (.int v)) := by rw [ea_entO h (by decide)]; simp [ea_fs, ea_pI, upd]
theorem pf_8_7 {E : eE} {M : eM} {c : Nat} {v : Int32} (h : ea_kind c = 8) : ea_ent E (ea_pI M c 7 v) c = .inr (8, (ea_fs E M c 8).set 7 (.int v)) := by rw [ea_entO h (by decide)]; simp [ea_fs, ea_pI, upd]
theorem pf_9_0 {E : eE} {M : eM} {c : Nat} {v : Nat} (h : ea_kind c = 9) : ea_ent E (ea_pR M c 0 v) c = .inr (9, (ea_fs E M c 9).set 0 (.ref (E.1 v))) := by rw [ea_entO h (by decide)]; simp [ea_fs, ea_pR]
theorem pf_9_1 {E : eE} {M : eM} {c : Nat} {v : Int32} (h : ea_kind c = 9) : ea_ent E (ea_pI M c 1 v) c = .inr (9, (ea_fs E M c 9).set 1 (.int v)) := by rw [ea_entO h (by decide)]; simp [ea_fs, ea_pI, upd]
theorem pf_10_3 {E : eE} {M : eM} {c : Nat} {v : Nat} (h : ea_kind c = 10) : ea_ent E (ea_pR M c 3 v) c = .inr (10, (ea_fs E M c 10).set 3 (.ref (E.1 v))) := by rw [ea_entO h (by decide)]; simp [ea_fs, ea_pR]
theorem pf_11_1 {E : eE} {M : eM} {c : Nat} {v : Int32} (h : ea_kind c = 11) : ea_ent E (ea_pI M c 1 v) c = .inr (11, (ea_fs E M c 11).set 1 (.int v)) := by rw [ea_entO h (by decide)]; simp [ea_fs, ea_pI, upd]
theorem pf_11_2 {E : eE} {M : eM} {c : Nat} {v : Int32} (h : ea_kind c = 11) : ea_ent E (ea_pI M c 2 v) c = .inr (11, (ea_fs E M c 11).set 2 (.int v)) := by rw [ea_entO h (by decide)]; simp [ea_fs, ea_pI, upd]
theorem pf_11_3 {E : eE} {M : eM} {c : Nat} {v : Int32} (h : ea_kind c = 11) : ea_ent E (ea_pI M c 3 v) c = .inr (11, (ea_fs E M c 11).set 3 (.int v)) := by rw [ea_entO h (by decide)]; simp [ea_fs, ea_pI, upd]
theorem pf_11_4 {E : eE} {M : eM} {c : Nat} {v : Int32} (h : ea_kind c = 11) : ea_ent E (ea_pI M c 4 v) c = .inr (11, (ea_fs E M c 11).set 4 (.int v)) := by rw [ea_entO h (by decide)]; simp [ea_fs, ea_pI, upd]
theorem pf_11_5 {E : eE} {M : eM} {c : Nat} {v : Int32} (h : ea_kind c = 11) : ea_ent E (ea_pI M c 5 v) c = .inr (11, (ea_fs E M c 11).set 5 (.int v)) := by rw [ea_entO h (by decide)]; simp [ea_fs, ea_pI, upd]
theorem pf_11_6 {E : eE} {M : eM} {c : Nat} {v : Int32} (h : ea_kind c = 11) : ea_ent E (ea_pI M c 6 v) c = .inr (11, (ea_fs E M c 11).set 6 (.int v)) := by rw [ea_entO h (by decide)]; simp [ea_fs, ea_pI, upd]
theorem pf_11_7 {E : eE} {M : eM} {c : Nat} {v : Int32} (h : ea_kind c = 11) : ea_ent E (ea_pI M c 7 v) c = .inr (11, (ea_fs E M c 11).set 7 (.int v)) := by rw [ea_entO h (by decide)]; simp [ea_fs, ea_pI, upd]
theorem pf_11_8 {E : eE} {M : eM} {c : Nat} {v : Int32} (h : ea_kind c = 11) : ea_ent E (ea_pI M c 8 v) c = .inr (11, (ea_fs E M c 11).set 8 (.int v)) := by rw [ea_entO h (by decide)]; simp [ea_fs, ea_pI, upd]
theorem pf_11_9 {E : eE} {M : eM} {c : Nat} {v : Int32} (h : ea_kind c = 11) : ea_ent E (ea_pI M c 9 v) c = .inr (11, (ea_fs E M c 11).set 9 (.int v)) := by rw [ea_entO h (by decide)]; simp [ea_fs, ea_pI, upd]
theorem pf_11_10 {E : eE} {M : eM} {c : Nat} {v : Int64} (h : ea_kind c = 11) : ea_ent E (ea_pL M c 10 v) c = .inr (11, (ea_fs E M c 11).set 10 (.long v)) := by rw [ea_entO h (by decide)]; simp [ea_fs, ea_pL, vp_updL]
theorem pf_11_11 {E : eE} {M : eM} {c : Nat} {v : Int32} (h : ea_kind c = 11) : ea_ent E (ea_pI M c 11 v) c = .inr (11, (ea_fs E M c 11).set 11 (.int v)) := by rw [ea_entO h (by decide)]; simp [ea_fs, ea_pI, upd]
theorem pf_11_20 {E : eE} {M : eM} {c : Nat} {v : Int32} (h : ea_kind c = 11) : ea_ent E (ea_pI M c 20 v) c = .inr (11, (ea_fs E M c 11).set 20 (.int v)) := by rw [ea_entO h (by decide)]; simp [ea_fs, ea_pI, upd]
theorem pf_11_21 {E : eE} {M : eM} {c : Nat} {v : Int32} (h : ea_kind c = 11) : ea_ent E (ea_pI M c 21 v) c = .inr (11, (ea_fs E M c 11).set 21 (.int v)) := by rw [ea_entO h (by decide)]; simp [ea_fs, ea_pI, upd]
theorem pf_11_22 {E : eE} {M : eM} {c : Nat} {v : Int32} (h : ea_kind c = 11) : ea_ent E (ea_pI M c 22 v) c = .inr (11, (ea_fs E M c 11).set 22 (.int v)) := by rw [ea_entO h (by decide)]; simp [ea_fs, ea_pI, upd]
theorem pf_11_29 {E : eE} {M : eM} {c : Nat} {v : Int32} (h : ea_kind c = 11) : ea_ent E (ea_pI M c 29 v) c = .inr (11, (ea_fs E M c 11).set 29 (.int v)) := by rw [ea_entO h (by decide)]; simp [ea_fs, ea_pI, upd]
theorem pf_11_33 {E : eE} {M : eM} {c : Nat} {v : Int32} (h : ea_kind c = 11) : ea_ent E (ea_pI M c 33 v) c = .inr (11, (ea_fs E M c 11).set 33 (.int v)) := by rw [ea_entO h (by decide)]; simp [ea_fs, ea_pI, upd]
theorem pf_11_34 {E : eE} {M : eM} {c : Nat} {v : Int32} (h : ea_kind c = 11) : ea_ent E (ea_pI M c 34 v) c = .inr (11, (ea_fs E M c 11).set 34 (.int v)) := by rw [ea_entO h (by decide)]; simp [ea_fs, ea_pI, upd]
theorem pf_11_46 {E : eE} {M : eM} {c : Nat} {v : Int32} (h : ea_kind c = 11) : ea_ent E (ea_pI M c 46 v) c = .inr (11, (ea_fs E M c 11).set 46 (.int v)) := by rw [ea_entO h (by decide)]; simp [ea_fs, ea_pI, upd]
theorem pf_11_47 {E : eE} {M : eM} {c : Nat} {v : Int64} (h : ea_kind c = 11) : ea_ent E (ea_pL M c 47 v) c = .inr (11, (ea_fs E M c 11).set 47 (.long v)) := by rw [ea_entO h (by decide)]; simp [ea_fs, ea_pL, vp_updL]
def ea_sl : List Nat := [5, 5, 6, 4, 6, 5, 3, 4, 5, 4, 57]
def ea_sb : List (List Int32) := [[99, 108, 111, 116, 104], [115, 108, 97, 99, 107], [109, 101, 110, 100, 101, 100], [109, 111, 115, 116], [98, 114, 105, 103, 104, 116], [115, 116, 117, 102, 102], [101, 121, 101], [115, 101, 101, 115], [115, 116, 111, 114, 121], [104, 97, 110, 103], [99, 108, 111, 116, 104, 32, 115, 108, 97, 99, 107, 32, 109, 101, 110, 100, 101, 100, 32, 109, 111, 115, 116, 32, 98, 114, 105, 103, 104, 116, 32, 115, 116, 117, 102, 102, 32, 115, 116, 111, 114, 121, 32, 101, 121, 101, 32, 104, 97, 110, 103, 32, 115, 101, 101, 115, 32]]
def ea_ta : List (List Int32) := [[0, 0, 0, 0, 1, 1], [99, 99, 99, 1000, 999, 9999], [1, 0, 0, 0], [400, 99, 99, 100]]
def ea_tv (i : Nat) : Nat → Value := fun j => .int ((ea_ta.getD i []).getD j 0)
/-- what the start gives: nest words, statics, texts -/
def ea_F (E : eE) (A : Nat → Prop) (U : State) (H : Heap) : Prop :=
  (va_Nw (.methodLinkNest RX1 81 yX10_isWithin "ClothBack") U ∧ va_Nw (.methodLinkNest RX2 141 yX10_isWithin "ClothBack") U) ∧
  (va_Z RX2 "STUFF_LEAST" "[I" (.ref (E.2.2.2 0)) A U H ∧ va_T .int (E.2.2.2 0) 6 (ea_tv 0) A U H) ∧
  (va_Z RX2 "STUFF_MOST" "[I" (.ref (E.2.2.2 1)) A U H ∧ va_T .int (E.2.2.2 1) 6 (ea_tv 1) A U H) ∧
  (va_Z RX2 "HANG_LEAST" "[I" (.ref (E.2.2.2 2)) A U H ∧ va_T .int (E.2.2.2 2) 4 (ea_tv 2) A U H) ∧
  (va_Z RX2 "HANG_MOST" "[I" (.ref (E.2.2.2 3)) A U H ∧ va_T .int (E.2.2.2 3) 4 (ea_tv 3) A U H) ∧
  (va_Z RJ0 "COMPACT_STRINGS" "Z" (.int 1) A U H ∧ va_Zq RJ3 "SIOOBE_FORMATTER" "Ljava/util/function/BiFunction;" A U H) ∧
  vk_S 11 ea_sl ea_sb (fun i => E.2.2.2 (10 + i)) (fun i => E.2.2.2 (30 + i)) A U H ∧
  (vk_R RX2 83 "cloth" (E.2.2.2 10) U ∧ vk_R RX2 99 "slack" (E.2.2.2 11) U ∧ vk_R RX2 104 "mended" (E.2.2.2 12) U ∧ vk_R RX2 109 "most" (E.2.2.2 13) U ∧ vk_R RX2 114 "bright" (E.2.2.2 14) U ∧ vk_R RX2 123 "stuff" (E.2.2.2 15) U ∧ vk_R RX2 128 "eye" (E.2.2.2 16) U ∧ vk_R RX2 191 "sees" (E.2.2.2 17) U ∧ vk_R RX2 133 "story" (E.2.2.2 18) U ∧ vk_R RX2 202 "hang" (E.2.2.2 19) U ∧ vk_R RX11 116 "cloth slack mended most bright stuff story eye hang sees " (E.2.2.2 20) U)
theorem ea_F.warm {E : eE} {A : Nat → Prop} {s U : State} {H : Heap} {locs : List Loc} (h : ea_F E A s s.heap) (hW : s.WarmedH U.vm) (hS : va_S A s.heap H locs) (hH : U.heap = H) : ea_F E A U U.heap := by
  have hv := hW.alike
  have hk : ∀ a : Nat, a < s.heap.size → ¬ A a → U.heap[a]? = s.heap[a]? := by rw [hH]; exact hS.2.1
  obtain ⟨⟨n1, n2⟩, ⟨z1, t1⟩, ⟨z2, t2⟩, ⟨z3, t3⟩, ⟨z4, t4⟩, ⟨z5, z6⟩, s1, r⟩ := h
  refine ⟨⟨n1.warmM hW, n2.warmM hW⟩, ⟨(z1.moved hv).kept hk, (t1.moved hv).kept hk⟩, ⟨(z2.moved hv).kept hk, (t2.moved hv).kept hk⟩, ⟨(z3.moved hv).kept hk, (t3.moved hv).kept hk⟩, ⟨(z4.moved hv).kept hk, (t4.moved hv).kept hk⟩, ⟨(z5.moved hv).kept hk, (z6.moved hv).kept hk⟩, (s1.moved hv).kept hk, ?_⟩
  obtain ⟨r0, r1, r2, r3, r4, r5, r6, r7, r8, r9, r10⟩ := r
  exact ⟨r0.warm hW, r1.warm hW, r2.warm hW, r3.warm hW, r4.warm hW, r5.warm hW, r6.warm hW, r7.warm hW, r8.warm hW, r9.warm hW, r10.warm hW⟩
theorem ea_F.call {E : eE} {A : Nat → Prop} {U V : State} {H : Heap} (h : ea_F E A U H) (hvm : V.vm = U.vm) : ea_F E A V H := by
  have hv : U.vm.Alike V.vm := by rw [hvm]; exact Vm.Alike.refl _
  obtain ⟨⟨n1, n2⟩, ⟨z1, t1⟩, ⟨z2, t2⟩, ⟨z3, t3⟩, ⟨z4, t4⟩, ⟨z5, z6⟩, s1, r⟩ := h
  refine ⟨⟨n1.same rfl hvm.symm, n2.same rfl hvm.symm⟩, ⟨z1.moved hv, t1.moved hv⟩, ⟨z2.moved hv, t2.moved hv⟩, ⟨z3.moved hv, t3.moved hv⟩, ⟨z4.moved hv, t4.moved hv⟩, ⟨z5.moved hv, z6.moved hv⟩, s1.moved hv, ?_⟩
  obtain ⟨r0, r1, r2, r3, r4, r5, r6, r7, r8, r9, r10⟩ := r
  exact ⟨r0.same hvm, r1.same hvm, r2.same hvm, r3.same hvm, r4.same hvm, r5.same hvm, r6.same hvm, r7.same hvm, r8.same hvm, r9.same hvm, r10.same hvm⟩
/-- worlds -/
def ea_Ad (E : eE) (ids : List Nat) : Nat → Prop := fun q => ∃ c, c ∈ ids ∧ q = E.1 c
def ea_ws (E : eE) (M : eM) (ids : List Nat) : va_W := ids.map (fun c => (E.1 c, ea_ent E M c))
def ea_tys (E : eE) : List (ClassId × FieldType) := [(E.2.1 0, .int), (E.2.1 1, .long), (E.2.1 2, .byte), (E.2.1 3, .boolean), (E.2.1 4, .object "ClothBack$Telling")]
def ea_P (E : eE) (ids : List Nat) (M : eM) (U : State) : Prop := va_P E.2.2.1 ea_cl (ea_ws E M ids) U.heap ∧ va_K E.2.2.1 ea_cl (ea_tys E) U ∧ va_D (ea_Ad E ids) (ea_ws E M ids) ∧ ea_F E (ea_Ad E ids) U U.heap
def ea_w (E : eE) (ids : List Nat) (M : eM) (s : State) (H : Heap) (locs : List Loc) : Prop := va_P E.2.2.1 ea_cl (ea_ws E M ids) H ∧ va_K E.2.2.1 ea_cl (ea_tys E) s ∧ va_D (ea_Ad E ids) (ea_ws E M ids) ∧ va_S (ea_Ad E ids) s.heap H locs ∧ ea_F E (ea_Ad E ids) s s.heap
theorem ea_at {E : eE} {M : eM} {ids : List Nat} {c : Nat} (h : c ∈ ids) : ∃ q0 : Nat, ids[q0]? = some c ∧ (ea_ws E M ids)[q0]? = some (E.1 c, ea_ent E M c) := by
  obtain ⟨q0, h0⟩ := List.getElem?_of_mem h
  exact ⟨q0, h0, by unfold ea_ws; rw [List.getElem?_map, h0]; rfl⟩
theorem ea_set {A : Nat → Prop} {E : eE} {M M' : eM} {ids : List Nat} {c q0 : Nat} (hD : va_D A (ea_ws E M ids)) (h0 : ids[q0]? = some c) (hn : ∀ a, a ≠ c → ea_ent E M' a = ea_ent E M a) : (ea_ws E M ids).set q0 (E.1 c, ea_ent E M' c) = ea_ws E M' ids := by
  apply List.ext_getElem?
  intro i
  have hlt : q0 < ids.length := (List.getElem?_eq_some_iff.mp h0).1
  rw [List.getElem?_set]
  by_cases hi : q0 = i
  · subst hi
    have hl2 : q0 < (ea_ws E M ids).length := by unfold ea_ws; rw [List.length_map]; exact hlt
    rw [if_pos rfl, if_pos hl2]
    unfold ea_ws
    rw [List.getElem?_map, h0]
    rfl
  · rw [if_neg hi]
    unfold ea_ws
    rw [List.getElem?_map, List.getElem?_map]
    cases ha : ids[i]? with
    | none => rfl
    | some a =>
      have hne : a ≠ c := by
        intro e
        subst e
        have e1 : (ea_ws E M ids)[i]? = some (E.1 a, ea_ent E M a) := by unfold ea_ws; rw [List.getElem?_map, ha]; rfl
        have e2 : (ea_ws E M ids)[q0]? = some (E.1 a, ea_ent E M a) := by unfold ea_ws; rw [List.getElem?_map, h0]; rfl
        exact hi (hD.1 q0 i _ _ e2 e1 rfl)
      show some (E.1 a, ea_ent E M a) = some (E.1 a, ea_ent E M' a)
      rw [hn a hne]
/-- what holds in a method's body -/
def ea_C (p : Program) (s : State) (m : MethodId) (args : Array Value) (meth : Method) (c : Code) (cc : ByteArray) (nL : Nat) (ret : Option FieldType) (own : String) : Prop :=
  p.tables.exec = Jvm.exec ∧ c.code = cc ∧ c.maxLocals = nL ∧ s.vm.findClass own = some m.cls ∧ (∀ w ∈ ea_tbl, w.before args s = true) ∧ meth.sig.returnType = ret ∧ meth.locks = false
def ea_Qi (E : eE) (ids : List Nat) (res : Int32 × eM) : Array Value → State → Outcome → State → Prop := va_Qi (fun (r : Int32) (u : eM) => r = res.1 ∧ u = res.2) (ea_P E ids) (ea_Ad E ids)
def ea_Qv (E : eE) (ids : List Nat) (res : eM) : Array Value → State → Outcome → State → Prop := va_Qv (fun (u : eM) => u = res) (ea_P E ids) (ea_Ad E ids)
def ea_rm (rf rl : Nat) : Room := { frames := rf, cells := 0, slots := 0, locals := rl }
def ea_Mi (l : Launch) (y : MethodName) (cc : ByteArray) (nL : Nat) (ret : Option FieldType) (rf rl : Nat) (E : eE) (ids : List Nat) (As : List Value) (M : eM) (res : Int32 × eM) : Prop :=
  Met l y (.code y cc nL ret :: ea_tbl) (ea_rm rf rl) (va_Pc As (ea_P E ids M)) (ea_Qi E ids res) 0 0 (ea_Ad E ids)
def ea_Mv (l : Launch) (y : MethodName) (cc : ByteArray) (nL : Nat) (rf rl : Nat) (E : eE) (ids : List Nat) (As : List Value) (M : eM) (res : eM) : Prop :=
  Met l y (.code y cc nL none :: ea_tbl) (ea_rm rf rl) (va_Pc As (ea_P E ids M)) (ea_Qv E ids res) 0 0 (ea_Ad E ids)
theorem ea_blind {E : eE} {ids : List Nat} {M : eM} {As : List Value} : FrameBlind (va_Pc As (ea_P E ids M)) := fun a U g mk q => by
  obtain ⟨q0, qP, qK, qD, qF⟩ := q
  exact ⟨q0, qP, va_K.moved (u := U) (U := U.calling g mk a) (Vm.Alike.refl U.vm) qK, qD, qF.call rfl⟩
section EAR
variable {p : Program} {l : Launch} {e : Env} {R : Room} {s : State} {m : MethodId} {args : Array Value} {below : List Frame} {meth : Method} {c : Code} {H : Heap} {locs : List Loc} {cells slots : Nat} {Q : State → Prop}
variable {cc : ByteArray} {nL pc : Nat} {ret : Option FieldType} {own : String} {E : eE} {ids : List Nat} {M : eM} {ls : Array Slot} {rest : List Value}
theorem ea_w.P (hw : ea_w E ids M s H locs) {t : State} (ht : t.heap = H) (hW : s.WarmedH t.vm) : ea_P E ids M t := by
  obtain ⟨hP, hK, hD, hS, hF⟩ := hw
  exact ⟨by rw [ht]; exact hP, va_K.moved hW.alike hK, hD, hF.warm hW hS ht⟩
theorem ea_goi {y : MethodName} {rf rl : Nat} {As : List Value} {res : Int32 × eM} (hy : plainName y.cls = true) (hn : (lg_sl As).length ≤ nL) (hmem : Cond.code y cc nL ret ∈ ea_tbl)
    (body : ∀ p e s m below meth c ls, ea_C p s m As.toArray meth c cc nL ret y.cls → ea_w E ids M s s.heap [] → lv_has ls nL (lv_args 0 As) → W p l e (ea_rm rf rl) s m As.toArray below meth c s.heap [] 0 0 (MQ below (ea_Qi E ids res) As.toArray s 0 0 (ea_Ad E ids)) (F0 m 0 ls [])) : ea_Mi l y cc nL ret rf rl E ids As M res := by
  refine Met.ofW (cc := cc) (maxL := nL) (ret := ret) hy rfl ?_
  intro p e s m args below meth c s₁ B hml hv
  obtain ⟨rfl, hP, hK, hD, hF⟩ := hv
  have hts := atoms_spec (ws := Cond.code y cc nL ret :: ea_tbl) B.pre
  rw [lg_entry_eq]
  exact body p e s m below meth c _ ⟨B.exec, B.bytes, hml, findClass_of_methodNamed B.named, fun w h => hts w (List.mem_cons_of_mem _ h), B.returns, B.notSynchronized⟩ ⟨hP, hK, hD, va_S.rf, hF⟩ (lv_entry As hn)
theorem ea_gov {y : MethodName} {rf rl : Nat} {As : List Value} {res : eM} (hy : plainName y.cls = true) (hn : (lg_sl As).length ≤ nL) (hmem : Cond.code y cc nL none ∈ ea_tbl)
    (body : ∀ p e s m below meth c ls, ea_C p s m As.toArray meth c cc nL none y.cls → ea_w E ids M s s.heap [] → lv_has ls nL (lv_args 0 As) → W p l e (ea_rm rf rl) s m As.toArray below meth c s.heap [] 0 0 (MQ below (ea_Qv E ids res) As.toArray s 0 0 (ea_Ad E ids)) (F0 m 0 ls [])) : ea_Mv l y cc nL rf rl E ids As M res := by
  refine Met.ofW (cc := cc) (maxL := nL) (ret := none) hy rfl ?_
  intro p e s m args below meth c s₁ B hml hv
  obtain ⟨rfl, hP, hK, hD, hF⟩ := hv
  have hts := atoms_spec (ws := Cond.code y cc nL none :: ea_tbl) B.pre
  rw [lg_entry_eq]
  exact body p e s m below meth c _ ⟨B.exec, B.bytes, hml, findClass_of_methodNamed B.named, fun w h => hts w (List.mem_cons_of_mem _ h), B.returns, B.notSynchronized⟩ ⟨hP, hK, hD, va_S.rf, hF⟩ (lv_entry As hn)
/-- ends -/
theorem ea_iret {v : Int32} {res : Int32 × eM} (C : ea_C p s m args meth c cc nL (some .int) own) (hw : ea_w E ids M s H locs) (hf : some (v, M) = some res) (hdg : decode cc pc = .ok (.ireturn, 1)) :
    W p l e R s m args below meth c H locs cells slots (MQ below (ea_Qi E ids res) args s cells slots (ea_Ad E ids)) (F0 m pc ls [.int v]) := by
  obtain ⟨hx, hb, -, -, -, hr, hlk⟩ := C
  cases Option.some.inj hf
  exact W.iret (v := v) hx hb hr (fun t ht hW => ⟨⟨v, M, rfl, ⟨rfl, rfl⟩, hw.P ht hW⟩, hw.2.2.2.1.F ht⟩) hw.2.2.2.1.2.2 hdg hlk
theorem ea_zret {v : Int32} {res : Int32 × eM} (C : ea_C p s m args meth c cc nL (some .boolean) own) (hw : ea_w E ids M s H locs) (hv : v = 0 ∨ v = 1) (hf : some (v, M) = some res) (hdg : decode cc pc = .ok (.ireturn, 1)) :
    W p l e R s m args below meth c H locs cells slots (MQ below (ea_Qi E ids res) args s cells slots (ea_Ad E ids)) (F0 m pc ls [.int v]) := by
  obtain ⟨hx, hb, -, -, -, hr, hlk⟩ := C
  cases Option.some.inj hf
  exact W.zret (v := v) hx hb hr (by rcases hv with rfl | rfl <;> decide) (fun t ht hW => ⟨⟨v, M, rfl, ⟨rfl, rfl⟩, hw.P ht hW⟩, hw.2.2.2.1.F ht⟩) hw.2.2.2.1.2.2 hdg hlk
theorem ea_vret {res : eM} (C : ea_C p s m args meth c cc nL none own) (hw : ea_w E ids M s H locs) (hf : some M = some res) (hdg : decode cc pc = .ok (.return_, 1)) :
    W p l e R s m args below meth c H locs cells slots (MQ below (ea_Qv E ids res) args s cells slots (ea_Ad E ids)) (F0 m pc ls []) := by
  obtain ⟨hx, hb, -, -, -, hr, hlk⟩ := C
  cases Option.some.inj hf
  exact W.vret hx hb hr (fun t ht hW => ⟨⟨M, rfl, rfl, hw.P ht hW⟩, hw.2.2.2.1.F ht⟩) hw.2.2.2.1.2.2 hdg hlk
/-- fields -/
theorem ea_get {K k o index N : Nat} {Cn : String} {Tt : u_T} {v : Value} (C : ea_C p s m args meth c cc nL ret own) (hw : ea_w E ids M s H locs) (ho : ea_ok ids o K) (hK : K < 20) (hz : 0 < ea_sz K) (hcl : ea_cl[K]? = some (Cn, Tt, N)) (hin : ∀ w ∈ u_ws Cn Tt N, w ∈ ea_tbl) (hk : k < N)
    (hlink : Cond.fieldLink own index (Tt k).1 (Tt k).2.1 (Tt k).2.2.1 ∈ ea_tbl) (hv : (ea_fs E M o K)[k]? = some v) (hdg : decode cc pc = .ok (.getfield index, 3))
    (kk : W p l e R s m args below meth c H locs cells slots Q (F0 m (pc + 3) ls (v :: rest))) : W p l e R s m args below meth c H locs cells slots Q (F0 m pc ls (.ref (E.1 o) :: rest)) := by
  obtain ⟨hx, hb, -, hown, hts, -, -⟩ := C
  obtain ⟨q0, h0, h1⟩ := ea_at (E := E) (M := M) (ho.mem hz)
  rw [ea_entO ho.1 hK] at h1
  exact va_get hx hb hts hin hown hw.2.1 hw.1 q0 h1 hcl k hk (hts _ hlink) (fun _ h => h) hv hdg kk
theorem ea_put {K k o index N : Nat} {Cn : String} {Tt : u_T} {v : Value} {ty0 : Nat → FieldType} {M' : eM} (C : ea_C p s m args meth c cc nL ret own) (hw : ea_w E ids M s H locs) (ho : ea_ok ids o K) (hK : K < 20) (hz : 0 < ea_sz K) (hcl : ea_cl[K]? = some (Cn, Tt, N)) (hin : ∀ w ∈ u_ws Cn Tt N, w ∈ ea_tbl) (hty : ∀ k, k < N → parseFieldDescriptor (Tt k).2.2.1 = some (ty0 k)) (hnm : ∀ a, a < N → ∀ b, b < N → a ≠ b → (Tt a).2.1 ≠ (Tt b).2.1) (hk : k < N)
    (hlink : Cond.fieldLink own index (Tt k).1 (Tt k).2.1 (Tt k).2.2.1 ∈ ea_tbl) (hfin : (Tt k).2.2.2 = false) (hn : narrow (ty0 k) v = v) (hfit : fits (ty0 k) v = true) (hl : k < (ea_fs E M o K).length) (he : ea_ent E M' o = .inr (K, (ea_fs E M o K).set k v)) (hne : ∀ a, a ≠ o → ea_ent E M' a = ea_ent E M a) (hdg : decode cc pc = .ok (.putfield index, 3))
    (kk : ∀ (H1 : Heap) (locs1 : List Loc), ea_w E ids M' s H1 locs1 → W p l e R s m args below meth c H1 locs1 cells slots Q (F0 m (pc + 3) ls rest)) : W p l e R s m args below meth c H locs cells slots Q (F0 m pc ls (v :: .ref (E.1 o) :: rest)) := by
  obtain ⟨hx, hb, -, hown, hts, -, -⟩ := C
  obtain ⟨q0, h0, h1⟩ := ea_at (E := E) (M := M) (ho.mem hz)
  rw [ea_entO ho.1 hK] at h1
  refine va_put hx hb hts hin ty0 hty hnm hown hw.2.1 hw.1 hw.2.2.1 hw.2.2.2.1 q0 h1 hcl k hk (hts _ hlink) (fun _ h => h) hfin (hty k hk) hn hfit hl hdg (fun H1 locs1 hP hD hS => ?_)
  rw [← he, ea_set hw.2.2.1 h0 hne] at hP hD
  exact kk H1 locs1 ⟨hP, hw.2.1, hD, hS, hw.2.2.2.2⟩
/-- arrays -/
def ea_ix (i : Int32) (n : Nat) : Bool := decide (0 ≤ i) && decide (i.toNatClampNeg < n)
theorem ea_ix_in {i : Int32} {n : Nat} (h : ea_ix i n = true) : vp_in i n := by
  simp only [ea_ix, Bool.and_eq_true, decide_eq_true_eq] at h
  rintro (q | q)
  · exact absurd h.1 (Int32.not_le.mpr q)
  · omega
theorem ea_iald {o : Nat} {i : Int32} (C : ea_C p s m args meth c cc nL ret own) (hw : ea_w E ids M s H locs) (ho : ea_ok ids o 20) (hi : ea_ix i (ea_len o) = true) (hdg : decode cc pc = .ok (.iaload, 1))
    (kk : W p l e R s m args below meth c H locs cells slots Q (F0 m (pc + 1) ls (.int (M.1 o i.toNatClampNeg) :: rest))) : W p l e R s m args below meth c H locs cells slots Q (F0 m pc ls (.int i :: .ref (E.1 o) :: rest)) := by
  obtain ⟨hx, hb, -⟩ := C
  obtain ⟨q0, h0, h1⟩ := ea_at (E := E) (M := M) (ho.mem (by decide))
  rw [ea_entI ho.1] at h1
  exact va_iald hx hb hw.2.1 hw.1 q0 0 h1 rfl (ea_ix_in hi) hdg kk
theorem ea_bald {o : Nat} {i : Int32} (C : ea_C p s m args meth c cc nL ret own) (hw : ea_w E ids M s H locs) (ho : ea_ok ids o 22) (hi : ea_ix i (ea_len o) = true) (hdg : decode cc pc = .ok (.baload, 1))
    (kk : W p l e R s m args below meth c H locs cells slots Q (F0 m (pc + 1) ls (.int (M.1 o i.toNatClampNeg) :: rest))) : W p l e R s m args below meth c H locs cells slots Q (F0 m pc ls (.int i :: .ref (E.1 o) :: rest)) := by
  obtain ⟨hx, hb, -⟩ := C
  obtain ⟨q0, h0, h1⟩ := ea_at (E := E) (M := M) (ho.mem (by decide))
  rw [ea_entB ho.1] at h1
  exact va_bald hx hb hw.2.1 hw.1 q0 2 h1 rfl (ea_ix_in hi) hdg kk
theorem ea_zald {o : Nat} {i : Int32} (C : ea_C p s m args meth c cc nL ret own) (hw : ea_w E ids M s H locs) (ho : ea_ok ids o 23) (hi : ea_ix i (ea_len o) = true) (hdg : decode cc pc = .ok (.baload, 1))
    (kk : W p l e R s m args below meth c H locs cells slots Q (F0 m (pc + 1) ls (.int (M.1 o i.toNatClampNeg) :: rest))) : W p l e R s m args below meth c H locs cells slots Q (F0 m pc ls (.int i :: .ref (E.1 o) :: rest)) := by
  obtain ⟨hx, hb, -⟩ := C
  obtain ⟨q0, h0, h1⟩ := ea_at (E := E) (M := M) (ho.mem (by decide))
  rw [ea_entZ ho.1] at h1
  exact va_zald hx hb hw.2.1 hw.1 q0 3 h1 rfl (ea_ix_in hi) hdg kk
theorem ea_lald {o : Nat} {i : Int32} (C : ea_C p s m args meth c cc nL ret own) (hw : ea_w E ids M s H locs) (ho : ea_ok ids o 21) (hi : ea_ix i (ea_len o) = true) (hdg : decode cc pc = .ok (.laload, 1))
    (kk : W p l e R s m args below meth c H locs cells slots Q (F0 m (pc + 1) ls (.long (M.2.1 o i.toNatClampNeg) :: rest))) : W p l e R s m args below meth c H locs cells slots Q (F0 m pc ls (.int i :: .ref (E.1 o) :: rest)) := by
  obtain ⟨hx, hb, -⟩ := C
  obtain ⟨q0, h0, h1⟩ := ea_at (E := E) (M := M) (ho.mem (by decide))
  rw [ea_entL ho.1] at h1
  exact va_lald hx hb hw.2.1 hw.1 q0 1 h1 rfl (ea_ix_in hi) hdg kk
theorem ea_aald {o : Nat} {i : Int32} (C : ea_C p s m args meth c cc nL ret own) (hw : ea_w E ids M s H locs) (ho : ea_ok ids o 24) (hi : ea_ix i (ea_len o) = true) (hdg : decode cc pc = .ok (.aaload, 1))
    (kk : W p l e R s m args below meth c H locs cells slots Q (F0 m (pc + 1) ls (.ref (E.1 (34 + 4 * i.toNatClampNeg)) :: rest))) : W p l e R s m args below meth c H locs cells slots Q (F0 m pc ls (.int i :: .ref (E.1 o) :: rest)) := by
  obtain ⟨hx, hb, -⟩ := C
  obtain ⟨q0, h0, h1⟩ := ea_at (E := E) (M := M) (ho.mem (by decide))
  rw [ea_entT ho.1] at h1
  exact va_aldq hx hb hw.2.1 hw.1 q0 4 h1 rfl (ea_ix_in hi) hdg kk
theorem ea_iast {o : Nat} {i x : Int32} (C : ea_C p s m args meth c cc nL ret own) (hw : ea_w E ids M s H locs) (ho : ea_ok ids o 20) (hi : ea_ix i (ea_len o) = true) (hdg : decode cc pc = .ok (.iastore, 1))
    (kk : ∀ (H1 : Heap) (locs1 : List Loc), ea_w E ids (ea_pI M o i.toNatClampNeg x) s H1 locs1 → W p l e R s m args below meth c H1 locs1 cells slots Q (F0 m (pc + 1) ls rest)) : W p l e R s m args below meth c H locs cells slots Q (F0 m pc ls (.int x :: .int i :: .ref (E.1 o) :: rest)) := by
  obtain ⟨hx, hb, -⟩ := C
  obtain ⟨q0, h0, h1⟩ := ea_at (E := E) (M := M) (ho.mem (by decide))
  rw [ea_entI ho.1] at h1
  refine va_iast hx hb hw.2.1 hw.1 hw.2.2.1 hw.2.2.2.1 q0 0 h1 rfl (ea_ix_in hi) hdg (fun H1 locs1 hP hD hS => ?_)
  rw [← ea_pI_s, ← ea_entI ho.1, ea_set hw.2.2.1 h0 (fun a ha => ea_pI_o ha)] at hP hD
  exact kk H1 locs1 ⟨hP, hw.2.1, hD, hS, hw.2.2.2.2⟩
theorem ea_bast {o : Nat} {i x : Int32} (C : ea_C p s m args meth c cc nL ret own) (hw : ea_w E ids M s H locs) (ho : ea_ok ids o 22) (hi : ea_ix i (ea_len o) = true) (hdg : decode cc pc = .ok (.bastore, 1))
    (kk : ∀ (H1 : Heap) (locs1 : List Loc), ea_w E ids (ea_pI M o i.toNatClampNeg (vp_nar .byte x)) s H1 locs1 → W p l e R s m args below meth c H1 locs1 cells slots Q (F0 m (pc + 1) ls rest)) : W p l e R s m args below meth c H locs cells slots Q (F0 m pc ls (.int x :: .int i :: .ref (E.1 o) :: rest)) := by
  obtain ⟨hx, hb, -⟩ := C
  obtain ⟨q0, h0, h1⟩ := ea_at (E := E) (M := M) (ho.mem (by decide))
  rw [ea_entB ho.1] at h1
  refine va_bast hx hb hw.2.1 hw.1 hw.2.2.1 hw.2.2.2.1 q0 2 h1 rfl (ea_ix_in hi) hdg (fun H1 locs1 hP hD hS => ?_)
  rw [← ea_pI_s, ← ea_entB ho.1, ea_set hw.2.2.1 h0 (fun a ha => ea_pI_o ha)] at hP hD
  exact kk H1 locs1 ⟨hP, hw.2.1, hD, hS, hw.2.2.2.2⟩
theorem ea_zast {o : Nat} {i x : Int32} (C : ea_C p s m args meth c cc nL ret own) (hw : ea_w E ids M s H locs) (ho : ea_ok ids o 23) (hi : ea_ix i (ea_len o) = true) (hdg : decode cc pc = .ok (.bastore, 1))
    (kk : ∀ (H1 : Heap) (locs1 : List Loc), ea_w E ids (ea_pI M o i.toNatClampNeg (vp_nar .boolean x)) s H1 locs1 → W p l e R s m args below meth c H1 locs1 cells slots Q (F0 m (pc + 1) ls rest)) : W p l e R s m args below meth c H locs cells slots Q (F0 m pc ls (.int x :: .int i :: .ref (E.1 o) :: rest)) := by
  obtain ⟨hx, hb, -⟩ := C
  obtain ⟨q0, h0, h1⟩ := ea_at (E := E) (M := M) (ho.mem (by decide))
  rw [ea_entZ ho.1] at h1
  refine va_zast hx hb hw.2.1 hw.1 hw.2.2.1 hw.2.2.2.1 q0 3 h1 rfl (ea_ix_in hi) hdg (fun H1 locs1 hP hD hS => ?_)
  rw [← ea_pI_s, ← ea_entZ ho.1, ea_set hw.2.2.1 h0 (fun a ha => ea_pI_o ha)] at hP hD
  exact kk H1 locs1 ⟨hP, hw.2.1, hD, hS, hw.2.2.2.2⟩
theorem ea_last {o : Nat} {i : Int32} {x : Int64} (C : ea_C p s m args meth c cc nL ret own) (hw : ea_w E ids M s H locs) (ho : ea_ok ids o 21) (hi : ea_ix i (ea_len o) = true) (hdg : decode cc pc = .ok (.lastore, 1))
    (kk : ∀ (H1 : Heap) (locs1 : List Loc), ea_w E ids (ea_pL M o i.toNatClampNeg x) s H1 locs1 → W p l e R s m args below meth c H1 locs1 cells slots Q (F0 m (pc + 1) ls rest)) : W p l e R s m args below meth c H locs cells slots Q (F0 m pc ls (.long x :: .int i :: .ref (E.1 o) :: rest)) := by
  obtain ⟨hx, hb, -⟩ := C
  obtain ⟨q0, h0, h1⟩ := ea_at (E := E) (M := M) (ho.mem (by decide))
  rw [ea_entL ho.1] at h1
  refine va_last hx hb hw.2.1 hw.1 hw.2.2.1 hw.2.2.2.1 q0 1 h1 rfl (ea_ix_in hi) hdg (fun H1 locs1 hP hD hS => ?_)
  rw [← ea_pL_s, ← ea_entL ho.1, ea_set hw.2.2.1 h0 (fun a ha => ea_pL_o ha)] at hP hD
  exact kk H1 locs1 ⟨hP, hw.2.1, hD, hS, hw.2.2.2.2⟩
theorem ea_alen {o K : Nat} (C : ea_C p s m args meth c cc nL ret own) (hw : ea_w E ids M s H locs) (ho : ea_ok ids o K) (hK : K = 20 ∨ K = 21 ∨ K = 22 ∨ K = 23 ∨ K = 24) (hdg : decode cc pc = .ok (.arraylength, 1))
    (kk : W p l e R s m args below meth c H locs cells slots Q (F0 m (pc + 1) ls (.int (nI (ea_len o)) :: rest))) : W p l e R s m args below meth c H locs cells slots Q (F0 m pc ls (.ref (E.1 o) :: rest)) := by
  obtain ⟨hx, hb, -⟩ := C
  rcases hK with rfl | rfl | rfl | rfl | rfl
  · obtain ⟨q0, h0, h1⟩ := ea_at (E := E) (M := M) (ho.mem (by decide))
    rw [ea_entI ho.1] at h1
    exact va_alen hx hb hw.2.1 hw.1 q0 0 h1 (ty := .int) rfl rfl hdg kk
  · obtain ⟨q0, h0, h1⟩ := ea_at (E := E) (M := M) (ho.mem (by decide))
    rw [ea_entL ho.1] at h1
    exact va_alen hx hb hw.2.1 hw.1 q0 1 h1 (ty := .long) rfl rfl hdg kk
  · obtain ⟨q0, h0, h1⟩ := ea_at (E := E) (M := M) (ho.mem (by decide))
    rw [ea_entB ho.1] at h1
    exact va_alen hx hb hw.2.1 hw.1 q0 2 h1 (ty := .byte) rfl rfl hdg kk
  · obtain ⟨q0, h0, h1⟩ := ea_at (E := E) (M := M) (ho.mem (by decide))
    rw [ea_entZ ho.1] at h1
    exact va_alen hx hb hw.2.1 hw.1 q0 3 h1 (ty := .boolean) rfl rfl hdg kk
  · obtain ⟨q0, h0, h1⟩ := ea_at (E := E) (M := M) (ho.mem (by decide))
    rw [ea_entT ho.1] at h1
    exact va_alen hx hb hw.2.1 hw.1 q0 4 h1 (ty := .object "ClothBack$Telling") rfl rfl hdg kk
/-- calls -/
theorem ea_recv {o K N : Nat} {Cn : String} {Tt : u_T} (hw : ea_w E ids M s H locs) (ho : ea_ok ids o K) (hK : K < 20) (hz : 0 < ea_sz K) (hcl : ea_cl[K]? = some (Cn, Tt, N)) : ∃ cell : Cell, H[E.1 o]? = some cell ∧ cell.vm.isStatics = false ∧ s.vm.findClass Cn = some cell.cls := by
  obtain ⟨q0, h0, h1⟩ := ea_at (E := E) (M := M) (ho.mem hz)
  rw [ea_entO ho.1 hK] at h1
  exact va_recv (q := (Cn, Tt, N)) hw.2.1 hw.1 hcl h1
variable {y : MethodName} {bytes : ByteArray} {nL2 rf rl index n : Nat} {ret2 : Option FieldType} {As : List Value} {st0 : List Value}
theorem ea_pre (hw : ea_w E ids M s H locs) : PreS s H (va_Pc As (ea_P E ids M)) As := ⟨ea_blind, fun U hU hW => ⟨rfl, hw.P hU hW⟩⟩
/-- an int-like answer, by a run of the call -/
theorem ea_runi {res : Int32 × eM} {a : Array Value} (hw : ea_w E ids M s H locs) (hr : va_Run p l e R s m args below meth c H locs cells slots 0 0 (F0 m pc ls st0) rest (ea_Qi E ids res a) (ea_Ad E ids))
    (kk : ∀ (H1 : Heap) (locs1 : List Loc), ea_w E ids res.2 s H1 locs1 → W p l e R s m args below meth c H1 locs1 cells slots Q (F0 m (pc + 3) ls (.int res.1 :: rest))) : W p l e R s m args below meth c H locs cells slots Q (F0 m pc ls st0) := by
  refine va_calli (A0 := ea_Ad E ids) (A1 := ea_Ad E ids) hr hw.2.2.2.1 (fun q _ h => h) (fun q h => h) (fun r u t H1 locs1 ht hvm hp hB hz hk hS => ?_)
  obtain ⟨rfl, rfl⟩ := hp
  obtain ⟨bP, bK, bD, bF⟩ := hB
  rw [ht] at bP
  exact kk H1 locs1 ⟨bP, hw.2.1, bD, hS, hw.2.2.2.2⟩
theorem ea_runv {res : eM} {a : Array Value} (hw : ea_w E ids M s H locs) (hr : va_Run p l e R s m args below meth c H locs cells slots 0 0 (F0 m pc ls st0) rest (ea_Qv E ids res a) (ea_Ad E ids))
    (kk : ∀ (H1 : Heap) (locs1 : List Loc), ea_w E ids res s H1 locs1 → W p l e R s m args below meth c H1 locs1 cells slots Q (F0 m (pc + 3) ls rest)) : W p l e R s m args below meth c H locs cells slots Q (F0 m pc ls st0) := by
  refine va_callv (A0 := ea_Ad E ids) (A1 := ea_Ad E ids) hr hw.2.2.2.1 (fun q _ h => h) (fun q h => h) (fun u t H1 locs1 ht hvm hp hB hz hk hS => ?_)
  cases hp
  obtain ⟨bP, bK, bD, bF⟩ := hB
  rw [ht] at bP
  exact kk H1 locs1 ⟨bP, hw.2.1, bD, hS, hw.2.2.2.2⟩
/-- words of a call -/
def ea_cd (y : MethodName) (n : Nat) : Bool := decide (y.cls ≠ "java/lang/invoke/MethodHandle") && decide (y.cls ≠ "java/lang/invoke/VarHandle") && decide ((parseMethodDescriptor y.desc).map (fun d => d.parameters.length) = some n)
theorem ea_cB (C : ea_C p s m args meth c cc nL ret own) (hcode : Cond.code y bytes nL2 ret2 ∈ ea_tbl) (hini : Cond.initialized y.cls ∈ ea_tbl) (hlink : Cond.methodLink own index y ∈ ea_tbl) (hd : ea_cd y n = true) (hR : rf + 1 ≤ R.frames ∧ 8 + (nL2 + 11) + rl ≤ R.locals) :
    CallB R s args own index y bytes nL2 ret2 (Cond.code y bytes nL2 ret2 :: ea_tbl) (ea_rm rf rl) 0 0 n := by
  simp only [ea_cd, Bool.and_eq_true, decide_eq_true_eq] at hd
  exact callB_of n C.2.2.2.2.1 (ea_goodc hcode) rfl rfl rfl (C.2.2.2.2.1 _ hini) (C.2.2.2.2.1 _ hlink) ⟨hd.1.1, hd.1.2, hd.2⟩ hR
theorem ea_runV {K o N : Nat} {Cn : String} {Tt : u_T} {Qc : Array Value → State → Outcome → State → Prop} (C : ea_C p s m args meth c cc nL ret own) (hw : ea_w E ids M s H locs) (ho : ea_ok ids o K) (hK : K < 20) (hz : 0 < ea_sz K) (hcl : ea_cl[K]? = some (Cn, Tt, N))
    (hM : Met l y (.code y bytes nL2 ret2 :: ea_tbl) (ea_rm rf rl) (va_Pc (.ref (E.1 o) :: As) (ea_P E ids M)) Qc 0 0 (ea_Ad E ids))
    (hcode : Cond.code y bytes nL2 ret2 ∈ ea_tbl) (hini : Cond.initialized y.cls ∈ ea_tbl) (hlink : Cond.methodLink own index y ∈ ea_tbl) (hinst : Cond.instanceMethod y ∈ ea_tbl) (hsel : Cond.selects Cn y y ∈ ea_tbl) (hd : ea_cd y n = true)
    (hR : rf + 1 ≤ R.frames ∧ 8 + (nL2 + 11) + rl ≤ R.locals) (hn : As.length = n) (hls : ls.size = nL) (hst : st0 = As.reverse ++ .ref (E.1 o) :: rest) (hrest : (rest.map fun v => v.category).sum ≤ 8) (hdg : decode cc pc = .ok (.invokevirtual index, 3)) (hf : cells ≤ R.cells ∧ slots ≤ R.slots) :
    va_Run p l e R s m args below meth c H locs cells slots 0 0 (F0 m pc ls st0) rest (Qc (Value.ref (E.1 o) :: As).toArray) (ea_Ad E ids) := by
  have hp := ea_pre (As := .ref (E.1 o) :: As) hw
  exact va_runV (Ts := ea_tbl) ⟨C.1, C.2.1, C.2.2.1, C.2.2.2.1, C.2.2.2.2.1⟩ hM ⟨ea_cB C hcode hini hlink hd hR, C.2.2.2.2.1 _ hinst, C.2.2.2.2.1 _ hsel⟩ ⟨hp.1, ea_recv hw ho hK hz hcl, hp.2⟩ rfl hn hls hst (lv_room hrest) hdg hf
theorem ea_runS {Qc : Array Value → State → Outcome → State → Prop} (C : ea_C p s m args meth c cc nL ret own) (hw : ea_w E ids M s H locs)
    (hM : Met l y (.code y bytes nL2 ret2 :: ea_tbl) (ea_rm rf rl) (va_Pc As (ea_P E ids M)) Qc 0 0 (ea_Ad E ids))
    (hcode : Cond.code y bytes nL2 ret2 ∈ ea_tbl) (hini : Cond.initialized y.cls ∈ ea_tbl) (hlink : Cond.methodLink own index y ∈ ea_tbl) (hstat : Cond.static y ∈ ea_tbl) (hd : ea_cd y n = true)
    (hR : rf + 1 ≤ R.frames ∧ 8 + (nL2 + 11) + rl ≤ R.locals) (hn : As.length = n) (hls : ls.size = nL) (hst : st0 = As.reverse ++ rest) (hrest : (rest.map fun v => v.category).sum ≤ 8) (hdg : decode cc pc = .ok (.invokestatic index, 3)) (hf : cells ≤ R.cells ∧ slots ≤ R.slots) :
    va_Run p l e R s m args below meth c H locs cells slots 0 0 (F0 m pc ls st0) rest (Qc As.toArray) (ea_Ad E ids) :=
  va_runS (Ts := ea_tbl) ⟨C.1, C.2.1, C.2.2.1, C.2.2.2.1, C.2.2.2.2.1⟩ hM ⟨ea_cB C hcode hini hlink hd hR, C.2.2.2.2.1 _ hstat⟩ (ea_pre hw) rfl hn hls hst (lv_room hrest) hdg hf
theorem ea_runSN {host : String} {Qc : Array Value → State → Outcome → State → Prop} (C : ea_C p s m args meth c cc nL ret own) (hw : ea_w E ids M s H locs)
    (hM : Met l y (.code y bytes nL2 ret2 :: ea_tbl) (ea_rm rf rl) (va_Pc As (ea_P E ids M)) Qc 0 0 (ea_Ad E ids))
    (hcode : Cond.code y bytes nL2 ret2 ∈ ea_tbl) (hini : Cond.initialized y.cls ∈ ea_tbl) (hlink : va_Nw (.methodLinkNest own index y host) s) (hstat : Cond.static y ∈ ea_tbl) (hd : ea_cd y n = true)
    (hR : rf + 1 ≤ R.frames ∧ 8 + (nL2 + 11) + rl ≤ R.locals) (hn : As.length = n) (hls : ls.size = nL) (hst : st0 = As.reverse ++ rest) (hrest : (rest.map fun v => v.category).sum ≤ 8) (hdg : decode cc pc = .ok (.invokestatic index, 3)) (hf : cells ≤ R.cells ∧ slots ≤ R.slots) :
    va_Run p l e R s m args below meth c H locs cells slots 0 0 (F0 m pc ls st0) rest (Qc As.toArray) (ea_Ad E ids) := by
  simp only [ea_cd, Bool.and_eq_true, decide_eq_true_eq] at hd
  exact va_runSN (Ts := ea_tbl) ⟨C.1, C.2.1, C.2.2.1, C.2.2.2.1, C.2.2.2.2.1⟩ hM ⟨va_cnB n C.2.2.2.2.1 (ea_goodc hcode) rfl rfl rfl hlink (C.2.2.2.2.1 _ hini) ⟨hd.1.1, hd.1.2, hd.2⟩ hR, C.2.2.2.2.1 _ hstat, trivial⟩ (ea_pre hw) rfl hn hls hst (lv_room hrest) hdg hf
end EAR
/-- the pure programs -/
def ea_ck {α : Type} (b : Bool) (k : Option α) : Option α := match b with
  | true => k
  | false => none
theorem ea_ck_s {α : Type} {b : Bool} {k : Option α} {r : α} (h : ea_ck b k = some r) : b = true ∧ k = some r := by
  cases b with
  | true => exact ⟨rfl, h⟩
  | false => cases h
theorem ea_ck_t {α : Type} {b : Bool} {k : Option α} (h : b = true) : ea_ck b k = k := by subst h; rfl
def ea_ci {α : Type} (q : Option (Int32 × eM)) (k : Int32 → eM → Option α) : Option α := match q with
  | none => none
  | some r => k r.1 r.2
def ea_cv {α : Type} (q : Option eM) (k : eM → Option α) : Option α := match q with
  | none => none
  | some r => k r
theorem ea_ci_s {α : Type} {q : Option (Int32 × eM)} {k : Int32 → eM → Option α} {r : α} (h : ea_ci q k = some r) : ∃ (x : Int32) (M : eM), q = some (x, M) ∧ k x M = some r := by
  cases q with
  | none => cases h
  | some z => exact ⟨z.1, z.2, rfl, h⟩
theorem ea_cv_s {α : Type} {q : Option eM} {k : eM → Option α} {r : α} (h : ea_cv q k = some r) : ∃ M : eM, q = some M ∧ k M = some r := by
  cases q with
  | none => cases h
  | some z => exact ⟨z, rfl, h⟩
theorem ea_ci_t {α : Type} {q : Option (Int32 × eM)} {k : Int32 → eM → Option α} {x : Int32} {M : eM} (h : q = some (x, M)) : ea_ci q k = k x M := by subst h; rfl
theorem ea_cv_t {α : Type} {q : Option eM} {k : eM → Option α} {M : eM} (h : q = some M) : ea_cv q k = k M := by subst h; rfl
theorem ea_if_t {α : Type} {c : Prop} {i : Decidable c} {a b : Option α} {r : α} (hc : c) (h : (@ite (Option α) c i a b) = some r) : a = some r := by rw [if_pos hc] at h; exact h
theorem ea_if_f {α : Type} {c : Prop} {i : Decidable c} {a b : Option α} {r : α} (hc : ¬ c) (h : (@ite (Option α) c i a b) = some r) : b = some r := by rw [if_neg hc] at h; exact h
def ea_nz (x : Int32) : Bool := decide (¬ x = 0)
theorem ea_nz_s {x : Int32} (h : ea_nz x = true) : ¬ x = 0 := of_decide_eq_true h
def ea_nzL (x : Int64) : Bool := decide (¬ x = 0)
theorem ea_nzL_s {x : Int64} (h : ea_nzL x = true) : ¬ x = 0 := of_decide_eq_true h
def ea_01 (x : Int32) : Bool := decide (x = 0 ∨ x = 1)
theorem ea_01_s {x : Int32} (h : ea_01 x = true) : x = 0 ∨ x = 1 := of_decide_eq_true h
def ea_is (c K : Nat) : Bool := ea_kind c == K
def ea_N : Nat := 100000
theorem ea_dyn {ids : List Nat} (h : ea_X ids) {c : Nat} (hc : ea_is c 1 = true) : ea_ok ids c 1 := by
  have hk : ea_kind c = 1 := by simpa [ea_is] using hc
  refine h c 1 ?_
  have hlt : c < 130 := ea_kind_lt hk (by decide)
  have : ∀ c, c < 130 → ea_kind c = 1 → c < 100 := by decide +kernel
  simp [ea_rX, hk, this c hlt hk]
