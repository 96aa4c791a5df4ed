theorem pn_lit (n : Nat) : (OfNat.ofNat n : Int32) = nI n := rfl
theorem pn_ix {k n : Nat} (h : k < n) (hn : n < 2 ^ 31) : ea_ix (nI k) n = true := by
  unfold ea_ix
  rw [nI_clamp (Nat.lt_trans h hn)]
  simp [nI_pos' (Nat.lt_trans h hn), h]
theorem pn_nz {k : Nat} (h : 0 < k) (hn : k < 2 ^ 31) : ea_nz (nI k) = true := by
  unfold ea_nz
  simp [nI_ne0 h hn]
theorem pn_and31 : ∀ t, t < 32 → nI t &&& 31 = nI t := by decide +kernel
theorem pn_smod : ∀ t, t < 32 → ((nI t).toBitVec.smod 32).toNat = t := by decide +kernel
theorem pn_shr {a t : Nat} (ha : a < 2 ^ 31) (ht : t < 32) : nI a >>> (nI t &&& 31) = nI (a / 2 ^ t) := by
  rw [pn_and31 t ht]
  exact pk_shrN ha (nI t) t (pn_smod t ht)
theorem pn_ltI {a b : Nat} (ha : a < 2 ^ 31) (hb : b < 2 ^ 31) : (nI a < nI b) = (a < b) := propext (nI_ltI ha hb)
theorem pn_leI {a b : Nat} (ha : a < 2 ^ 31) (hb : b < 2 ^ 31) : (nI a ≤ nI b) = (a ≤ b) := propext (nI_leI ha hb)
theorem pn_eqI {a b : Nat} (ha : a < 2 ^ 31) (hb : b < 2 ^ 31) : (nI a = nI b) = (a = b) := propext (nI_eq ha hb)
theorem pn_le0 {a : Nat} (ha : a < 2 ^ 31) : (nI a ≤ 0) = (a ≤ 0) := pn_leI ha (by decide)
theorem pn_eq0 {a : Nat} (ha : a < 2 ^ 31) : (nI a = 0) = (a = 0) := pn_eqI ha (by decide)
theorem pn_ile {α : Type} {a b : Nat} {x y : α} (ha : a < 2 ^ 31) (hb : b < 2 ^ 31) : (if nI a ≤ nI b then x else y) = if a ≤ b then x else y := by
  by_cases h : a ≤ b
  · rw [if_pos h, if_pos ((nI_leI ha hb).mpr h)]
  · rw [if_neg h, if_neg (fun q => h ((nI_leI ha hb).mp q))]
theorem pn_ilt {α : Type} {a b : Nat} {x y : α} (ha : a < 2 ^ 31) (hb : b < 2 ^ 31) : (if nI a < nI b then x else y) = if a < b then x else y := by
  by_cases h : a < b
  · rw [if_pos h, if_pos ((nI_ltI ha hb).mpr h)]
  · rw [if_neg h, if_neg (fun q => h ((nI_ltI ha hb).mp q))]
theorem pn_ieq {α : Type} {a b : Nat} {x y : α} (ha : a < 2 ^ 31) (hb : b < 2 ^ 31) : (if nI a = nI b then x else y) = if a = b then x else y := by
  by_cases h : a = b
  · rw [if_pos h, if_pos ((nI_eq ha hb).mpr h)]
  · rw [if_neg h, if_neg (fun q => h ((nI_eq ha hb).mp q))]
theorem ea_lt_t {α β : Type} {v : α} {k : α → Option β} : ea_lt v k = k v := rfl
theorem pn_0le {a : Nat} (ha : a < 2 ^ 31) : ¬ nI a < 0 := nI_pos ha
theorem pn_small {a t : Nat} (ha : a ≤ 1000) (ht : 10 ≤ t) : a / 2 ^ t = 0 := by
  apply Nat.div_eq_of_lt
  have : 2 ^ 10 ≤ 2 ^ t := Nat.pow_le_pow_right (by decide) ht
  omega
/-- the two Cloths -/
def pn_c (c : Nat) : Prop := c = 10 ∨ c = 20
theorem pn_is {c : Nat} (h : pn_c c) : ea_is c 1 = true := by rcases h with rfl | rfl <;> rfl
theorem pn_l1 {c : Nat} (h : pn_c c) : ea_len (c + 1) = 3 := by rcases h with rfl | rfl <;> rfl
theorem pn_l2 {c : Nat} (h : pn_c c) : ea_len (c + 2) = 3 := by rcases h with rfl | rfl <;> rfl
theorem pn_l4 {c : Nat} (h : pn_c c) : ea_len (c + 4) = 30 := by rcases h with rfl | rfl <;> rfl
theorem pn_l6 {c : Nat} (h : pn_c c) : ea_len (c + 6) = 4 := by rcases h with rfl | rfl <;> rfl
theorem pn_l7 {c : Nat} (h : pn_c c) : ea_len (c + 7) = 96 := by rcases h with rfl | rfl <;> rfl
theorem pn_l9 {c : Nat} (h : pn_c c) : ea_len (c + 9) = 18 := by rcases h with rfl | rfl <;> rfl
/-- a CLOTH's numbers: n (0 columns, 1 rows, 2 slack, 3 most, 4 stuffs, 5 stories, 6 eyes, 7 mended, 8 clauses), v (0 bright, 1 years, 2 stuffs' parts, 3 hangs, 4 hangs' parts, 5 eyes) -/
def pn_ok (n : Nat → Nat) (v : Nat → Nat → Nat) : Prop :=
  (1 ≤ n 0 ∧ n 0 ≤ 8) ∧ (1 ≤ n 1 ∧ n 1 ≤ 6) ∧ n 2 ≤ 20 ∧ (1 ≤ n 3 ∧ n 3 ≤ 2) ∧ n 4 ≤ 5 ∧ n 5 ≤ 4 ∧ n 6 ≤ 2 ∧ n 7 ≤ 3 ∧ n 8 ≤ 900 ∧
  (∀ k, k < 3 → v 0 k ≤ 200) ∧ (∀ k, k < n 7 → 1 ≤ v 1 k ∧ v 1 k ≤ 999) ∧ (∀ k, k + 1 < n 7 → v 1 k < v 1 (k + 1)) ∧
  (∀ f, f < n 4 → (∀ j, j < 3 → v 2 (6 * f + j) ≤ 99) ∧ v 2 (6 * f + 3) ≤ 1000 ∧ (1 ≤ v 2 (6 * f + 4) ∧ v 2 (6 * f + 4) ≤ 999) ∧ (1 ≤ v 2 (6 * f + 5) ∧ v 2 (6 * f + 5) ≤ 9999)) ∧
  (∀ s, s < n 5 → (1 ≤ v 3 s ∧ v 3 s ≤ 6) ∧ ∀ i, i < v 3 s → (1 ≤ v 4 (4 * (6 * s + i)) ∧ v 4 (4 * (6 * s + i)) ≤ 400) ∧ v 4 (4 * (6 * s + i) + 1) ≤ 99 ∧ v 4 (4 * (6 * s + i) + 2) ≤ 99 ∧ v 4 (4 * (6 * s + i) + 3) ≤ 100) ∧
  (∀ k, k < 9 * n 6 → v 5 k ≤ 9)
/-- the class's Cloth c holds them -/
def pn_X (M : eM) (c : Nat) (n : Nat → Nat) (v : Nat → Nat → Nat) : Prop :=
  (M.1 c 0 = nI (n 0) ∧ M.1 c 1 = nI (n 1) ∧ M.1 c 2 = nI (n 2) ∧ M.1 c 3 = nI (n 3) ∧ M.1 c 8 = nI (n 4) ∧ M.1 c 11 = nI (n 5) ∧ M.1 c 15 = nI (n 6) ∧ M.1 c 6 = nI (n 7) ∧ M.1 c 4 = nI (n 8)) ∧
  (∀ k, k < 3 → M.1 (c + 1) k = nI (v 0 k)) ∧ (∀ k, k < n 7 → M.1 (c + 2) k = nI (v 1 k)) ∧ (∀ k, k < 6 * n 4 → M.1 (c + 4) k = nI (v 2 k)) ∧ (∀ k, k < n 5 → M.1 (c + 6) k = nI (v 3 k)) ∧
  (∀ s i j, s < n 5 → i < v 3 s → j < 4 → M.1 (c + 7) (4 * (6 * s + i) + j) = nI (v 4 (4 * (6 * s + i) + j))) ∧ (∀ k, k < 9 * n 6 → M.1 (c + 9) k = nI (v 5 k))
/-- the model holds them -/
def pn_Y (M : eM) (n : Nat → Nat) (v : Nat → Nat → Nat) : Prop :=
  (M.1 102 0 = nI (n 0) ∧ M.1 102 1 = nI (n 1) ∧ M.1 102 2 = nI (n 2) ∧ M.1 102 3 = nI (n 3) ∧ M.1 102 4 = nI (n 4) ∧ M.1 102 5 = nI (n 5) ∧ M.1 102 6 = nI (n 6) ∧ M.1 102 7 = nI (n 7) ∧ M.1 100 20 = nI (n 8)) ∧
  (∀ k, k < 3 → M.1 102 (8 + k) = nI (v 0 k)) ∧ (∀ k, k < n 7 → M.1 102 (11 + k) = nI (v 1 k)) ∧ (∀ k, k < 6 * n 4 → M.1 106 k = nI (v 2 k)) ∧ (∀ k, k < n 5 → M.1 107 k = nI (v 3 k)) ∧
  (∀ s i j, s < n 5 → i < v 3 s → j < 4 → M.1 108 (4 * (6 * s + i) + j) = nI (v 4 (4 * (6 * s + i) + j))) ∧ (∀ k, k < 9 * n 6 → M.1 109 k = nI (v 5 k))
/-- strength -/
def sp_str (v : Nat → Nat → Nat) (f h : Nat) : Nat := v 2 (6 * f + 3) / 2 ^ (h / v 2 (6 * f + 4)) + (1000 - v 2 (6 * f + 3)) / 2 ^ (h / v 2 (6 * f + 5))
theorem px_halved {M : eM} {a h e : Nat} (ha : a ≤ 1000) (hh : h < 2 ^ 31) (he : 0 < e) (he2 : e < 2 ^ 31) : fX1_halved (nI a) (nI h) (nI e) M = some (nI (a / 2 ^ (h / e)), M) := by
  unfold fX1_halved fX1_halved_0
  have hd : h / e < 2 ^ 31 := Nat.lt_of_le_of_lt (Nat.div_le_self _ _) hh
  rw [show (0 : Int32) = nI 0 from rfl, pn_ile he2 (by decide), if_neg (by omega), ea_ck_t (pn_nz he he2), pk_div hh he he2]
  unfold fX1_halved_11
  have e31 : (nI (h / e) ≤ 31) ↔ h / e ≤ 31 := nI_leI hd (b := 31) (by decide)
  by_cases ht : h / e ≤ 31
  · rw [if_pos (e31.mpr ht), pn_shr (by omega) (by omega)]
  · rw [if_neg (fun q => ht (e31.mp q)), pn_small ha (by omega)]
    rfl
theorem py_halved {M : eM} {a t : Nat} (ha : a ≤ 1000) (ht : t < 2 ^ 31) : fX11_halved (nI a) (nI t) M = some (nI (a / 2 ^ t), M) := by
  unfold fX11_halved fX11_halved_0
  have e30 : (nI t ≤ 30) ↔ t ≤ 30 := nI_leI ht (b := 30) (by decide)
  by_cases h : t ≤ 30
  · rw [if_pos (e30.mpr h), pn_shr (by omega) (by omega)]
  · rw [if_neg (fun q => h (e30.mp q)), pn_small ha (by omega)]
    rfl
theorem px_strength {M : eM} {c : Nat} {n : Nat → Nat} {v : Nat → Nat → Nat} (hc : pn_c c) (hX : pn_X M c n v) (ho : pn_ok n v) {f h : Nat} (hf : f < n 4) (hh : h < 2 ^ 31) : fX1_strengthOf c (nI f) (nI h) M = some (nI (sp_str v f h), M) := by
  obtain ⟨-, -, -, -, h4, -, -, -, -, -, -, -, hp, -⟩ := ho
  obtain ⟨p0, p3, ⟨p4, p4'⟩, p5, p5'⟩ := hp f hf
  obtain ⟨-, -, -, hs, -⟩ := hX
  have i3 : nI f * 6 + 3 = nI (6 * f + 3) := by rw [show (6 : Int32) = nI 6 from rfl, show (3 : Int32) = nI 3 from rfl, pk_mul, nI_add, Nat.mul_comm]
  have i4 : nI f * 6 + 4 = nI (6 * f + 4) := by rw [show (6 : Int32) = nI 6 from rfl, show (4 : Int32) = nI 4 from rfl, pk_mul, nI_add, Nat.mul_comm]
  have i5 : nI f * 6 + 5 = nI (6 * f + 5) := by rw [show (6 : Int32) = nI 6 from rfl, show (5 : Int32) = nI 5 from rfl, pk_mul, nI_add, Nat.mul_comm]
  unfold fX1_strengthOf fX1_strengthOf_0
  rw [i3, i4, i5, pn_l4 hc, ea_ck_t (pn_ix (by omega) (by decide)), nI_clamp (by omega), nI_clamp (by omega), nI_clamp (by omega), hs (6 * f + 3) (by omega), ea_lt_t, ea_ck_t (pn_ix (by omega) (by decide)), hs (6 * f + 4) (by omega), ea_ci_t (px_halved p3 hh (by omega) (by omega)), ea_ck_t (pn_ix (by omega) (by decide)), hs (6 * f + 5) (by omega), show (1000 : Int32) = nI 1000 from rfl, pk_sub p3, ea_ci_t (px_halved (by omega) hh (by omega) (by omega)), nI_add]
  rfl
theorem py_strength {M : eM} {n : Nat → Nat} {v : Nat → Nat → Nat} (hY : pn_Y M n v) (ho : pn_ok n v) {f h : Nat} (hf : f < n 4) (hh : h < 2 ^ 31) : fX11_strengthOf (nI f) (nI h) M = some (nI (sp_str v f h), M) := by
  obtain ⟨-, -, -, -, h4, -, -, -, -, -, -, -, hp, -⟩ := ho
  obtain ⟨p0, p3, ⟨p4, p4'⟩, p5, p5'⟩ := hp f hf
  obtain ⟨-, -, -, hs, -⟩ := hY
  have i3 : 6 * nI f + 3 = nI (6 * f + 3) := by rw [show (6 : Int32) = nI 6 from rfl, show (3 : Int32) = nI 3 from rfl, pk_mul, nI_add]
  have i4 : 6 * nI f + 4 = nI (6 * f + 4) := by rw [show (6 : Int32) = nI 6 from rfl, show (4 : Int32) = nI 4 from rfl, pk_mul, nI_add]
  have i5 : 6 * nI f + 5 = nI (6 * f + 5) := by rw [show (6 : Int32) = nI 6 from rfl, show (5 : Int32) = nI 5 from rfl, pk_mul, nI_add]
  have hl : ea_len 106 = 60 := rfl
  have d4 : h / v 2 (6 * f + 4) < 2 ^ 31 := Nat.lt_of_le_of_lt (Nat.div_le_self _ _) hh
  have d5 : h / v 2 (6 * f + 5) < 2 ^ 31 := Nat.lt_of_le_of_lt (Nat.div_le_self _ _) hh
  unfold fX11_strengthOf fX11_strengthOf_0
  rw [i3, i4, i5, hl, nI_clamp (by omega), nI_clamp (by omega), nI_clamp (by omega), hs (6 * f + 3) (by omega), hs (6 * f + 4) (by omega), ea_ck_t (pn_ix (by omega) (by decide)), ea_ck_t (pn_ix (by omega) (by decide)), ea_ck_t (pn_nz (by omega) (by omega)), pk_div hh (by omega) (by omega), ea_ci_t (py_halved p3 d4), ea_ck_t (pn_ix (by omega) (by decide)), ea_ck_t (pn_ix (by omega) (by decide)), hs (6 * f + 3) (by omega), hs (6 * f + 5) (by omega), ea_ck_t (pn_nz (by omega) (by omega)), pk_div hh (by omega) (by omega), show (1000 : Int32) = nI 1000 from rfl, pk_sub p3, ea_ci_t (py_halved (by omega) d5), nI_add]
  rfl
