theorem pz_add {x y : Int32} {a b : Int} (hx : x.toInt = a) (hy : y.toInt = b) (h1 : -2147483648 ≤ a + b) (h2 : a + b < 2147483648) : (x + y).toInt = a + b := by
  rw [Int32.toInt_add, hx, hy]
  exact Int.bmod_eq_of_le (by omega) (by omega)
theorem pz_sub {x y : Int32} {a b : Int} (hx : x.toInt = a) (hy : y.toInt = b) (h1 : -2147483648 ≤ a - b) (h2 : a - b < 2147483648) : (x - y).toInt = a - b := by
  rw [Int32.toInt_sub, hx, hy]
  exact Int.bmod_eq_of_le (by omega) (by omega)
theorem pz_mul {x y : Int32} {a b : Int} (hx : x.toInt = a) (hy : y.toInt = b) (h1 : -2147483648 ≤ a * b) (h2 : a * b < 2147483648) : (x * y).toInt = a * b := by
  rw [Int32.toInt_mul, hx, hy]
  exact Int.bmod_eq_of_le (by omega) (by omega)
theorem pz_div {x y : Int32} {a b : Int} (hx : x.toInt = a) (hy : y.toInt = b) (h1 : -2147483648 ≤ a.tdiv b) (h2 : a.tdiv b < 2147483648) : (x / y).toInt = a.tdiv b := by
  rw [Int32.toInt_div, hx, hy]
  exact Int.bmod_eq_of_le (by omega) (by omega)
theorem pz_nI {x : Int32} {k : Nat} (hk : k < 2 ^ 31) (h : x.toInt = (k : Int)) : x = nI k := Int32.toInt_inj.mp (by rw [h, nI_toInt hk])
def sp_lgt (l r col k : Nat) : Nat := if l ≤ r then l + (r - l) * col / k else l - (l - r) * col / k
theorem sp_lgt_le {l r col k : Nat} (hl : l ≤ 99) (hr : r ≤ 99) (hc : col ≤ k) : sp_lgt l r col k ≤ 99 := by
  unfold sp_lgt
  by_cases h : l ≤ r
  · rw [if_pos h]
    have : (r - l) * col / k ≤ r - l := by
      rcases Nat.eq_zero_or_pos k with rfl | hk
      · simp
      · exact Nat.div_le_of_le_mul (by rw [Nat.mul_comm k]; exact Nat.mul_le_mul_left _ hc)
    generalize (r - l) * col / k = q at this ⊢
    omega
  · rw [if_neg h]
    generalize (l - r) * col / k = q
    omega
theorem pz_light {l r col k : Nat} (hl : l ≤ 99) (hr : r ≤ 99) (hc : col ≤ k) (hk : 0 < k) (hk2 : k ≤ 100) : nI l + ((nI r - nI l) * nI col) / nI k = nI (sp_lgt l r col k) := by
  have el := nI_toInt (n := l) (by omega)
  have er := nI_toInt (n := r) (by omega)
  have ec := nI_toInt (n := col) (by omega)
  have ek := nI_toInt (n := k) (by omega)
  apply pz_nI (Nat.lt_of_le_of_lt (sp_lgt_le hl hr hc) (by decide))
  have h1 := pz_sub er el (by omega) (by omega)
  unfold sp_lgt
  by_cases h : l ≤ r
  · rw [if_pos h]
    have e1 : ((r : Int) - l) = ((r - l : Nat) : Int) := by omega
    rw [e1] at h1
    have hb : (r - l) * col ≤ 99 * 100 := Nat.mul_le_mul (by omega) (by omega)
    have e2 : ((r - l : Nat) : Int) * (col : Int) = (((r - l) * col : Nat) : Int) := by rw [Int.natCast_mul]
    have h2 := pz_mul h1 ec (by rw [e2]; omega) (by rw [e2]; omega)
    rw [e2] at h2
    have hd : (r - l) * col / k ≤ (r - l) * col := Nat.div_le_self _ _
    have e3 : (((r - l) * col : Nat) : Int).tdiv (k : Int) = (((r - l) * col / k : Nat) : Int) := by rw [Int.tdiv_eq_ediv_of_nonneg (Int.natCast_nonneg _)]; rfl
    generalize hp : (r - l) * col = p at *
    generalize hq : p / k = q at *
    have h3 := pz_div h2 ek (by rw [e3]; omega) (by rw [e3]; omega)
    rw [e3] at h3
    have h4 := pz_add el h3 (by omega) (by omega)
    rw [h4]
    omega
  · rw [if_neg h]
    have e1 : ((r : Int) - l) = -((l - r : Nat) : Int) := by omega
    rw [e1] at h1
    have hb : (l - r) * col ≤ 99 * 100 := Nat.mul_le_mul (by omega) (by omega)
    have e2 : -((l - r : Nat) : Int) * (col : Int) = -(((l - r) * col : Nat) : Int) := by rw [Int.neg_mul, Int.natCast_mul]
    have h2 := pz_mul h1 ec (by rw [e2]; omega) (by rw [e2]; omega)
    rw [e2] at h2
    have hd : (l - r) * col / k ≤ (l - r) * col := Nat.div_le_self _ _
    have hd2 : (l - r) * col / k ≤ l - r := Nat.div_le_of_le_mul (by rw [Nat.mul_comm k]; exact Nat.mul_le_mul_left _ hc)
    have e3 : (-(((l - r) * col : Nat) : Int)).tdiv (k : Int) = -(((l - r) * col / k : Nat) : Int) := by rw [Int.neg_tdiv, Int.tdiv_eq_ediv_of_nonneg (Int.natCast_nonneg _)]; rfl
    generalize hp : (l - r) * col = p at *
    generalize hq : p / k = q at *
    have h3 := pz_div h2 ek (by rw [e3]; omega) (by rw [e3]; omega)
    rw [e3] at h3
    have h4 := pz_add el h3 (by omega) (by omega)
    rw [h4]
    omega
/-- THREADS: how many, their rows (a STUFF and how much; 45: no second) -/
def pn_Tok (n : Nat → Nat) (th : Nat) (o w : Nat → Nat) : Prop := th ≤ 855 ∧ ∀ t, t < th → o t < 9 * n 4 ∧ (w t = 45 ∨ w t < 9 * n 4)
def pn_TX (M : eM) (th : Nat) (o w : Nat → Nat) : Prop := M.1 4 1 = nI th ∧ ∀ t, t < th → M.1 5 t = nI (o t) ∧ M.1 6 t = nI (w t)
def pn_TY (M : eM) (th : Nat) (o w : Nat → Nat) : Prop := M.1 100 22 = nI th ∧ ∀ t, t < th → M.1 110 t = nI (o t / 9) ∧ M.1 111 t = nI (o t % 9 + 1) ∧ (w t = 45 → M.1 112 t = -1) ∧ (w t ≠ 45 → M.1 112 t = nI (w t / 9) ∧ M.1 113 t = nI (w t % 9 + 1))
def sp_tk (v : Nat → Nat → Nat) (r h c : Nat) : Nat := if r < 45 then (r % 9 + 1) * v 2 (6 * (r / 9) + c) * sp_str v (r / 9) h / 9000 else 0
def sp_col (v : Nat → Nat → Nat) (o w : Nat → Nat) (t h c : Nat) : Nat := 99 - sp_tk v (o t) h c - sp_tk v (w t) h c
theorem sp_str_le {n : Nat → Nat} {v : Nat → Nat → Nat} (ho : pn_ok n v) {f h : Nat} (hf : f < n 4) : sp_str v f h ≤ 1000 := by
  obtain ⟨-, -, -, -, h4, -, -, -, -, -, -, -, hp, -⟩ := ho
  obtain ⟨p0, p3, -⟩ := hp f hf
  unfold sp_str
  have h1 := Nat.div_le_self (v 2 (6 * f + 3)) (2 ^ (h / v 2 (6 * f + 4)))
  have h2 := Nat.div_le_self (1000 - v 2 (6 * f + 3)) (2 ^ (h / v 2 (6 * f + 5)))
  omega
theorem sp_tk_b {n : Nat → Nat} {v : Nat → Nat → Nat} (ho : pn_ok n v) {m f h c : Nat} (hm : m ≤ 9) (hf : f < n 4) (hc : c < 3) : m * v 2 (6 * f + c) * sp_str v f h ≤ 891000 := by
  have h1 := sp_str_le (h := h) ho hf
  obtain ⟨-, -, -, -, h4, -, -, -, -, -, -, -, hp, -⟩ := ho
  have h2 := (hp f hf).1 c hc
  calc m * v 2 (6 * f + c) * sp_str v f h ≤ 9 * 99 * 1000 := Nat.mul_le_mul (Nat.mul_le_mul hm h2) h1
    _ = 891000 := by decide
theorem sp_tk_le {n : Nat → Nat} {v : Nat → Nat → Nat} (ho : pn_ok n v) {r h c : Nat} (hr : r = 45 ∨ r < 9 * n 4) (hc : c < 3) : sp_tk v r h c ≤ 99 := by
  unfold sp_tk
  by_cases h45 : r < 45
  · rw [if_pos h45]
    have hb := sp_tk_b (m := r % 9 + 1) (h := h) ho (by omega) (f := r / 9) (by rcases hr with h | h <;> omega) hc
    omega
  · rw [if_neg h45]
    omega
theorem px_taken {M : eM} {c : Nat} {n : Nat → Nat} {v : Nat → Nat → Nat} (hr : M.2.2 4 0 = c) (hc : pn_c c) (hX : pn_X M c n v) (ho : pn_ok n v) {r h k : Nat} (hw : r = 45 ∨ r < 9 * n 4) (hh : h < 2 ^ 31) (hk : k < 3) : fX9_takenBy (nI r) (nI h) (nI k) M = some (nI (sp_tk v r h k), M) := by
  have h4 := ho.2.2.2.2.1
  unfold fX9_takenBy fX9_takenBy_0
  rw [show (45 : Int32) = nI 45 from rfl, pn_ilt (by omega) (by decide)]
  unfold sp_tk
  by_cases h45 : r < 45
  · have hf : r / 9 < n 4 := by omega
    have hb := sp_tk_b (m := r % 9 + 1) (h := h) ho (by omega) hf hk
    have hs := hX.2.2.2.1
    have ix : nI (r / 9) * 6 + nI k = nI (6 * (r / 9) + k) := by rw [show (6 : Int32) = nI 6 from rfl, pk_mul, nI_add, Nat.mul_comm]
    have ht : fX1_takesOf c (nI (r / 9)) (nI k) M = some (nI (v 2 (6 * (r / 9) + k)), M) := by
      unfold fX1_takesOf fX1_takesOf_0
      rw [ix, pn_l4 hc, ea_ck_t (pn_ix (by omega) (by decide)), nI_clamp (by omega), hs _ (by omega)]
    have hb2 : (r % 9 + 1) * v 2 (6 * (r / 9) + k) ≤ 9 * 99 := Nat.mul_le_mul (by omega) ((ho.2.2.2.2.2.2.2.2.2.2.2.2.1 _ hf).1 k hk)
    rw [if_pos h45, if_pos h45, hr, ea_ck_t (pn_is hc), show (9 : Int32) = nI 9 from rfl, pk_div (by omega) (by decide) (by decide), ea_ci_t ht, hr, ea_ck_t (pn_is hc), ea_ci_t (px_strength hc hX ho hf hh), pk_mul (r / 9) 9, pk_sub (by omega), show (1 : Int32) = nI 1 from rfl, nI_add, show r - r / 9 * 9 = r % 9 by omega, pk_mul, pk_mul, show (9000 : Int32) = nI 9000 from rfl, pk_div (by omega) (by decide) (by decide)]
  · rw [if_neg h45, if_neg h45]
    rfl
theorem pz_max {a b : Nat} (ha : a ≤ 99) (hb : b ≤ 99) : ea_max 0 (99 - nI a - nI b) = nI (99 - a - b) := by
  rw [show (99 : Int32) = nI 99 from rfl, pk_sub ha]
  unfold ea_max
  by_cases h : b ≤ 99 - a
  · rw [pk_sub h]
    by_cases h0 : 99 - a - b = 0
    · rw [h0]
      rfl
    · rw [if_pos (show (0 : Int32) < nI (99 - a - b) from (nI_ltI (a := 0) (by decide) (by omega)).mpr (by omega))]
  · have hn := pk_sneg (a := 99 - a) (b := b) (by omega) (by omega)
    rw [if_neg (fun q => absurd (Int32.lt_trans q hn) (Int32.lt_irrefl)), show 99 - a - b = 0 by omega]
    rfl
theorem pz_pos {a b : Nat} (ha : a ≤ 99) (hb : b ≤ 99) {M : eM} : fX11_colourOf_53 (nI b) (99 - nI a) M = some (nI (99 - a - b), M) := by
  unfold fX11_colourOf_53
  rw [show (99 : Int32) = nI 99 from rfl, pk_sub ha]
  by_cases h : b ≤ 99 - a
  · rw [pk_sub h, if_pos (nI_pos' (by omega))]
  · have hn := pk_sneg (a := 99 - a) (b := b) (by omega) (by omega)
    rw [if_neg (Int32.not_le.mpr hn), show 99 - a - b = 0 by omega]
    rfl
theorem px_shade {M : eM} {c : Nat} {n : Nat → Nat} {v : Nat → Nat → Nat} {th : Nat} {o w : Nat → Nat} (hr : M.2.2 4 0 = c) (hc : pn_c c) (hX : pn_X M c n v) (ho : pn_ok n v) (hT : pn_TX M th o w) (hk : pn_Tok n th o w) {t h k : Nat} (ht : t < th) (hh : h < 2 ^ 31) (hk3 : k < 3) : fX9_shadeOf (nI t) (nI h) (nI k) M = some (nI (sp_col v o w t h k), M) := by
  obtain ⟨h1, h2⟩ := hk.2 t ht
  obtain ⟨e1, e2⟩ := hT.2 t ht
  have hle := hk.1
  have l5 : ea_len 5 = 855 := rfl
  have l6 : ea_len 6 = 855 := rfl
  unfold fX9_shadeOf fX9_shadeOf_0
  rw [l5, l6, ea_ck_t (pn_ix (by omega) (by decide)), nI_clamp (by omega), e1, ea_ci_t (px_taken hr hc hX ho (Or.inr h1) hh hk3), ea_ck_t (pn_ix (by omega) (by decide)), e2, ea_ci_t (px_taken hr hc hX ho h2 hh hk3), pz_max (sp_tk_le ho (Or.inr h1) hk3) (sp_tk_le ho h2 hk3)]
  rfl
theorem py_part {M : eM} {n : Nat → Nat} {v : Nat → Nat → Nat} (hY : pn_Y M n v) (ho : pn_ok n v) {f m h k : Nat} (hf : f < n 4) (hm : m ≤ 9) (hh : h < 2 ^ 31) (hk : k < 3) : fX11_partOf (nI f) (nI m) (nI h) (nI k) M = some (nI (m * v 2 (6 * f + k) * sp_str v f h / 9000), M) := by
  have h4 := ho.2.2.2.2.1
  have hb := sp_tk_b (h := h) ho hm hf hk
  have hb2 : m * v 2 (6 * f + k) ≤ 9 * 99 := Nat.mul_le_mul hm ((ho.2.2.2.2.2.2.2.2.2.2.2.2.1 _ hf).1 k hk)
  have l : ea_len 106 = 60 := rfl
  unfold fX11_partOf fX11_partOf_0
  rw [show (6 : Int32) = nI 6 from rfl, pk_mul, nI_add, l, ea_ck_t (pn_ix (by omega) (by decide)), ea_ci_t (py_strength hY ho hf hh), nI_clamp (by omega), hY.2.2.2.1 _ (by omega), pk_mul, pk_mul, show (9000 : Int32) = nI 9000 from rfl, pk_div (by omega) (by decide) (by decide)]
theorem py_colour {M : eM} {n : Nat → Nat} {v : Nat → Nat → Nat} {th : Nat} {o w : Nat → Nat} (hY : pn_Y M n v) (ho : pn_ok n v) (hT : pn_TY M th o w) (hk : pn_Tok n th o w) {t h k : Nat} (ht : t < th) (hh : h < 2 ^ 31) (hk3 : k < 3) : fX11_colourOf (nI t) (nI h) (nI k) M = some (nI (sp_col v o w t h k), M) := by
  obtain ⟨h1, h2⟩ := hk.2 t ht
  obtain ⟨e1, e2, e3, e4⟩ := hT.2 t ht
  have hle := hk.1
  have h4 := ho.2.2.2.2.1
  have l0 : ea_len 110 = 855 := rfl
  have l1 : ea_len 111 = 855 := rfl
  have l2 : ea_len 112 = 855 := rfl
  have l3 : ea_len 113 = 855 := rfl
  have a1 := sp_tk_le (h := h) ho (Or.inr h1) hk3
  have a2 := sp_tk_le (h := h) ho h2 hk3
  have t1 : sp_tk v (o t) h k = (o t % 9 + 1) * v 2 (6 * (o t / 9) + k) * sp_str v (o t / 9) h / 9000 := if_pos (by omega)
  unfold fX11_colourOf fX11_colourOf_0
  rw [l0, l1, l2, l3, ea_ck_t (pn_ix (by omega) (by decide)), ea_ck_t (pn_ix (by omega) (by decide)), nI_clamp (by omega), e1, e2, ea_ci_t (py_part hY ho (by omega) (by omega) hh hk3), ea_ck_t (pn_ix (by omega) (by decide)), ← t1]
  by_cases h45 : w t = 45
  · rw [e3 h45, if_pos rfl, show (0 : Int32) = nI 0 from rfl, pz_pos a1 (by omega)]
    unfold sp_col
    rw [show sp_tk v (w t) h k = 0 from if_neg (by omega)]
  · obtain ⟨e5, e6⟩ := e4 h45
    have hw : w t < 9 * n 4 := by rcases h2 with q | q; exact absurd q h45; exact q
    have t2 : sp_tk v (w t) h k = (w t % 9 + 1) * v 2 (6 * (w t / 9) + k) * sp_str v (w t / 9) h / 9000 := if_pos (by omega)
    have hne : ¬ nI (w t / 9) = (-1 : Int32) := by
      intro q
      have := congrArg Int32.toInt q
      rw [nI_toInt (by omega)] at this
      have e : (-1 : Int32).toInt = -1 := by decide
      omega
    rw [e5, if_neg hne, ea_ck_t (pn_ix (by omega) (by decide)), ea_ck_t (pn_ix (by omega) (by decide)), e6, ea_ci_t (py_part hY ho (by omega) (by omega) hh hk3), ← t2, pz_pos a1 a2]
    rfl
