theorem pz_m1 (x : Int32) : x + (-1) = x - 1 := by rw [Int32.sub_eq_add_neg]
/-- the last place below k of which p holds -/
def lst (p : Nat → Bool) : Nat → Option Nat
  | 0 => none
  | k + 1 => if p k = true then some k else lst p k
theorem lst_lt {p : Nat → Bool} : ∀ {k i : Nat}, lst p k = some i → i < k ∧ p i = true
  | 0, i, h => by cases h
  | k + 1, i, h => by
    unfold lst at h
    by_cases hp : p k = true
    · rw [if_pos hp] at h
      cases h
      exact ⟨by omega, hp⟩
    · rw [if_neg hp] at h
      have := lst_lt h
      exact ⟨by omega, this.2⟩
theorem lst_none {p : Nat → Bool} : ∀ {k : Nat}, lst p k = none → ∀ i, i < k → p i = false
  | 0, _, i, hi => absurd hi (Nat.not_lt_zero _)
  | k + 1, h, i, hi => by
    unfold lst at h
    by_cases hp : p k = true
    · rw [if_pos hp] at h
      cases h
    · rw [if_neg hp] at h
      rcases Nat.lt_or_ge i k with q | q
      · exact lst_none h i q
      · have e : i = k := by omega
        subst e
        exact Bool.eq_false_iff.mpr hp
def enc (f : Nat → Nat) : Option Nat → Int32
  | none => -1
  | some i => nI (f i)
def lkp (l : Nat → Nat → Nat) (cell side known i : Nat) : Bool := decide (l i 0 ≤ known) && (decide (l i 1 = cell) && decide (l i 2 = side))
theorem pn_la1 {a : Nat} (h : pn_a a) : ea_len (a + 1) = 540 := by rcases h with rfl | rfl | rfl | rfl <;> rfl
theorem pn_la2 {a : Nat} (h : pn_a a) : ea_len (a + 2) = 120 := by rcases h with rfl | rfl | rfl | rfl <;> rfl
theorem pn_la3 {a : Nat} (h : pn_a a) : ea_len (a + 3) = 120 := by rcases h with rfl | rfl | rfl | rfl <;> rfl
section LK
variable {M : eM} {a : Nat} {q : Nat → Nat} {l t r : Nat → Nat → Nat}
theorem px_look_loop (ha : pn_a a) (hok : pn_Lok q l t r) (h : pn_LX M a q l t r) {cell side known : Nat} (hc : cell < 2 ^ 20) (hs : side < 2 ^ 20) (hk : known < 2 ^ 20) :
    ∀ (k j : Nat), j < k → j ≤ q 0 → fX8_latestLook_8 a k (nI cell) (nI side) (nI known) (nI j - 1) M = some (enc id (lst (lkp l cell side known) j), M) := by
  intro k
  induction k with
  | zero => intro j h1; omega
  | succ k ih =>
    intro j h1 h2
    have hq := hok.1
    rw [fX8_latestLook_8]
    match j with
    | 0 => rw [if_pos (by decide)]; rfl
    | j + 1 =>
      obtain ⟨b0, b1, b2, -⟩ := hok.2.2.2.2.1 j (by omega)
      have g0 : M.1 (a + 1) (6 * j) = nI (l j 0) := (h.2.1 j 0 (by omega) (by decide)).1
      have g1 := (h.2.1 j 1 (by omega) (by decide)).1
      have g2 := (h.2.1 j 2 (by omega) (by decide)).1
      have i0 : nI j * 6 = nI (6 * j) := by rw [show (6 : Int32) = nI 6 from rfl, pk_mul, Nat.mul_comm]
      have i1 : nI (6 * j) + 1 = nI (6 * j + 1) := nI_add _ 1
      have i2 : nI (6 * j) + 2 = nI (6 * j + 2) := nI_add _ 2
      have next : fX8_latestLook_60 (fX8_latestLook_8 a k) a (nI cell) (nI side) (nI known) (nI j) M = some (enc id (lst (lkp l cell side known) j), M) := by
        unfold fX8_latestLook_60
        rw [pz_m1]
        exact ih j (by omega) (by omega)
      rw [nI_pred, if_neg (pn_0le (by omega)), i0, i1, i2, pn_la1 ha, ea_ck_t (pn_ix (by omega) (by decide)), nI_clamp (by omega), nI_clamp (by omega), nI_clamp (by omega), g0, g1, g2, next, ea_ck_t (pn_ix (by omega) (by decide)), ea_ck_t (pn_ix (by omega) (by decide)), pn_ilt (by omega) (by omega), pn_ieq (by omega) (by omega), pn_ieq (by omega) (by omega)]
      have el : lst (lkp l cell side known) (j + 1) = if lkp l cell side known j = true then some j else lst (lkp l cell side known) j := rfl
      rw [el]
      by_cases c0 : known < l j 0
      · rw [if_pos c0, if_neg (by simp [lkp]; omega)]
      · rw [if_neg c0]
        by_cases c1 : l j 1 = cell
        · rw [if_pos c1]
          by_cases c2 : l j 2 = side
          · rw [if_pos c2, if_pos (by simp [lkp, c1, c2]; omega)]
            rfl
          · rw [if_neg c2, if_neg (by simp [lkp, c2])]
        · rw [if_neg c1, if_neg (by simp [lkp, c1])]
theorem px_look (ha : pn_a a) (hok : pn_Lok q l t r) (h : pn_LX M a q l t r) {cell side known : Nat} (hc : cell < 2 ^ 20) (hs : side < 2 ^ 20) (hk : known < 2 ^ 20) : fX8_latestLook a (nI cell) (nI side) (nI known) M = some (enc id (lst (lkp l cell side known) (q 0)), M) := by
  have hq := hok.1
  unfold fX8_latestLook fX8_latestLook_0
  rw [h.1.1]
  exact px_look_loop ha hok h hc hs hk ea_N (q 0) (by unfold ea_N; omega) (Nat.le_refl _)
theorem py_look_loop (hok : pn_Lok q l t r) (h : pn_LY M 0 q l t r) {cell side known : Nat} (hc : cell < 2 ^ 20) (hs : side < 2 ^ 20) (hk : known < 2 ^ 20) :
    ∀ (k j : Nat), q 0 < j + k → j ≤ q 0 → fX11_lookAt_6 k (nI cell) (nI side) (nI known) (enc (fun i => 4 + 7 * i) (lst (lkp l cell side known) j)) (nI j) M = some (enc (fun i => 4 + 7 * i) (lst (lkp l cell side known) (q 0)), M) := by
  intro k
  induction k with
  | zero => intro j h1 h2; omega
  | succ k ih =>
    intro j h1 h2
    have hq := hok.1
    have e0 : M.1 114 0 = nI (q 0) := h.1 0 (by decide)
    have ll : ea_len 114 = 3416 := rfl
    rw [fX11_lookAt_6, show (0 : Int32).toNatClampNeg = 0 from rfl, e0, pn_ile (by omega) (by omega)]
    by_cases hj : q 0 ≤ j
    · rw [if_pos hj, show j = q 0 by omega]
    · rw [if_neg hj]
      obtain ⟨b0, b1, b2, -⟩ := hok.2.2.2.2.1 j (by omega)
      have g0 : M.1 114 (4 + 7 * j) = nI (l j 0) := by have := h.2.1 j 0 (by omega) (by decide); rw [Nat.zero_add] at this; exact this
      have g1 : M.1 114 (4 + 7 * j + 1) = nI (l j 1) := by have := h.2.1 j 1 (by omega) (by decide); rw [Nat.zero_add] at this; exact this
      have g2 : M.1 114 (4 + 7 * j + 2) = nI (l j 2) := by have := h.2.1 j 2 (by omega) (by decide); rw [Nat.zero_add] at this; exact this
      have i0 : (4 : Int32) + 7 * nI j = nI (4 + 7 * j) := by rw [show (4 : Int32) = nI 4 from rfl, show (7 : Int32) = nI 7 from rfl, pk_mul, nI_add]
      have i1 : nI (4 + 7 * j) + 1 = nI (4 + 7 * j + 1) := nI_add _ 1
      have i2 : nI (4 + 7 * j) + 2 = nI (4 + 7 * j + 2) := nI_add _ 2
      have nx : ∀ z : Option Nat, z = lst (lkp l cell side known) (j + 1) → fX11_lookAt_67 (fX11_lookAt_6 k) (nI cell) (nI side) (nI known) (enc (fun i => 4 + 7 * i) z) (nI j) M = some (enc (fun i => 4 + 7 * i) (lst (lkp l cell side known) (q 0)), M) := by
        intro z hz
        unfold fX11_lookAt_67
        rw [hz, show nI j + 1 = nI (j + 1) from nI_add j 1]
        exact ih (j + 1) (by omega) (by omega)
      have el : lst (lkp l cell side known) (j + 1) = if lkp l cell side known j = true then some j else lst (lkp l cell side known) j := rfl
      rw [i0, ea_lt_t, i1, i2, ll, ea_ck_t (pn_ix (by omega) (by decide)), nI_clamp (by omega), nI_clamp (by omega), nI_clamp (by omega), g0, g1, g2, ea_ck_t (pn_ix (by omega) (by decide)), ea_ck_t (pn_ix (by omega) (by decide)), pn_ilt (by omega) (by omega), pn_ieq (by omega) (by omega), pn_ieq (by omega) (by omega)]
      by_cases c0 : known < l j 0
      · rw [if_pos c0]
        exact nx _ (by rw [el, if_neg (by simp [lkp]; omega)])
      · rw [if_neg c0]
        by_cases c1 : l j 1 = cell
        · rw [if_pos c1]
          by_cases c2 : l j 2 = side
          · rw [if_pos c2]
            exact nx (some j) (by rw [el, if_pos (by simp [lkp, c1, c2]; omega)])
          · rw [if_neg c2]
            exact nx _ (by rw [el, if_neg (by simp [lkp, c2])])
        · rw [if_neg c1]
          exact nx _ (by rw [el, if_neg (by simp [lkp, c1])])
theorem py_look (hok : pn_Lok q l t r) (h : pn_LY M 0 q l t r) {cell side known : Nat} (hc : cell < 2 ^ 20) (hs : side < 2 ^ 20) (hk : known < 2 ^ 20) : fX11_lookAt (nI cell) (nI side) (nI known) M = some (enc (fun i => 4 + 7 * i) (lst (lkp l cell side known) (q 0)), M) := by
  have hq := hok.1
  exact py_look_loop hok h hc hs hk ea_N 0 (by unfold ea_N; omega) (by omega)
/-- a colour of a LOOK, as the class tells it -/
def sp_ls (l : Nat → Nat → Nat) (z : Option Nat) (k : Nat) : Int32 := match z with
  | none => -1
  | some i => if l i 6 = 1 then -5 else nI (l i (3 + k))
theorem px_shadeL (ha : pn_a a) (hok : pn_Lok q l t r) (h : pn_LX M a q l t r) {z : Option Nat} (hz : ∀ i, z = some i → i < q 0) {k : Nat} (hk : k < 3) : fX8_lookShade a (enc id z) (nI k) M = some (sp_ls l z k, M) := by
  have hq := hok.1
  unfold fX8_lookShade fX8_lookShade_0
  cases z with
  | none => rfl
  | some i =>
    have hi := hz i rfl
    have g := (h.2.1 i k hi hk).2
    have i0 : nI i * 6 + 3 + nI k = nI (6 * i + (3 + k)) := by rw [show (6 : Int32) = nI 6 from rfl, show (3 : Int32) = nI 3 from rfl, pk_mul, nI_add, nI_add, Nat.mul_comm, Nat.add_assoc]
    show (if nI i < 0 then _ else _) = _
    rw [if_neg (pn_0le (by omega)), h.1.1]
    show (if nI (q 0) ≤ nI i then _ else ea_ck (ea_ix (nI i * 6 + 3 + nI k) _) _) = _
    rw [pn_ile (by omega) (by omega), if_neg (by omega), pn_la1 ha]
    show ea_ck (ea_ix (nI i * 6 + 3 + nI k) 540) (some (M.1 (a + 1) (nI i * 6 + 3 + nI k).toNatClampNeg, M)) = _
    rw [i0, ea_ck_t (pn_ix (by omega) (by decide)), nI_clamp (by omega), g]
    rfl
/-- whether a LOOK shows colours -/
def sp_seen (l : Nat → Nat → Nat) (z : Option Nat) : Bool := match z with
  | none => false
  | some i => decide (l i 6 ≠ 1)
theorem px_seen (ha : pn_a a) (hok : pn_Lok q l t r) (h : pn_LX M a q l t r) {z : Option Nat} (hz : ∀ i, z = some i → i < q 0) : fX8_isSeen a (enc id z) M = some (if sp_seen l z = true then 1 else 0, M) := by
  unfold fX8_isSeen fX8_isSeen_0
  rw [show (0 : Int32) = nI 0 from rfl, ea_ci_t (px_shadeL ha hok h hz (by decide))]
  cases z with
  | none => rfl
  | some i =>
    have hi := hz i rfl
    obtain ⟨-, -, -, b3, -⟩ := hok.2.2.2.2.1 i hi
    unfold sp_ls sp_seen
    by_cases hg : l i 6 = 1
    · simp only [hg, if_true]
      rfl
    · have := b3 0 (by decide)
      simp only [hg, if_false]
      rw [if_neg (show ¬ nI (l i (3 + 0)) < nI 0 from pn_0le (by omega))]
      simp [hg]
end LK
