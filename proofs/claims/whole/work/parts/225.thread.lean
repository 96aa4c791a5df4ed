/-- the first place from j on, m places far, of which p holds -/
def fdr (p : Nat → Bool) (j : Nat) : Nat → Option Nat
  | 0 => none
  | m + 1 => if p j = true then some j else fdr p (j + 1) m
theorem fdr_congr {p p' : Nat → Bool} : ∀ {m j : Nat}, (∀ t, j ≤ t → t < j + m → p t = p' t) → fdr p j m = fdr p' j m := by
  intro m
  induction m with
  | zero => intro j _; rfl
  | succ m ih =>
    intro j h
    show (if p j = true then some j else fdr p (j + 1) m) = (if p' j = true then some j else fdr p' (j + 1) m)
    rw [h j (Nat.le_refl _) (by omega), ih (j := j + 1) (fun t h1 h2 => h t (by omega) (by omega))]
theorem fdr_none {p : Nat → Bool} : ∀ {m j : Nat}, (∀ t, j ≤ t → t < j + m → p t = false) → fdr p j m = none := by
  intro m
  induction m with
  | zero => intro j _; rfl
  | succ m ih =>
    intro j h
    show (if p j = true then some j else fdr p (j + 1) m) = none
    rw [h j (Nat.le_refl _) (by omega), if_neg (by decide)]
    exact ih (j := j + 1) (fun t h1 h2 => h t (by omega) (by omega))
theorem fdr_some {p : Nat → Bool} : ∀ {m j i : Nat}, fdr p j m = some i → j ≤ i ∧ i < j + m ∧ p i = true := by
  intro m
  induction m with
  | zero => intro j i h; cases h
  | succ m ih =>
    intro j i h
    have h : (if p j = true then some j else fdr p (j + 1) m) = some i := h
    by_cases hp : p j = true
    · rw [if_pos hp] at h
      cases h
      exact ⟨Nat.le_refl _, by omega, hp⟩
    · rw [if_neg hp] at h
      obtain ⟨h1, h2, h3⟩ := ih h
      exact ⟨by omega, by omega, h3⟩
theorem fdr_ex {p : Nat → Bool} : ∀ {m j i : Nat}, j ≤ i → i < j + m → p i = true → ∃ i', fdr p j m = some i' := by
  intro m
  induction m with
  | zero => intro j i h1 h2; omega
  | succ m ih =>
    intro j i h1 h2 hp
    show ∃ i', (if p j = true then some j else fdr p (j + 1) m) = some i'
    by_cases hq : p j = true
    · rw [if_pos hq]; exact ⟨j, rfl⟩
    · rw [if_neg hq]
      have hne : i ≠ j := fun e => by subst e; exact hq hp
      exact ih (j := j + 1) (i := i) (by omega) (by omega) hp
def enc2 : Option Nat → Int32
  | none => -2
  | some i => nI i
def np (M : eM) (x y : Int32) (t : Nat) : Bool := decide (M.1 5 t = x) && decide (M.1 6 t = y)
def tp (M : eM) (x1 x2 x3 x4 : Int32) (t : Nat) : Bool := decide (M.1 110 t = x1) && (decide (M.1 111 t = x2) && (decide (M.1 112 t = x3) && (decide (x3 = -1) || decide (M.1 113 t = x4))))
theorem px_num_loop {M : eM} {th : Nat} (hth : th ≤ 855) (h : M.1 4 1 = nI th) (x y : Int32) : ∀ (k m j : Nat), m < k → j + m = th → fX9_numberOf_2 k x y (nI j) M = some (enc2 (fdr (np M x y) j m), M) := by
  intro k
  induction k with
  | zero => intro m j h1; omega
  | succ k ih =>
    intro m j h1 h2
    have l5 : ea_len 5 = 855 := rfl
    have l6 : ea_len 6 = 855 := rfl
    rw [fX9_numberOf_2, h, pn_ile (by omega) (by omega)]
    match m with
    | 0 => rw [if_pos (by omega)]; rfl
    | m + 1 =>
      have nx : fX9_numberOf_32 (fX9_numberOf_2 k) x y (nI j) M = some (enc2 (fdr (np M x y) (j + 1) m), M) := by
        unfold fX9_numberOf_32
        rw [show nI j + 1 = nI (j + 1) from nI_add j 1]
        exact ih m (j + 1) (by omega) (by omega)
      have e : fdr (np M x y) j (m + 1) = if np M x y j = true then some j else fdr (np M x y) (j + 1) m := rfl
      rw [if_neg (by omega), l5, l6, ea_ck_t (pn_ix (by omega) (by decide)), nI_clamp (by omega), nx, ea_ck_t (pn_ix (by omega) (by decide)), e]
      by_cases c1 : M.1 5 j = x
      · rw [if_pos c1]
        by_cases c2 : M.1 6 j = y
        · rw [if_pos c2, if_pos (by simp [np, c1, c2])]
          rfl
        · rw [if_neg c2, if_neg (by simp [np, c2])]
      · rw [if_neg c1, if_neg (by simp [np, c1])]
theorem px_num {M : eM} {th : Nat} (hth : th ≤ 855) (h : M.1 4 1 = nI th) (x y : Int32) : fX9_numberOf x y M = some (enc2 (fdr (np M x y) 0 th), M) := px_num_loop hth h x y ea_N th 0 (by unfold ea_N; omega) (by omega)
theorem py_thr_loop {M : eM} {th : Nat} (hth : th ≤ 855) (h : M.1 100 22 = nI th) (x1 x2 x3 x4 : Int32) : ∀ (k m j : Nat), m < k → j + m = th → fX11_thread_3 k x1 x2 x3 x4 (nI j) M = some (enc2 (fdr (tp M x1 x2 x3 x4) j m), M) := by
  intro k
  induction k with
  | zero => intro m j h1; omega
  | succ k ih =>
    intro m j h1 h2
    have l0 : ea_len 110 = 855 := rfl
    have l1 : ea_len 111 = 855 := rfl
    have l2 : ea_len 112 = 855 := rfl
    have l3 : ea_len 113 = 855 := rfl
    rw [fX11_thread_3, h, pn_ile (by omega) (by omega)]
    match m with
    | 0 => rw [if_pos (by omega)]; rfl
    | m + 1 =>
      have nx : fX11_thread_65 (fX11_thread_3 k) x1 x2 x3 x4 (nI j) M = some (enc2 (fdr (tp M x1 x2 x3 x4) (j + 1) m), M) := by
        unfold fX11_thread_65
        rw [show nI j + 1 = nI (j + 1) from nI_add j 1]
        exact ih m (j + 1) (by omega) (by omega)
      have e : fdr (tp M x1 x2 x3 x4) j (m + 1) = if tp M x1 x2 x3 x4 j = true then some j else fdr (tp M x1 x2 x3 x4) (j + 1) m := rfl
      rw [if_neg (by omega), l0, l1, l2, l3, ea_ck_t (pn_ix (by omega) (by decide)), nI_clamp (by omega), nx, ea_ck_t (pn_ix (by omega) (by decide)), ea_ck_t (pn_ix (by omega) (by decide)), ea_ck_t (pn_ix (by omega) (by decide)), e]
      by_cases c1 : M.1 110 j = x1
      · rw [if_pos c1]
        by_cases c2 : M.1 111 j = x2
        · rw [if_pos c2]
          by_cases c3 : M.1 112 j = x3
          · rw [if_pos c3]
            by_cases c4 : x3 = -1
            · rw [if_pos c4, if_pos (by simp [tp, c1, c2, c3, c4])]
              rfl
            · rw [if_neg c4]
              by_cases c5 : M.1 113 j = x4
              · rw [if_pos c5, if_pos (by simp [tp, c1, c2, c3, c5])]
                rfl
              · rw [if_neg c5, if_neg (by simp [tp, c4, c5])]
          · rw [if_neg c3, if_neg (by simp [tp, c3])]
        · rw [if_neg c2, if_neg (by simp [tp, c2])]
      · rw [if_neg c1, if_neg (by simp [tp, c1])]
theorem py_thr {M : eM} {th : Nat} (hth : th ≤ 855) (h : M.1 100 22 = nI th) (x1 x2 x3 x4 : Int32) : fX11_thread x1 x2 x3 x4 M = some (enc2 (fdr (tp M x1 x2 x3 x4) 0 th), M) := py_thr_loop hth h x1 x2 x3 x4 ea_N th 0 (by unfold ea_N; omega) (by omega)
section TH
variable {M : eM} {c : Nat} {n : Nat → Nat} {v : Nat → Nat → Nat} {th : Nat} {o w : Nat → Nat}
/-- rows and STUFFS name the same THREADS -/
theorem tp_one (h : pn_C M c n v th o w) {f a : Nat} (hf : f < n 4) (ha : 1 ≤ a ∧ a ≤ 9) (x4 : Int32) : ∀ t, t < th → tp M (nI f) (nI a) (-1) x4 t = np M (nI (9 * f + a - 1)) (nI 45) t := by
  intro t ht
  obtain ⟨-, -, -, ho, -, -, hTh, hTX, hTY⟩ := h
  have h4 := ho.2.2.2.2.1
  obtain ⟨k1, k2⟩ := hTh.1.2 t ht
  obtain ⟨e1, e2⟩ := hTX.2 t ht
  obtain ⟨g1, g2, g3, g4⟩ := hTY.2 t ht
  unfold tp np
  rw [e1, e2, g1, g2]
  by_cases c1 : o t = 9 * f + a - 1
  · have d1 : o t / 9 = f := by omega
    have d2 : o t % 9 + 1 = a := by omega
    rw [d1, d2, c1]
    by_cases c2 : w t = 45
    · simp [g3 c2, c2]
    · have hne : ¬ nI (w t / 9) = (-1 : Int32) := by
        intro q
        have := congrArg Int32.toInt q
        rw [nI_toInt (by omega)] at this
        have e : (-1 : Int32).toInt = -1 := by decide
        omega
      have hne2 : ¬ nI (w t) = nI 45 := fun q => c2 ((nI_eq (by omega) (by decide)).mp q)
      simp [(g4 c2).1, hne, hne2]
  · have hne : ¬ nI (o t) = nI (9 * f + a - 1) := fun q => c1 ((nI_eq (by omega) (by omega)).mp q)
    have hor : ¬ (nI (o t / 9) = nI f ∧ nI (o t % 9 + 1) = nI a) := by
      rintro ⟨q1, q2⟩
      have q1 := (nI_eq (by omega) (by omega)).mp q1
      have q2 := (nI_eq (by omega) (by omega)).mp q2
      omega
    by_cases d1 : nI (o t / 9) = nI f
    · have d2 : ¬ nI (o t % 9 + 1) = nI a := fun q => hor ⟨d1, q⟩
      simp [hne, d2]
    · simp [hne, d1]
theorem tp_two (h : pn_C M c n v th o w) {f a g b : Nat} (hf : f < n 4) (ha : 1 ≤ a ∧ a ≤ 9) (hg : g < n 4) (hb : 1 ≤ b ∧ b ≤ 9) : ∀ t, t < th → tp M (nI f) (nI a) (nI g) (nI b) t = np M (nI (9 * f + a - 1)) (nI (9 * g + b - 1)) t := by
  intro t ht
  obtain ⟨-, -, -, ho, -, -, hTh, hTX, hTY⟩ := h
  have h4 := ho.2.2.2.2.1
  obtain ⟨k1, k2⟩ := hTh.1.2 t ht
  obtain ⟨e1, e2⟩ := hTX.2 t ht
  obtain ⟨g1, g2, g3, g4⟩ := hTY.2 t ht
  have hgn : ¬ nI g = (-1 : Int32) := by
    intro q
    have := congrArg Int32.toInt q
    rw [nI_toInt (by omega)] at this
    have e : (-1 : Int32).toInt = -1 := by decide
    omega
  unfold tp np
  rw [e1, e2, g1, g2]
  have A : (nI (o t) = nI (9 * f + a - 1)) ↔ (nI (o t / 9) = nI f ∧ nI (o t % 9 + 1) = nI a) := by
    rw [nI_eq (by omega) (by omega), nI_eq (by omega) (by omega), nI_eq (by omega) (by omega)]
    omega
  have B : (nI (w t) = nI (9 * g + b - 1)) ↔ (M.1 112 t = nI g ∧ M.1 113 t = nI b) := by
    by_cases c2 : w t = 45
    · rw [g3 c2]
      constructor
      · intro q
        have := (nI_eq (by omega) (by omega)).mp q
        omega
      · rintro ⟨q, -⟩
        exact absurd q.symm hgn
    · rw [(g4 c2).1, (g4 c2).2]
      rw [nI_eq (by omega) (by omega), nI_eq (by omega) (by omega), nI_eq (by omega) (by omega)]
      omega
  by_cases d1 : nI (o t / 9) = nI f
  · by_cases d2 : nI (o t % 9 + 1) = nI a
    · have d3 := A.mpr ⟨d1, d2⟩
      by_cases d4 : M.1 112 t = nI g
      · by_cases d5 : M.1 113 t = nI b
        · have d6 := B.mpr ⟨d4, d5⟩
          simp [d1, d2, d3, d4, d5, d6]
        · have d6 : ¬ nI (w t) = nI (9 * g + b - 1) := fun q => d5 (B.mp q).2
          simp [d5, d6, hgn]
      · have d6 : ¬ nI (w t) = nI (9 * g + b - 1) := fun q => d4 (B.mp q).1
        simp [d4, d6]
    · have d3 : ¬ nI (o t) = nI (9 * f + a - 1) := fun q => d2 (A.mp q).2
      simp [d2, d3]
  · have d3 : ¬ nI (o t) = nI (9 * f + a - 1) := fun q => d1 (A.mp q).1
    simp [d1, d3]
end TH
