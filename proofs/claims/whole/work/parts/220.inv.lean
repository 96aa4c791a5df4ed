/-- a TELLING's numbers: q (0 LOOKS, 1 TRIED, 2 RIGHTS, 3 latest STEP), l (LOOKS: 0 STEP, 1 CELL, 2 side, 3 .. 5 colours, 6 GONE), t (TRIED: 0 STEP, 1 CELL, 2 hours, 3 .. 5), r (RIGHTS: 0 STEP, 1 of, 2 .. 4) -/
def pn_Lok (q : Nat → Nat) (l t r : Nat → Nat → Nat) : Prop :=
  q 0 ≤ 90 ∧ q 1 ≤ 20 ∧ q 2 ≤ 20 ∧ q 3 ≤ 999 ∧
  (∀ i, i < q 0 → l i 0 ≤ 999 ∧ l i 1 < 48 ∧ l i 2 ≤ 1 ∧ (∀ k, k < 3 → l i (3 + k) ≤ 99) ∧ l i 6 ≤ 1 ∧ (l i 6 = 1 → ∀ k, k < 3 → l i (3 + k) = 0)) ∧
  (∀ i, i < q 1 → t i 0 ≤ 999 ∧ t i 1 < 48 ∧ (1 ≤ t i 2 ∧ t i 2 ≤ 999) ∧ ∀ k, k < 3 → t i (3 + k) ≤ 99) ∧
  (∀ i, i < q 2 → r i 0 ≤ 999 ∧ r i 1 < 20 ∧ ∀ k, k < 3 → r i (2 + k) ≤ 99)
def pn_LX (M : eM) (a : Nat) (q : Nat → Nat) (l t r : Nat → Nat → Nat) : Prop :=
  (M.1 a 3 = nI (q 0) ∧ M.1 a 4 = nI (q 1) ∧ M.1 a 5 = nI (q 2) ∧ M.1 a 6 = nI (q 3)) ∧
  (∀ i k, i < q 0 → k < 3 → M.1 (a + 1) (6 * i + k) = nI (l i k) ∧ M.1 (a + 1) (6 * i + (3 + k)) = (if l i 6 = 1 then -5 else nI (l i (3 + k)))) ∧
  (∀ i k, i < q 1 → k < 6 → M.1 (a + 2) (6 * i + k) = nI (t i k)) ∧
  (∀ i, i < q 2 → M.1 (a + 3) (6 * i) = nI (r i 0) ∧ M.1 (a + 3) (6 * i + 1) = nI (r i 1) ∧ ∀ k, k < 3 → M.1 (a + 3) (6 * i + (3 + k)) = nI (r i (2 + k)))
def pn_LY (M : eM) (b : Nat) (q : Nat → Nat) (l t r : Nat → Nat → Nat) : Prop :=
  (∀ k, k < 4 → M.1 114 (b + k) = nI (q k)) ∧
  (∀ i k, i < q 0 → k < 7 → M.1 114 (b + 4 + 7 * i + k) = nI (l i k)) ∧
  (∀ i k, i < q 1 → k < 6 → M.1 114 (b + 634 + 6 * i + k) = nI (t i k)) ∧
  (∀ i k, i < q 2 → k < 5 → M.1 114 (b + 754 + 5 * i + k) = nI (r i k))
/-- how THREADS are numbered, as far as it matters -/
def pn_Th (n : Nat → Nat) (th : Nat) (o w : Nat → Nat) : Prop :=
  pn_Tok n th o w ∧ (n 4 = 0 → th = 0) ∧ (0 < n 4 → 9 ≤ th) ∧ (∀ t, t < th → w t ≠ 45 → o t / 9 < w t / 9) ∧
  (∀ x, x < 9 * n 4 → ∃ t, t < th ∧ o t = x ∧ w t = 45) ∧ (n 3 = 2 → ∀ x y, y < 9 * n 4 → x / 9 < y / 9 → ∃ t, t < th ∧ o t = x ∧ w t = y)
/-- THE CLOTH in use, on both sides -/
def pn_C (M : eM) (c : Nat) (n : Nat → Nat) (v : Nat → Nat → Nat) (th : Nat) (o w : Nat → Nat) : Prop :=
  pn_c c ∧ M.2.2 4 0 = c ∧ M.2.2 0 3 = 30 - c ∧ pn_ok n v ∧ pn_X M c n v ∧ pn_Y M n v ∧ pn_Th n th o w ∧ pn_TX M th o w ∧ pn_TY M th o w
/-- THE TAPE and the FAULT -/
def pn_P (M : eM) (len : Nat) : Prop :=
  len ≤ 900 ∧ M.1 1 1 = nI len ∧ M.1 100 1 = nI len ∧ (∀ k, k < len → M.1 2 k = M.1 101 k ∧ (M.1 2 k).toInt8.toInt32 = M.1 2 k) ∧ M.1 3 0 = M.1 100 8 ∧ M.1 3 1 = M.1 100 9
/-- what was told, on both sides -/
def pn_L (M : eM) (n : Nat → Nat) (q : Nat → Nat) (l t r : Nat → Nat → Nat) : Prop :=
  pn_Lok q l t r ∧ pn_LX M 30 q l t r ∧ pn_LY M 0 q l t r ∧ (∀ i, i < q 0 → l i 1 < n 0 * n 1) ∧ (∀ i, i < q 1 → t i 1 < n 0 * n 1) ∧ (∀ i, i < q 2 → r i 1 < q 1)
/-- a SLOT, on both sides -/
def pn_S (M : eM) (n : Nat → Nat) (j : Nat) : Prop :=
  (M.1 (34 + 4 * j) 7 = 0 ∧ M.1 115 j = 0) ∨ (M.1 (34 + 4 * j) 7 = 1 ∧ M.1 115 j = 1 ∧ ∃ q l t r, pn_Lok q l t r ∧ pn_LX M (34 + 4 * j) q l t r ∧ pn_LY M (854 * (j + 1)) q l t r ∧ (∀ i, i < q 0 → l i 1 < n 0 * n 1) ∧ (∀ i, i < q 1 → t i 1 < n 0 * n 1) ∧ (∀ i, i < q 2 → r i 1 < q 1))
def Inv (M : eM) : Prop := ∃ (c : Nat) (n : Nat → Nat) (v : Nat → Nat → Nat) (th : Nat) (o w : Nat → Nat) (len : Nat) (q : Nat → Nat) (l t r : Nat → Nat → Nat),
  pn_C M c n v th o w ∧ pn_P M len ∧ pn_L M n q l t r ∧ ∀ j, j < 3 → pn_S M n j
/-- scratch writes keep it all -/
theorem isC {c : Nat} (h : isInvC c = true) (k : Nat) : isInv c k = true := by unfold isInv; rw [h]; rfl
theorem pn_X.scr {M M' : eM} {c : Nat} {n : Nat → Nat} {v : Nat → Nat → Nat} (hs : Scr M M') (hc : pn_c c) (h : pn_X M c n v) : pn_X M' c n v := by
  have key : ∀ a k, isInvC (c + a) = true → M'.1 (c + a) k = M.1 (c + a) k := fun a k ha => hs.1 _ _ (isC ha k)
  have e0 : isInvC (c + 0) = true := by rcases hc with rfl | rfl <;> rfl
  have e1 : isInvC (c + 1) = true := by rcases hc with rfl | rfl <;> rfl
  have e2 : isInvC (c + 2) = true := by rcases hc with rfl | rfl <;> rfl
  have e4 : isInvC (c + 4) = true := by rcases hc with rfl | rfl <;> rfl
  have e6 : isInvC (c + 6) = true := by rcases hc with rfl | rfl <;> rfl
  have e7 : isInvC (c + 7) = true := by rcases hc with rfl | rfl <;> rfl
  have e9 : isInvC (c + 9) = true := by rcases hc with rfl | rfl <;> rfl
  have k0 : ∀ k, M'.1 c k = M.1 c k := fun k => key 0 k e0
  unfold pn_X at h ⊢
  simp only [k0, key _ _ e1, key _ _ e2, key _ _ e4, key _ _ e6, key _ _ e7, key _ _ e9]
  exact h
theorem pn_Y.scr {M M' : eM} {n : Nat → Nat} {v : Nat → Nat → Nat} (hs : Scr M M') (h : pn_Y M n v) : pn_Y M' n v := by
  have k2 : ∀ k, M'.1 102 k = M.1 102 k := fun k => hs.1 _ _ (isC rfl k)
  have k6 : ∀ k, M'.1 106 k = M.1 106 k := fun k => hs.1 _ _ (isC rfl k)
  have k7 : ∀ k, M'.1 107 k = M.1 107 k := fun k => hs.1 _ _ (isC rfl k)
  have k8 : ∀ k, M'.1 108 k = M.1 108 k := fun k => hs.1 _ _ (isC rfl k)
  have k9 : ∀ k, M'.1 109 k = M.1 109 k := fun k => hs.1 _ _ (isC rfl k)
  have kc : M'.1 100 20 = M.1 100 20 := hs.1 _ _ rfl
  unfold pn_Y at h ⊢
  simp only [k2, k6, k7, k8, k9, kc]
  exact h
theorem pn_TX.scr {M M' : eM} {th : Nat} {o w : Nat → Nat} (hs : Scr M M') (h : pn_TX M th o w) : pn_TX M' th o w := by
  have k5 : ∀ k, M'.1 5 k = M.1 5 k := fun k => hs.1 _ _ (isC rfl k)
  have k6 : ∀ k, M'.1 6 k = M.1 6 k := fun k => hs.1 _ _ (isC rfl k)
  have kc : M'.1 4 1 = M.1 4 1 := hs.1 _ _ rfl
  unfold pn_TX at h ⊢
  simp only [k5, k6, kc]
  exact h
theorem pn_TY.scr {M M' : eM} {th : Nat} {o w : Nat → Nat} (hs : Scr M M') (h : pn_TY M th o w) : pn_TY M' th o w := by
  have k0 : ∀ k, M'.1 110 k = M.1 110 k := fun k => hs.1 _ _ (isC rfl k)
  have k1 : ∀ k, M'.1 111 k = M.1 111 k := fun k => hs.1 _ _ (isC rfl k)
  have k2 : ∀ k, M'.1 112 k = M.1 112 k := fun k => hs.1 _ _ (isC rfl k)
  have k3 : ∀ k, M'.1 113 k = M.1 113 k := fun k => hs.1 _ _ (isC rfl k)
  have kc : M'.1 100 22 = M.1 100 22 := hs.1 _ _ rfl
  unfold pn_TY at h ⊢
  simp only [k0, k1, k2, k3, kc]
  exact h
theorem pn_C.scr {M M' : eM} {c : Nat} {n : Nat → Nat} {v : Nat → Nat → Nat} {th : Nat} {o w : Nat → Nat} (hs : Scr M M') (h : pn_C M c n v th o w) : pn_C M' c n v th o w := by
  obtain ⟨h1, h2, h3, h4, h5, h6, h7, h8, h9⟩ := h
  exact ⟨h1, by rw [hs.2]; exact h2, by rw [hs.2]; exact h3, h4, h5.scr hs h1, h6.scr hs, h7, h8.scr hs, h9.scr hs⟩
theorem pn_P.scr {M M' : eM} {len : Nat} (hs : Scr M M') (h : pn_P M len) : pn_P M' len := by
  have k2 : ∀ k, M'.1 2 k = M.1 2 k := fun k => hs.1 _ _ (isC rfl k)
  have k1 : ∀ k, M'.1 101 k = M.1 101 k := fun k => hs.1 _ _ (isC rfl k)
  have a1 : M'.1 1 1 = M.1 1 1 := hs.1 _ _ rfl
  have a2 : M'.1 100 1 = M.1 100 1 := hs.1 _ _ rfl
  have a3 : M'.1 3 0 = M.1 3 0 := hs.1 _ _ rfl
  have a4 : M'.1 3 1 = M.1 3 1 := hs.1 _ _ rfl
  have a5 : M'.1 100 8 = M.1 100 8 := hs.1 _ _ rfl
  have a6 : M'.1 100 9 = M.1 100 9 := hs.1 _ _ rfl
  unfold pn_P at h ⊢
  simp only [k1, k2, a1, a2, a3, a4, a5, a6]
  exact h
def pn_a (a : Nat) : Prop := a = 30 ∨ a = 34 ∨ a = 38 ∨ a = 42
theorem pn_LX.scr {M M' : eM} {a : Nat} {q : Nat → Nat} {l t r : Nat → Nat → Nat} (hs : Scr M M') (ha : pn_a a) (h : pn_LX M a q l t r) : pn_LX M' a q l t r := by
  have key : ∀ d k, isInvC (a + d) = true → M'.1 (a + d) k = M.1 (a + d) k := fun d k hd => hs.1 _ _ (isC hd k)
  have e0 : isInvC (a + 0) = true := by rcases ha with rfl | rfl | rfl | rfl <;> rfl
  have e1 : isInvC (a + 1) = true := by rcases ha with rfl | rfl | rfl | rfl <;> rfl
  have e2 : isInvC (a + 2) = true := by rcases ha with rfl | rfl | rfl | rfl <;> rfl
  have e3 : isInvC (a + 3) = true := by rcases ha with rfl | rfl | rfl | rfl <;> rfl
  have k0 : ∀ k, M'.1 a k = M.1 a k := fun k => key 0 k e0
  unfold pn_LX at h ⊢
  simp only [k0, key _ _ e1, key _ _ e2, key _ _ e3]
  exact h
theorem pn_LY.scr {M M' : eM} {b : Nat} {q : Nat → Nat} {l t r : Nat → Nat → Nat} (hs : Scr M M') (h : pn_LY M b q l t r) : pn_LY M' b q l t r := by
  have k : ∀ k, M'.1 114 k = M.1 114 k := fun k => hs.1 _ _ (isC rfl k)
  unfold pn_LY at h ⊢
  simp only [k]
  exact h
theorem pn_L.scr {M M' : eM} {n : Nat → Nat} {q : Nat → Nat} {l t r : Nat → Nat → Nat} (hs : Scr M M') (h : pn_L M n q l t r) : pn_L M' n q l t r := ⟨h.1, h.2.1.scr hs (Or.inl rfl), h.2.2.1.scr hs, h.2.2.2⟩
theorem pn_S.scr {M M' : eM} {n : Nat → Nat} {j : Nat} (hj : j < 3) (hs : Scr M M') (h : pn_S M n j) : pn_S M' n j := by
  have ha : pn_a (34 + 4 * j) := by
    rcases (show j = 0 ∨ j = 1 ∨ j = 2 by omega) with rfl | rfl | rfl
    · exact Or.inr (Or.inl rfl)
    · exact Or.inr (Or.inr (Or.inl rfl))
    · exact Or.inr (Or.inr (Or.inr rfl))
  have e0 : isInvC (34 + 4 * j) = true := by rcases (show j = 0 ∨ j = 1 ∨ j = 2 by omega) with rfl | rfl | rfl <;> rfl
  have k0 : M'.1 (34 + 4 * j) 7 = M.1 (34 + 4 * j) 7 := hs.1 _ _ (isC e0 7)
  have k1 : M'.1 115 j = M.1 115 j := hs.1 _ _ (isC rfl j)
  unfold pn_S at h ⊢
  rw [k0, k1]
  rcases h with h | ⟨h1, h2, q, l, t, r, h3, h4, h5, h6⟩
  · exact Or.inl h
  · exact Or.inr ⟨h1, h2, q, l, t, r, h3, h4.scr hs ha, h5.scr hs, h6⟩
theorem Inv.scr {M M' : eM} (hs : Scr M M') (h : Inv M) : Inv M' := by
  obtain ⟨c, n, v, th, o, w, len, q, l, t, r, h1, h2, h3, h4⟩ := h
  exact ⟨c, n, v, th, o, w, len, q, l, t, r, h1.scr hs, h2.scr hs, h3.scr hs, fun j hj => (h4 j hj).scr hj hs⟩
