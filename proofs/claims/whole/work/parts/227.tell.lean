def ad_q (q : Nat → Nat) (a step : Nat) : Nat → Nat := fun k => if k = a then q a + 1 else if k = 3 then step else q k
def ad_l (l : Nat → Nat → Nat) (i : Nat) (row : List Nat) : Nat → Nat → Nat := fun j k => if j = i then row.getD k 0 else l j k
/-- what of the rest stays: everything but a TELLING's own cells and the model's first 854 places -/
def FrT (M M' : eM) : Prop := (∀ c k, ¬ (30 ≤ c ∧ c ≤ 33) → ¬ (c = 114 ∧ k < 854) → M'.1 c k = M.1 c k) ∧ M'.2.2 = M.2.2
theorem FrT.rf {M : eM} : FrT M M := ⟨fun _ _ _ _ => rfl, rfl⟩
theorem FrT.trans {M M1 M2 : eM} (h1 : FrT M M1) (h2 : FrT M1 M2) : FrT M M2 := ⟨fun c k a b => (h2.1 c k a b).trans (h1.1 c k a b), h2.2.trans h1.2⟩
theorem FrT.pI {M M1 : eM} (h : FrT M M1) {c k : Nat} {x : Int32} (hi : (30 ≤ c ∧ c ≤ 33) ∨ (c = 114 ∧ k < 854)) : FrT M (ea_pI M1 c k x) := by
  refine ⟨fun a j ha hb => ?_, h.2⟩
  rw [ea_pI_ne (by
    by_cases e : a = c
    · subst e
      refine Or.inr (fun e2 => ?_)
      subst e2
      rcases hi with hi | hi
      · exact ha hi
      · exact hb hi
    · exact Or.inl e)]
  exact h.1 a j ha hb
theorem isKC_out {c k : Nat} (h : isKC c k = true) : ¬ (30 ≤ c ∧ c ≤ 33) ∧ c ≠ 114 := by
  have key : ∀ c, c < 115 → isKCc c = true → ¬ (30 ≤ c ∧ c ≤ 33) ∧ c ≠ 114 := by decide +kernel
  unfold isKC at h
  rcases Nat.lt_or_ge c 115 with q | q
  · by_cases hc : isKCc c = true
    · exact key c q hc
    · simp only [hc, Bool.false_or, Bool.or_eq_true, Bool.and_eq_true, beq_iff_eq] at h
      omega
  · omega
theorem FrT.C {M M' : eM} (h : FrT M M') : FrC M M' := ⟨fun c k hk => h.1 c k (isKC_out hk).1 (fun e => (isKC_out hk).2 e.1), h.2⟩
theorem Inv_tell {M M' : eM} {c : Nat} {n : Nat → Nat} {v : Nat → Nat → Nat} {th : Nat} {o w : Nat → Nat} {len : Nat} {q : Nat → Nat} {l t r : Nat → Nat → Nat} (hf : FrT M M') (h1 : pn_C M c n v th o w) (h2 : pn_P M len) (h4 : ∀ j, j < 3 → pn_S M n j) (h3 : pn_L M' n q l t r) : Inv M' := by
  have e : ∀ c k, ¬ (30 ≤ c ∧ c ≤ 33) → c ≠ 114 → M'.1 c k = M.1 c k := fun c k a b => hf.1 c k a (fun e => b e.1)
  refine ⟨c, n, v, th, o, w, len, q, l, t, r, h1.fr hf.C, h2.fr ?_ ?_ ?_ ?_ ?_ ?_ ?_ ?_, h3, fun j hj => (h4 j hj).fr ?_ ?_ ?_⟩
  · exact fun k => e _ _ (by decide) (by decide)
  · exact fun k => e _ _ (by decide) (by decide)
  · exact e _ _ (by decide) (by decide)
  · exact e _ _ (by decide) (by decide)
  · exact e _ _ (by decide) (by decide)
  · exact e _ _ (by decide) (by decide)
  · exact e _ _ (by decide) (by decide)
  · exact e _ _ (by decide) (by decide)
  · exact fun d k hd => e _ _ (by omega) (by omega)
  · exact e _ _ (by decide) (by decide)
  · exact fun k hk1 hk2 => hf.1 _ _ (by decide) (by omega)
theorem px_addLook {M : eM} {q : Nat → Nat} {l t r : Nat → Nat → Nat} (hok : pn_Lok q l t r) (h : pn_LX M 30 q l t r) (hq : q 0 < 90) {step cell side g : Nat} {A : Nat → Nat} (x4 x5 x6 : Int32) (e4 : x4 = if g = 1 then -5 else nI (A 0)) (e5 : x5 = if g = 1 then -5 else nI (A 1)) (e6 : x6 = if g = 1 then -5 else nI (A 2)) :
    ∃ M1, fX8_addLook 30 (nI step) (nI cell) (nI side) x4 x5 x6 M = some M1 ∧ pn_LX M1 30 (ad_q q 0 step) (ad_l l (q 0) [step, cell, side, A 0, A 1, A 2, g]) t r ∧ FrT M M1 ∧ M1.1 30 3 = nI (q 0 + 1) ∧ (∀ c k, ¬ (30 ≤ c ∧ c ≤ 33) → M1.1 c k = M.1 c k) := by
  have l1 : ea_len 31 = 540 := rfl
  have i0 : nI (q 0) * 6 = nI (6 * q 0) := by rw [show (6 : Int32) = nI 6 from rfl, pk_mul, Nat.mul_comm]
  have i1 : nI (6 * q 0) + 1 = nI (6 * q 0 + 1) := nI_add _ 1
  have i2 : nI (6 * q 0) + 2 = nI (6 * q 0 + 2) := nI_add _ 2
  have i3 : nI (6 * q 0) + 3 = nI (6 * q 0 + 3) := nI_add _ 3
  have i4 : nI (6 * q 0) + 4 = nI (6 * q 0 + 4) := nI_add _ 4
  have i5 : nI (6 * q 0) + 5 = nI (6 * q 0 + 5) := nI_add _ 5
  have h90 : ¬ (90 : Int32) ≤ nI (q 0) := fun z => absurd ((nI_leI (a := 90) (by decide) (by omega)).mp z) (by omega)
  have s1 : fX8_putEntry 30 31 (nI (6 * q 0)) (nI step) (nI cell) (nI side) M = some (ea_pI (ea_pI (ea_pI (ea_pI M 31 (6 * q 0) (nI step)) 31 (6 * q 0 + 1) (nI cell)) 31 (6 * q 0 + 2) (nI side)) 30 6 (nI step)) := by
    unfold fX8_putEntry fX8_putEntry_0
    rw [i1, i2, l1, ea_ck_t (pn_ix (by omega) (by decide)), ea_ck_t (pn_ix (by omega) (by decide)), ea_ck_t (pn_ix (by omega) (by decide)), nI_clamp (by omega), nI_clamp (by omega), nI_clamp (by omega)]
  generalize hM3 : ea_pI (ea_pI (ea_pI (ea_pI M 31 (6 * q 0) (nI step)) 31 (6 * q 0 + 1) (nI cell)) 31 (6 * q 0 + 2) (nI side)) 30 6 (nI step) = M3 at s1
  have q3 : M3.1 30 3 = nI (q 0) := by rw [← hM3, ea_pI_ne (by omega), ea_pI_ne (by omega), ea_pI_ne (by omega), ea_pI_ne (by omega)]; exact h.1.1
  have s2 : fX8_putShades 31 (nI (6 * q 0)) x4 x5 x6 M3 = some (ea_pI (ea_pI (ea_pI M3 31 (6 * q 0 + 3) x4) 31 (6 * q 0 + 4) x5) 31 (6 * q 0 + 5) x6) := by
    unfold fX8_putShades fX8_putShades_0
    rw [i3, i4, i5, l1, ea_ck_t (pn_ix (by omega) (by decide)), ea_ck_t (pn_ix (by omega) (by decide)), ea_ck_t (pn_ix (by omega) (by decide)), nI_clamp (by omega), nI_clamp (by omega), nI_clamp (by omega)]
  generalize hM5 : ea_pI (ea_pI (ea_pI M3 31 (6 * q 0 + 3) x4) 31 (6 * q 0 + 4) x5) 31 (6 * q 0 + 5) x6 = M5 at s2
  have q5 : M5.1 30 3 = nI (q 0) := by rw [← hM5, ea_pI_ne (by omega), ea_pI_ne (by omega), ea_pI_ne (by omega)]; exact q3
  have hrun : fX8_addLook 30 (nI step) (nI cell) (nI side) x4 x5 x6 M = some (ea_pI M5 30 3 (nI (q 0 + 1))) := by
    unfold fX8_addLook fX8_addLook_0
    rw [h.1.1, if_neg h90, i0, ea_cv_t s1, q3, i0, ea_cv_t s2, q5]
    show some (ea_pI M5 30 3 (nI (q 0) + 1)) = _
    rw [show nI (q 0) + 1 = nI (q 0 + 1) from nI_add _ 1]
  have old : ∀ k, k < 6 * q 0 → (ea_pI M5 30 3 (nI (q 0 + 1))).1 31 k = M.1 31 k := by
    intro k hk
    rw [ea_pI_ne (Or.inl (by decide)), ← hM5, ea_pI_ne (Or.inr (by omega)), ea_pI_ne (Or.inr (by omega)), ea_pI_ne (Or.inr (by omega)), ← hM3, ea_pI_ne (Or.inl (by decide)), ea_pI_ne (Or.inr (by omega)), ea_pI_ne (Or.inr (by omega)), ea_pI_ne (Or.inr (by omega))]
  have n0 : (ea_pI M5 30 3 (nI (q 0 + 1))).1 31 (6 * q 0) = nI step := by rw [ea_pI_ne (Or.inl (by decide)), ← hM5, ea_pI_ne (Or.inr (by omega)), ea_pI_ne (Or.inr (by omega)), ea_pI_ne (Or.inr (by omega)), ← hM3, ea_pI_ne (Or.inl (by decide)), ea_pI_ne (Or.inr (by omega)), ea_pI_ne (Or.inr (by omega)), ea_pI_eq]
  have n1 : (ea_pI M5 30 3 (nI (q 0 + 1))).1 31 (6 * q 0 + 1) = nI cell := by rw [ea_pI_ne (Or.inl (by decide)), ← hM5, ea_pI_ne (Or.inr (by omega)), ea_pI_ne (Or.inr (by omega)), ea_pI_ne (Or.inr (by omega)), ← hM3, ea_pI_ne (Or.inl (by decide)), ea_pI_ne (Or.inr (by omega)), ea_pI_eq]
  have n2 : (ea_pI M5 30 3 (nI (q 0 + 1))).1 31 (6 * q 0 + 2) = nI side := by rw [ea_pI_ne (Or.inl (by decide)), ← hM5, ea_pI_ne (Or.inr (by omega)), ea_pI_ne (Or.inr (by omega)), ea_pI_ne (Or.inr (by omega)), ← hM3, ea_pI_ne (Or.inl (by decide)), ea_pI_eq]
  have n3 : (ea_pI M5 30 3 (nI (q 0 + 1))).1 31 (6 * q 0 + 3) = x4 := by rw [ea_pI_ne (Or.inl (by decide)), ← hM5, ea_pI_ne (Or.inr (by omega)), ea_pI_ne (Or.inr (by omega)), ea_pI_eq]
  have n4 : (ea_pI M5 30 3 (nI (q 0 + 1))).1 31 (6 * q 0 + 4) = x5 := by rw [ea_pI_ne (Or.inl (by decide)), ← hM5, ea_pI_ne (Or.inr (by omega)), ea_pI_eq]
  have n5 : (ea_pI M5 30 3 (nI (q 0 + 1))).1 31 (6 * q 0 + 5) = x6 := by rw [ea_pI_ne (Or.inl (by decide)), ← hM5, ea_pI_eq]
  have f30 : ∀ k, k ≠ 3 → k ≠ 6 → (ea_pI M5 30 3 (nI (q 0 + 1))).1 30 k = M.1 30 k := by
    intro k hk hk2
    rw [ea_pI_ne (Or.inr hk), ← hM5, ea_pI_ne (Or.inl (by decide)), ea_pI_ne (Or.inl (by decide)), ea_pI_ne (Or.inl (by decide)), ← hM3, ea_pI_ne (Or.inr hk2), ea_pI_ne (Or.inl (by decide)), ea_pI_ne (Or.inl (by decide)), ea_pI_ne (Or.inl (by decide))]
  have fo : ∀ c k, c ≠ 30 → c ≠ 31 → (ea_pI M5 30 3 (nI (q 0 + 1))).1 c k = M.1 c k := by
    intro c k h30 h31
    rw [ea_pI_ne (Or.inl h30), ← hM5, ea_pI_ne (Or.inl h31), ea_pI_ne (Or.inl h31), ea_pI_ne (Or.inl h31), ← hM3, ea_pI_ne (Or.inl h30), ea_pI_ne (Or.inl h31), ea_pI_ne (Or.inl h31), ea_pI_ne (Or.inl h31)]
  refine ⟨_, hrun, ⟨⟨ea_pI_eq, ?_, ?_, ?_⟩, ?_, ?_, ?_⟩, ?_, ea_pI_eq, fun c k h1 => fo c k (by omega) (by omega)⟩
  · rw [f30 4 (by decide) (by decide)]; exact h.1.2.1
  · rw [f30 5 (by decide) (by decide)]; exact h.1.2.2.1
  · rw [ea_pI_ne (by omega), ← hM5, ea_pI_ne (by omega), ea_pI_ne (by omega), ea_pI_ne (by omega), ← hM3, ea_pI_eq]
    rfl
  · intro i k hi hk
    have hi : i < q 0 + 1 := hi
    by_cases hiq : i = q 0
    · subst hiq
      have er : ∀ k, ad_l l (q 0) [step, cell, side, A 0, A 1, A 2, g] (q 0) k = [step, cell, side, A 0, A 1, A 2, g].getD k 0 := fun k => if_pos rfl
      rw [er, er, er]
      rcases (show k = 0 ∨ k = 1 ∨ k = 2 by omega) with rfl | rfl | rfl
      · exact ⟨n0, n3.trans e4⟩
      · exact ⟨n1, n4.trans e5⟩
      · exact ⟨n2, n5.trans e6⟩
    · have er : ∀ k, ad_l l (q 0) [step, cell, side, A 0, A 1, A 2, g] i k = l i k := fun k => if_neg hiq
      rw [er, er, er, old _ (by omega), old _ (by omega)]
      exact h.2.1 i k (by omega) hk
  · intro i k hi hk
    rw [fo _ _ (by decide) (by decide)]
    exact h.2.2.1 i k hi hk
  · intro i hi
    rw [fo _ _ (by decide) (by decide), fo _ _ (by decide) (by decide)]
    refine ⟨(h.2.2.2 i hi).1, (h.2.2.2 i hi).2.1, fun k hk => ?_⟩
    rw [fo _ _ (by decide) (by decide)]
    exact (h.2.2.2 i hi).2.2 k hk
  · refine ⟨fun c k h1 _ => fo c k (by omega) (by omega), ?_⟩
    rw [ea_pI_r, ← hM5, ea_pI_r, ea_pI_r, ea_pI_r, ← hM3, ea_pI_r, ea_pI_r, ea_pI_r, ea_pI_r]
theorem py_addLook {M : eM} {q : Nat → Nat} {l t r : Nat → Nat → Nat} (hok : pn_Lok q l t r) (h : pn_LY M 0 q l t r) (hq : q 0 < 90) {step cell side g : Nat} {A : Nat → Nat} :
    ∃ M1, fX11_addLook (nI step) (nI cell) (nI side) (nI (A 0)) (nI (A 1)) (nI (A 2)) (nI g) M = some (nI (q 0 + 1), M1) ∧ pn_LY M1 0 (ad_q q 0 step) (ad_l l (q 0) [step, cell, side, A 0, A 1, A 2, g]) t r ∧ FrT M M1 ∧ (∀ c k, c ≠ 114 → M1.1 c k = M.1 c k) := by
  have ll : ea_len 114 = 3416 := rfl
  have z0 : (0 : Int32).toNatClampNeg = 0 := rfl
  have z3 : (3 : Int32).toNatClampNeg = 3 := rfl
  have e0 : M.1 114 0 = nI (q 0) := h.1 0 (by decide)
  have h90 : ¬ nI (q 0) = (90 : Int32) := fun z => absurd ((nI_eq (b := 90) (by omega) (by decide)).mp z) (by omega)
  have i0 : (4 : Int32) + 7 * nI (q 0) = nI (4 + 7 * q 0) := by rw [show (4 : Int32) = nI 4 from rfl, show (7 : Int32) = nI 7 from rfl, pk_mul, nI_add]
  have i1 : nI (4 + 7 * q 0) + 1 = nI (4 + 7 * q 0 + 1) := nI_add _ 1
  have i2 : nI (4 + 7 * q 0) + 2 = nI (4 + 7 * q 0 + 2) := nI_add _ 2
  have i3 : nI (4 + 7 * q 0) + 3 = nI (4 + 7 * q 0 + 3) := nI_add _ 3
  have i4 : nI (4 + 7 * q 0) + 4 = nI (4 + 7 * q 0 + 4) := nI_add _ 4
  have i5 : nI (4 + 7 * q 0) + 5 = nI (4 + 7 * q 0 + 5) := nI_add _ 5
  have i6 : nI (4 + 7 * q 0) + 6 = nI (4 + 7 * q 0 + 6) := nI_add _ 6
  have ie : nI (q 0) + 1 = nI (q 0 + 1) := nI_add _ 1
  generalize hM3 : ea_pI (ea_pI (ea_pI (ea_pI (ea_pI (ea_pI (ea_pI (ea_pI M 114 3 (nI step)) 114 (4 + 7 * q 0) (nI step)) 114 (4 + 7 * q 0 + 1) (nI cell)) 114 (4 + 7 * q 0 + 2) (nI side)) 114 (4 + 7 * q 0 + 3) (nI (A 0))) 114 (4 + 7 * q 0 + 4) (nI (A 1))) 114 (4 + 7 * q 0 + 5) (nI (A 2))) 114 (4 + 7 * q 0 + 6) (nI g) = M3
  have old : ∀ c k, c ≠ 114 ∨ (k ≠ 3 ∧ (k < 4 + 7 * q 0 ∨ 4 + 7 * q 0 + 6 < k)) → M3.1 c k = M.1 c k := by
    intro c k hk
    rw [← hM3, ea_pI_ne (by omega), ea_pI_ne (by omega), ea_pI_ne (by omega), ea_pI_ne (by omega), ea_pI_ne (by omega), ea_pI_ne (by omega), ea_pI_ne (by omega), ea_pI_ne (by omega)]
  have n3 : M3.1 114 3 = nI step := by rw [← hM3, ea_pI_ne (by omega), ea_pI_ne (by omega), ea_pI_ne (by omega), ea_pI_ne (by omega), ea_pI_ne (by omega), ea_pI_ne (by omega), ea_pI_ne (by omega), ea_pI_eq]
  have m0 : M3.1 114 (4 + 7 * q 0 + 0) = nI step := by rw [← hM3, ea_pI_ne (by omega), ea_pI_ne (by omega), ea_pI_ne (by omega), ea_pI_ne (by omega), ea_pI_ne (by omega), ea_pI_ne (by omega)]; exact ea_pI_eq
  have m1 : M3.1 114 (4 + 7 * q 0 + 1) = nI cell := by rw [← hM3, ea_pI_ne (by omega), ea_pI_ne (by omega), ea_pI_ne (by omega), ea_pI_ne (by omega), ea_pI_ne (by omega), ea_pI_eq]
  have m2 : M3.1 114 (4 + 7 * q 0 + 2) = nI side := by rw [← hM3, ea_pI_ne (by omega), ea_pI_ne (by omega), ea_pI_ne (by omega), ea_pI_ne (by omega), ea_pI_eq]
  have m3 : M3.1 114 (4 + 7 * q 0 + 3) = nI (A 0) := by rw [← hM3, ea_pI_ne (by omega), ea_pI_ne (by omega), ea_pI_ne (by omega), ea_pI_eq]
  have m4 : M3.1 114 (4 + 7 * q 0 + 4) = nI (A 1) := by rw [← hM3, ea_pI_ne (by omega), ea_pI_ne (by omega), ea_pI_eq]
  have m5 : M3.1 114 (4 + 7 * q 0 + 5) = nI (A 2) := by rw [← hM3, ea_pI_ne (by omega), ea_pI_eq]
  have m6 : M3.1 114 (4 + 7 * q 0 + 6) = nI g := by rw [← hM3, ea_pI_eq]
  have hr2 : M3.2.2 = M.2.2 := by rw [← hM3]; rfl
  refine ⟨ea_pI M3 114 0 (nI (q 0 + 1)), ?_, ⟨?_, ?_, ?_, ?_⟩, ?_, fun c k hc => by rw [ea_pI_ne (by omega), old _ _ (by omega)]⟩
  · unfold fX11_addLook fX11_addLook_0
    rw [z0, z3, e0, ea_lt_t, if_neg h90, i0, ea_lt_t, i1, i2, i3, i4, i5, i6, ll, ea_ck_t (pn_ix (by omega) (by decide)), ea_ck_t (pn_ix (by omega) (by decide)), ea_ck_t (pn_ix (by omega) (by decide)), ea_ck_t (pn_ix (by omega) (by decide)), ea_ck_t (pn_ix (by omega) (by decide)), ea_ck_t (pn_ix (by omega) (by decide)), ea_ck_t (pn_ix (by omega) (by decide)), nI_clamp (by omega), nI_clamp (by omega), nI_clamp (by omega), nI_clamp (by omega), nI_clamp (by omega), nI_clamp (by omega), nI_clamp (by omega), hM3, old 114 0 (by omega), e0, ie]
  · intro k hk
    rw [Nat.zero_add]
    rcases (show k = 0 ∨ k = 1 ∨ k = 2 ∨ k = 3 by omega) with rfl | rfl | rfl | rfl
    · exact ea_pI_eq
    · rw [ea_pI_ne (by omega), old _ _ (by omega)]; exact h.1 1 (by decide)
    · rw [ea_pI_ne (by omega), old _ _ (by omega)]; exact h.1 2 (by decide)
    · rw [ea_pI_ne (by omega)]; exact n3
  · intro i k hi hk
    have hi : i < q 0 + 1 := hi
    rw [Nat.zero_add, ea_pI_ne (by omega)]
    by_cases hiq : i = q 0
    · subst hiq
      have er : ad_l l (q 0) [step, cell, side, A 0, A 1, A 2, g] (q 0) k = [step, cell, side, A 0, A 1, A 2, g].getD k 0 := if_pos rfl
      rw [er]
      rcases (show k = 0 ∨ k = 1 ∨ k = 2 ∨ k = 3 ∨ k = 4 ∨ k = 5 ∨ k = 6 by omega) with rfl | rfl | rfl | rfl | rfl | rfl | rfl
      · exact m0
      · exact m1
      · exact m2
      · exact m3
      · exact m4
      · exact m5
      · exact m6
    · have er : ad_l l (q 0) [step, cell, side, A 0, A 1, A 2, g] i k = l i k := if_neg hiq
      rw [er, old _ _ (by omega)]
      have := h.2.1 i k (by omega) hk
      rw [Nat.zero_add] at this
      exact this
  · intro i k hi hk
    have hi : i < q 1 := hi
    have := hok.2.1
    rw [ea_pI_ne (by omega), old _ _ (by omega)]
    exact h.2.2.1 i k hi hk
  · intro i k hi hk
    have hi : i < q 2 := hi
    have := hok.2.2.1
    rw [ea_pI_ne (by omega), old _ _ (by omega)]
    exact h.2.2.2 i k hi hk
  · refine ⟨fun c k h1 h2 => ?_, hr2⟩
    rw [ea_pI_ne (by omega), old _ _ (by omega)]
theorem ad_ok {n q : Nat → Nat} {l t r : Nat → Nat → Nat} (hok : pn_Lok q l t r) (hq : q 0 < 90) {step cell side g : Nat} {A : Nat → Nat} (hs : step ≤ 999) (hc : cell < 48) (hsd : side ≤ 1) (hA : ∀ k, k < 3 → A k ≤ 99) (hg : g ≤ 1) (hgA : g = 1 → ∀ k, k < 3 → A k = 0) : pn_Lok (ad_q q 0 step) (ad_l l (q 0) [step, cell, side, A 0, A 1, A 2, g]) t r := by
  obtain ⟨o1, o2, o3, o4, o5, o6, o7⟩ := hok
  have a0 := hA 0 (by decide)
  have a1 := hA 1 (by decide)
  have a2 := hA 2 (by decide)
  refine ⟨show q 0 + 1 ≤ 90 by omega, o2, o3, hs, ?_, o6, o7⟩
  intro i hi
  have hi : i < q 0 + 1 := hi
  by_cases hiq : i = q 0
  · subst hiq
    have er : ∀ k, ad_l l (q 0) [step, cell, side, A 0, A 1, A 2, g] (q 0) k = [step, cell, side, A 0, A 1, A 2, g].getD k 0 := fun k => if_pos rfl
    simp only [er]
    refine ⟨hs, hc, hsd, fun k hk => ?_, hg, fun hg1 k hk => ?_⟩
    · rcases (show k = 0 ∨ k = 1 ∨ k = 2 by omega) with rfl | rfl | rfl
      · exact a0
      · exact a1
      · exact a2
    · rcases (show k = 0 ∨ k = 1 ∨ k = 2 by omega) with rfl | rfl | rfl
      · exact hgA hg1 0 (by decide)
      · exact hgA hg1 1 (by decide)
      · exact hgA hg1 2 (by decide)
  · have er : ∀ k, ad_l l (q 0) [step, cell, side, A 0, A 1, A 2, g] i k = l i k := fun k => if_neg hiq
    simp only [er]
    exact o5 i (by omega)
