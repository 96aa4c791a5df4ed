theorem px_addTried {M : eM} {q : Nat → Nat} {l t r : Nat → Nat → Nat} (hok : pn_Lok q l t r) (h : pn_LX M 30 q l t r) (hq : q 1 < 20) {step cell hrs : Nat} {A : Nat → Nat} :
    ∃ M1, fX8_addTried 30 (nI step) (nI cell) (nI hrs) (nI (A 0)) (nI (A 1)) (nI (A 2)) M = some M1 ∧ pn_LX M1 30 (ad_q q 1 step) l (ad_l t (q 1) [step, cell, hrs, A 0, A 1, A 2]) r ∧ FrT M M1 ∧ M1.1 30 4 = nI (q 1 + 1) ∧ (∀ c k, ¬ (30 ≤ c ∧ c ≤ 33) → M1.1 c k = M.1 c k) := by
  have l1 : ea_len 32 = 120 := rfl
  have i0 : nI (q 1) * 6 = nI (6 * q 1) := by rw [show (6 : Int32) = nI 6 from rfl, pk_mul, Nat.mul_comm]
  have i1 : nI (6 * q 1) + 1 = nI (6 * q 1 + 1) := nI_add _ 1
  have i2 : nI (6 * q 1) + 2 = nI (6 * q 1 + 2) := nI_add _ 2
  have i3 : nI (6 * q 1) + 3 = nI (6 * q 1 + 3) := nI_add _ 3
  have i4 : nI (6 * q 1) + 4 = nI (6 * q 1 + 4) := nI_add _ 4
  have i5 : nI (6 * q 1) + 5 = nI (6 * q 1 + 5) := nI_add _ 5
  have h20 : ¬ (20 : Int32) ≤ nI (q 1) := fun z => absurd ((nI_leI (a := 20) (by decide) (by omega)).mp z) (by omega)
  have s1 : fX8_putEntry 30 32 (nI (6 * q 1)) (nI step) (nI cell) (nI hrs) M = some (ea_pI (ea_pI (ea_pI (ea_pI M 32 (6 * q 1) (nI step)) 32 (6 * q 1 + 1) (nI cell)) 32 (6 * q 1 + 2) (nI hrs)) 30 6 (nI step)) := by
    unfold fX8_putEntry fX8_putEntry_0
    rw [i1, i2, l1, ea_ck_t (pn_ix (by omega) (by decide)), ea_ck_t (pn_ix (by omega) (by decide)), ea_ck_t (pn_ix (by omega) (by decide)), nI_clamp (by omega), nI_clamp (by omega), nI_clamp (by omega)]
  generalize hM3 : ea_pI (ea_pI (ea_pI (ea_pI M 32 (6 * q 1) (nI step)) 32 (6 * q 1 + 1) (nI cell)) 32 (6 * q 1 + 2) (nI hrs)) 30 6 (nI step) = M3 at s1
  have q3 : M3.1 30 4 = nI (q 1) := by rw [← hM3, ea_pI_ne (by omega), ea_pI_ne (by omega), ea_pI_ne (by omega), ea_pI_ne (by omega)]; exact h.1.2.1
  have s2 : fX8_putShades 32 (nI (6 * q 1)) (nI (A 0)) (nI (A 1)) (nI (A 2)) M3 = some (ea_pI (ea_pI (ea_pI M3 32 (6 * q 1 + 3) (nI (A 0))) 32 (6 * q 1 + 4) (nI (A 1))) 32 (6 * q 1 + 5) (nI (A 2))) := by
    unfold fX8_putShades fX8_putShades_0
    rw [i3, i4, i5, l1, ea_ck_t (pn_ix (by omega) (by decide)), ea_ck_t (pn_ix (by omega) (by decide)), ea_ck_t (pn_ix (by omega) (by decide)), nI_clamp (by omega), nI_clamp (by omega), nI_clamp (by omega)]
  generalize hM5 : ea_pI (ea_pI (ea_pI M3 32 (6 * q 1 + 3) (nI (A 0))) 32 (6 * q 1 + 4) (nI (A 1))) 32 (6 * q 1 + 5) (nI (A 2)) = M5 at s2
  have q5 : M5.1 30 4 = nI (q 1) := by rw [← hM5, ea_pI_ne (by omega), ea_pI_ne (by omega), ea_pI_ne (by omega)]; exact q3
  have hrun : fX8_addTried 30 (nI step) (nI cell) (nI hrs) (nI (A 0)) (nI (A 1)) (nI (A 2)) M = some (ea_pI M5 30 4 (nI (q 1 + 1))) := by
    unfold fX8_addTried fX8_addTried_0
    rw [h.1.2.1, if_neg h20, i0, ea_cv_t s1, q3, i0, ea_cv_t s2, q5]
    show some (ea_pI M5 30 4 (nI (q 1) + 1)) = _
    rw [show nI (q 1) + 1 = nI (q 1 + 1) from nI_add _ 1]
  have old : ∀ k, k < 6 * q 1 → (ea_pI M5 30 4 (nI (q 1 + 1))).1 32 k = M.1 32 k := by
    intro k hk
    rw [ea_pI_ne (by omega), ← hM5, ea_pI_ne (by omega), ea_pI_ne (by omega), ea_pI_ne (by omega), ← hM3, ea_pI_ne (by omega), ea_pI_ne (by omega), ea_pI_ne (by omega), ea_pI_ne (by omega)]
  have n0 : (ea_pI M5 30 4 (nI (q 1 + 1))).1 32 (6 * q 1) = nI step := by rw [ea_pI_ne (by omega), ← hM5, ea_pI_ne (by omega), ea_pI_ne (by omega), ea_pI_ne (by omega), ← hM3, ea_pI_ne (by omega), ea_pI_ne (by omega), ea_pI_ne (by omega), ea_pI_eq]
  have n1 : (ea_pI M5 30 4 (nI (q 1 + 1))).1 32 (6 * q 1 + 1) = nI cell := by rw [ea_pI_ne (by omega), ← hM5, ea_pI_ne (by omega), ea_pI_ne (by omega), ea_pI_ne (by omega), ← hM3, ea_pI_ne (by omega), ea_pI_ne (by omega), ea_pI_eq]
  have n2 : (ea_pI M5 30 4 (nI (q 1 + 1))).1 32 (6 * q 1 + 2) = nI hrs := by rw [ea_pI_ne (by omega), ← hM5, ea_pI_ne (by omega), ea_pI_ne (by omega), ea_pI_ne (by omega), ← hM3, ea_pI_ne (by omega), ea_pI_eq]
  have n3 : (ea_pI M5 30 4 (nI (q 1 + 1))).1 32 (6 * q 1 + 3) = nI (A 0) := by rw [ea_pI_ne (by omega), ← hM5, ea_pI_ne (by omega), ea_pI_ne (by omega), ea_pI_eq]
  have n4 : (ea_pI M5 30 4 (nI (q 1 + 1))).1 32 (6 * q 1 + 4) = nI (A 1) := by rw [ea_pI_ne (by omega), ← hM5, ea_pI_ne (by omega), ea_pI_eq]
  have n5 : (ea_pI M5 30 4 (nI (q 1 + 1))).1 32 (6 * q 1 + 5) = nI (A 2) := by rw [ea_pI_ne (by omega), ← hM5, ea_pI_eq]
  have f30 : ∀ k, k ≠ 4 → k ≠ 6 → (ea_pI M5 30 4 (nI (q 1 + 1))).1 30 k = M.1 30 k := by
    intro k hk hk2
    rw [ea_pI_ne (by omega), ← hM5, ea_pI_ne (by omega), ea_pI_ne (by omega), ea_pI_ne (by omega), ← hM3, ea_pI_ne (by omega), ea_pI_ne (by omega), ea_pI_ne (by omega), ea_pI_ne (by omega)]
  have fo : ∀ c k, c ≠ 30 → c ≠ 32 → (ea_pI M5 30 4 (nI (q 1 + 1))).1 c k = M.1 c k := by
    intro c k h30 h31
    rw [ea_pI_ne (by omega), ← hM5, ea_pI_ne (by omega), ea_pI_ne (by omega), ea_pI_ne (by omega), ← hM3, ea_pI_ne (by omega), ea_pI_ne (by omega), ea_pI_ne (by omega), ea_pI_ne (by omega)]
  refine ⟨_, hrun, ⟨⟨?_, ea_pI_eq, ?_, ?_⟩, ?_, ?_, ?_⟩, ?_, ea_pI_eq, fun c k h1 => fo c k (by omega) (by omega)⟩
  · rw [f30 3 (by decide) (by decide)]; exact h.1.1
  · rw [f30 5 (by decide) (by decide)]; exact h.1.2.2.1
  · rw [ea_pI_ne (by omega), ← hM5, ea_pI_ne (by omega), ea_pI_ne (by omega), ea_pI_ne (by omega), ← hM3, ea_pI_eq]
    rfl
  · intro i k hi hk
    have hi : i < q 0 := hi
    rw [fo _ _ (by decide) (by decide), fo _ _ (by decide) (by decide)]
    exact h.2.1 i k hi hk
  · intro i k hi hk
    have hi : i < q 1 + 1 := hi
    by_cases hiq : i = q 1
    · subst hiq
      have er : ad_l t (q 1) [step, cell, hrs, A 0, A 1, A 2] (q 1) k = [step, cell, hrs, A 0, A 1, A 2].getD k 0 := if_pos rfl
      rw [er]
      rcases (show k = 0 ∨ k = 1 ∨ k = 2 ∨ k = 3 ∨ k = 4 ∨ k = 5 by omega) with rfl | rfl | rfl | rfl | rfl | rfl
      · exact n0
      · exact n1
      · exact n2
      · exact n3
      · exact n4
      · exact n5
    · have er : ad_l t (q 1) [step, cell, hrs, A 0, A 1, A 2] i k = t i k := if_neg hiq
      rw [er, old _ (by omega)]
      exact h.2.2.1 i k (by omega) hk
  · intro i hi
    have hi : i < q 2 := hi
    rw [fo _ _ (by decide) (by decide), fo _ _ (by decide) (by decide)]
    refine ⟨(h.2.2.2 i hi).1, (h.2.2.2 i hi).2.1, fun k hk => ?_⟩
    rw [fo _ _ (by decide) (by decide)]
    exact (h.2.2.2 i hi).2.2 k hk
  · refine ⟨fun c k h1 _ => fo c k (by omega) (by omega), ?_⟩
    rw [ea_pI_r, ← hM5, ea_pI_r, ea_pI_r, ea_pI_r, ← hM3, ea_pI_r, ea_pI_r, ea_pI_r, ea_pI_r]
