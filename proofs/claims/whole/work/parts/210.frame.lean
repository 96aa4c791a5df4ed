def isInvC (c : Nat) : Bool := [2, 5, 6, 10, 11, 12, 13, 14, 15, 16, 17, 18, 19, 20, 21, 22, 23, 24, 25, 26, 27, 28, 29, 30, 31, 32, 33, 34, 35, 36, 37, 38, 39, 40, 41, 42, 43, 44, 45, 101, 102, 106, 107, 108, 109, 110, 111, 112, 113, 114, 115].contains c
def isInv (c k : Nat) : Bool := isInvC c || ((c == 1 && k == 1) || (c == 3 && k == 0) || (c == 3 && k == 1) || (c == 4 && k == 1) || (c == 100 && k == 1) || (c == 100 && k == 8) || (c == 100 && k == 9) || (c == 100 && k == 20) || (c == 100 && k == 22))
/-- what the invariant speaks of stays -/
def Scr (M M' : eM) : Prop := (∀ c k, isInv c k = true → M'.1 c k = M.1 c k) ∧ M'.2.2 = M.2.2
theorem Scr.rf {M : eM} : Scr M M := ⟨fun _ _ _ => rfl, rfl⟩
theorem Scr.trans {M M1 M2 : eM} (h1 : Scr M M1) (h2 : Scr M1 M2) : Scr M M2 := ⟨fun c k h => (h2.1 c k h).trans (h1.1 c k h), h2.2.trans h1.2⟩
theorem Scr.pI {M M1 : eM} (h : Scr M M1) {c k : Nat} {x : Int32} (hi : isInv c k = false) : Scr M (ea_pI M1 c k x) := by
  refine ⟨fun a j ha => ?_, h.2⟩
  show (if a = c then upd (M1.1 c) k x else M1.1 a) j = _
  by_cases e : a = c
  · subst e
    rw [if_pos rfl]
    unfold upd
    by_cases e2 : j = k
    · subst e2
      rw [hi] at ha
      cases ha
    · rw [if_neg e2]
      exact h.1 _ _ ha
  · rw [if_neg e]
    exact h.1 _ _ ha
theorem Scr.pL {M M1 : eM} (h : Scr M M1) {c k : Nat} {x : Int64} : Scr M (ea_pL M1 c k x) := ⟨fun a j ha => h.1 a j ha, h.2⟩
theorem scr_endi {M M1 : eM} {r : Int32} {res : Int32 × eM} (h : some (r, M1) = some res) (hs : Scr M M1) : Scr M res.2 := by cases h; exact hs
theorem scr_endv {M M1 res : eM} (h : some M1 = some res) (hs : Scr M M1) : Scr M res := by cases h; exact hs
theorem ea_if_s {α : Type} {c : Prop} {i : Decidable c} {a b : Option α} {r : α} (h : (@ite (Option α) c i a b) = some r) : (c ∧ a = some r) ∨ (¬ c ∧ b = some r) := by
  by_cases hc : c
  · rw [if_pos hc] at h; exact Or.inl ⟨hc, h⟩
  · rw [if_neg hc] at h; exact Or.inr ⟨hc, h⟩
theorem sJ6_bitCount_0f7a4_0 {res : Int32 × eM} : ∀ (x0 : Int32) (M : eM), fJ6_bitCount_0f7a4_0 x0 M = some res → Scr M res.2 := by
  intro x0 M hf
  replace hf := (fJ6_bitCount_0f7a4_0.eq_1 ..).symm.trans hf
  obtain ⟨y1, _, hf⟩ := ea_lt_s hf
  obtain ⟨y3, _, hf⟩ := ea_lt_s hf
  obtain ⟨y5, _, hf⟩ := ea_lt_s hf
  obtain ⟨y7, _, hf⟩ := ea_lt_s hf
  obtain ⟨y9, _, hf⟩ := ea_lt_s hf
  exact scr_endi hf Scr.rf
theorem sJ6_bitCount_0f7a4 {res : Int32 × eM} {x0 : Int32} {M : eM} (hf : fJ6_bitCount_0f7a4 x0 M = some res) : Scr M res.2 := sJ6_bitCount_0f7a4_0 _ _ hf
theorem sJ7_fill_53178_5 {res : eM} {a0 : Nat} (ha0 : ∀ k, isInv a0 k = false) : ∀ (n : Nat) (x1 : Int32) (x2 : Int32) (x3 : Int32) (M : eM), fJ7_fill_53178_5 a0 n x1 x2 x3 M = some res → Scr M res := by
  intro n
  induction n with
  | zero => intro x1 x2 x3 M hf; cases hf
  | succ n ih =>
    intro x1 x2 x3 M hf
    replace hf := (fJ7_fill_53178_5.eq_2 ..).symm.trans hf
    rcases ea_if_s hf with ⟨_, hf⟩ | ⟨_, hf⟩
    · exact scr_endv hf Scr.rf
    · obtain ⟨_, hf⟩ := ea_ck_s hf
      exact Scr.trans (Scr.rf.pI (ha0 _)) (ih _ _ _ _ hf)
theorem sJ7_fill_53178_0 {res : eM} {a0 : Nat} (ha0 : ∀ k, isInv a0 k = false) : ∀ (x1 : Int32) (M : eM), fJ7_fill_53178_0 a0 x1 M = some res → Scr M res := by
  intro x1 M hf
  replace hf := (fJ7_fill_53178_0.eq_1 ..).symm.trans hf
  exact Scr.trans Scr.rf (sJ7_fill_53178_5 ha0 ea_N _ _ _ _ hf)
theorem sJ7_fill_53178 {res : eM} {a0 : Nat} {x1 : Int32} (ha0 : ∀ k, isInv a0 k = false) {M : eM} (hf : fJ7_fill_53178 a0 x1 M = some res) : Scr M res := sJ7_fill_53178_0 ha0 _ _ hf
theorem sJ7_rangeCheck_23922_0 {res : eM} : ∀ (x0 : Int32) (x1 : Int32) (x2 : Int32) (M : eM), fJ7_rangeCheck_23922_0 x0 x1 x2 M = some res → Scr M res := by
  intro x0 x1 x2 M hf
  replace hf := (fJ7_rangeCheck_23922_0.eq_1 ..).symm.trans hf
  rcases ea_if_s hf with ⟨_, hf⟩ | ⟨_, hf⟩
  · rcases ea_if_s hf with ⟨_, hf⟩ | ⟨_, hf⟩
    · rcases ea_if_s hf with ⟨_, hf⟩ | ⟨_, hf⟩
      · exact scr_endv hf Scr.rf
      · cases hf
    · cases hf
  · cases hf
theorem sJ7_rangeCheck_23922 {res : eM} {x0 : Int32} {x1 : Int32} {x2 : Int32} {M : eM} (hf : fJ7_rangeCheck_23922 x0 x1 x2 M = some res) : Scr M res := sJ7_rangeCheck_23922_0 _ _ _ _ hf
theorem sJ7_fill_fda19_10 {res : eM} {a0 : Nat} (ha0 : ∀ k, isInv a0 k = false) : ∀ (n : Nat) (x2 : Int32) (x3 : Int32) (x4 : Int32) (M : eM), fJ7_fill_fda19_10 a0 n x2 x3 x4 M = some res → Scr M res := by
  intro n
  induction n with
  | zero => intro x2 x3 x4 M hf; cases hf
  | succ n ih =>
    intro x2 x3 x4 M hf
    replace hf := (fJ7_fill_fda19_10.eq_2 ..).symm.trans hf
    rcases ea_if_s hf with ⟨_, hf⟩ | ⟨_, hf⟩
    · exact scr_endv hf Scr.rf
    · obtain ⟨_, hf⟩ := ea_ck_s hf
      exact Scr.trans (Scr.rf.pI (ha0 _)) (ih _ _ _ _ hf)
theorem sJ7_fill_fda19_0 {res : eM} {a0 : Nat} (ha0 : ∀ k, isInv a0 k = false) : ∀ (x1 : Int32) (x2 : Int32) (x3 : Int32) (M : eM), fJ7_fill_fda19_0 a0 x1 x2 x3 M = some res → Scr M res := by
  intro x1 x2 x3 M hf
  replace hf := (fJ7_fill_fda19_0.eq_1 ..).symm.trans hf
  obtain ⟨M2, he, hf⟩ := ea_cv_s hf
  have hs := Scr.trans Scr.rf (sJ7_rangeCheck_23922 he)
  exact Scr.trans hs (sJ7_fill_fda19_10 ha0 ea_N _ _ _ _ hf)
theorem sJ7_fill_fda19 {res : eM} {a0 : Nat} {x1 : Int32} {x2 : Int32} {x3 : Int32} (ha0 : ∀ k, isInv a0 k = false) {M : eM} (hf : fJ7_fill_fda19 a0 x1 x2 x3 M = some res) : Scr M res := sJ7_fill_fda19_0 ha0 _ _ _ _ hf
theorem sX0_draw_0 {res : Int32 × eM} : ∀ (x1 : Int32) (M : eM), fX0_draw_0 x1 M = some res → Scr M res.2 := by
  intro x1 M hf
  replace hf := (fX0_draw_0.eq_1 ..).symm.trans hf
  rcases ea_if_s hf with ⟨_, hf⟩ | ⟨_, hf⟩
  · exact scr_endi hf (Scr.rf.pL)
  · obtain ⟨_, hf⟩ := ea_ck_s hf
    exact scr_endi hf (Scr.rf.pL)
theorem sX0_draw {res : Int32 × eM} {x1 : Int32} {M : eM} (hf : fX0_draw x1 M = some res) : Scr M res.2 := sX0_draw_0 _ _ hf
theorem sX10_isWithin_0 {res : Int32 × eM} : ∀ (x0 : Int32) (x1 : Int32) (x2 : Int32) (M : eM), fX10_isWithin_0 x0 x1 x2 M = some res → Scr M res.2 := by
  intro x0 x1 x2 M hf
  replace hf := (fX10_isWithin_0.eq_1 ..).symm.trans hf
  rcases ea_if_s hf with ⟨_, hf⟩ | ⟨_, hf⟩
  · exact scr_endi hf Scr.rf
  · rcases ea_if_s hf with ⟨_, hf⟩ | ⟨_, hf⟩
    · exact scr_endi hf Scr.rf
    · exact scr_endi hf Scr.rf
theorem sX10_isWithin {res : Int32 × eM} {x0 : Int32} {x1 : Int32} {x2 : Int32} {M : eM} (hf : fX10_isWithin x0 x1 x2 M = some res) : Scr M res.2 := sX10_isWithin_0 _ _ _ _ hf
theorem sX10_areShades_0 {res : Int32 × eM} : ∀ (x0 : Int32) (x1 : Int32) (x2 : Int32) (M : eM), fX10_areShades_0 x0 x1 x2 M = some res → Scr M res.2 := by
  intro x0 x1 x2 M hf
  replace hf := (fX10_areShades_0.eq_1 ..).symm.trans hf
  obtain ⟨r2, M3, he, hf⟩ := ea_ci_s hf
  have hs := Scr.trans Scr.rf (sX10_isWithin he)
  rcases ea_if_s hf with ⟨_, hf⟩ | ⟨_, hf⟩
  · exact scr_endi hf hs
  · obtain ⟨r6, M7, he, hf⟩ := ea_ci_s hf
    have hs := Scr.trans hs (sX10_isWithin he)
    rcases ea_if_s hf with ⟨_, hf⟩ | ⟨_, hf⟩
    · exact scr_endi hf hs
    · obtain ⟨r10, M11, he, hf⟩ := ea_ci_s hf
      have hs := Scr.trans hs (sX10_isWithin he)
      rcases ea_if_s hf with ⟨_, hf⟩ | ⟨_, hf⟩
      · exact scr_endi hf hs
      · exact scr_endi hf hs
theorem sX10_areShades {res : Int32 × eM} {x0 : Int32} {x1 : Int32} {x2 : Int32} {M : eM} (hf : fX10_areShades x0 x1 x2 M = some res) : Scr M res.2 := sX10_areShades_0 _ _ _ _ hf
theorem sX1_cells_0 {res : Int32 × eM} {a0 : Nat} : ∀ (M : eM), fX1_cells_0 a0 M = some res → Scr M res.2 := by
  intro M hf
  replace hf := (fX1_cells_0.eq_1 ..).symm.trans hf
  exact scr_endi hf Scr.rf
theorem sX1_cells {res : Int32 × eM} {a0 : Nat} {M : eM} (hf : fX1_cells a0 M = some res) : Scr M res.2 := sX1_cells_0  _ hf
theorem sX10_isCell_0 {res : Int32 × eM} : ∀ (x1 : Int32) (M : eM), fX10_isCell_0 x1 M = some res → Scr M res.2 := by
  intro x1 M hf
  replace hf := (fX10_isCell_0.eq_1 ..).symm.trans hf
  obtain ⟨_, hf⟩ := ea_ck_s hf
  obtain ⟨r3, M4, he, hf⟩ := ea_ci_s hf
  have hs := Scr.trans Scr.rf (sX1_cells he)
  obtain ⟨r6, M7, he, hf⟩ := ea_ci_s hf
  have hs := Scr.trans hs (sX10_isWithin he)
  obtain ⟨_, hf⟩ := ea_ck_s hf
  exact scr_endi hf hs
theorem sX10_isCell {res : Int32 × eM} {x1 : Int32} {M : eM} (hf : fX10_isCell x1 M = some res) : Scr M res.2 := sX10_isCell_0 _ _ hf
theorem sX10_mayTell_0 {res : Int32 × eM} : ∀ (x1 : Int32) (M : eM), fX10_mayTell_0 x1 M = some res → Scr M res.2 := by
  intro x1 M hf
  replace hf := (fX10_mayTell_0.eq_1 ..).symm.trans hf
  obtain ⟨r2, M3, he, hf⟩ := ea_ci_s hf
  have hs := Scr.trans Scr.rf (sX10_isWithin he)
  obtain ⟨_, hf⟩ := ea_ck_s hf
  exact scr_endi hf hs
theorem sX10_mayTell {res : Int32 × eM} {x1 : Int32} {M : eM} (hf : fX10_mayTell x1 M = some res) : Scr M res.2 := sX10_mayTell_0 _ _ hf
theorem sX8_putShades_0 {res : eM} {a0 : Nat} (ha0 : ∀ k, isInv a0 k = false) : ∀ (x1 : Int32) (x2 : Int32) (x3 : Int32) (x4 : Int32) (M : eM), fX8_putShades_0 a0 x1 x2 x3 x4 M = some res → Scr M res := by
  intro x1 x2 x3 x4 M hf
  replace hf := (fX8_putShades_0.eq_1 ..).symm.trans hf
  obtain ⟨_, hf⟩ := ea_ck_s hf
  obtain ⟨_, hf⟩ := ea_ck_s hf
  obtain ⟨_, hf⟩ := ea_ck_s hf
  exact scr_endv hf (((Scr.rf.pI (ha0 _)).pI (ha0 _)).pI (ha0 _))
theorem sX8_putShades {res : eM} {a0 : Nat} {x1 : Int32} {x2 : Int32} {x3 : Int32} {x4 : Int32} (ha0 : ∀ k, isInv a0 k = false) {M : eM} (hf : fX8_putShades a0 x1 x2 x3 x4 M = some res) : Scr M res := sX8_putShades_0 ha0 _ _ _ _ _ hf
theorem sX10_isStory_0 {res : Int32 × eM} : ∀ (x1 : Int32) (M : eM), fX10_isStory_0 x1 M = some res → Scr M res.2 := by
  intro x1 M hf
  replace hf := (fX10_isStory_0.eq_1 ..).symm.trans hf
  obtain ⟨_, hf⟩ := ea_ck_s hf
  obtain ⟨r3, M4, he, hf⟩ := ea_ci_s hf
  have hs := Scr.trans Scr.rf (sX10_isWithin he)
  obtain ⟨_, hf⟩ := ea_ck_s hf
  exact scr_endi hf hs
theorem sX10_isStory {res : Int32 × eM} {x1 : Int32} {M : eM} (hf : fX10_isStory x1 M = some res) : Scr M res.2 := sX10_isStory_0 _ _ hf
theorem sX1_halved_11 {res : Int32 × eM} : ∀ (x0 : Int32) (t0 : Int32) (M : eM), fX1_halved_11 x0 t0 M = some res → Scr M res.2 := by
  intro x0 t0 M hf
  replace hf := (fX1_halved_11.eq_1 ..).symm.trans hf
  rcases ea_if_s hf with ⟨_, hf⟩ | ⟨_, hf⟩
  · exact scr_endi hf Scr.rf
  · exact scr_endi hf Scr.rf
theorem sX1_halved_0 {res : Int32 × eM} : ∀ (x0 : Int32) (x1 : Int32) (x2 : Int32) (M : eM), fX1_halved_0 x0 x1 x2 M = some res → Scr M res.2 := by
  intro x0 x1 x2 M hf
  replace hf := (fX1_halved_0.eq_1 ..).symm.trans hf
  rcases ea_if_s hf with ⟨_, hf⟩ | ⟨_, hf⟩
  · exact Scr.trans Scr.rf (sX1_halved_11 _ _ _ hf)
  · obtain ⟨_, hf⟩ := ea_ck_s hf
    exact Scr.trans Scr.rf (sX1_halved_11 _ _ _ hf)
theorem sX1_halved {res : Int32 × eM} {x0 : Int32} {x1 : Int32} {x2 : Int32} {M : eM} (hf : fX1_halved x0 x1 x2 M = some res) : Scr M res.2 := sX1_halved_0 _ _ _ _ hf
theorem sX1_strengthOf_0 {res : Int32 × eM} {a0 : Nat} : ∀ (x1 : Int32) (x2 : Int32) (M : eM), fX1_strengthOf_0 a0 x1 x2 M = some res → Scr M res.2 := by
  intro x1 x2 M hf
  replace hf := (fX1_strengthOf_0.eq_1 ..).symm.trans hf
  obtain ⟨_, hf⟩ := ea_ck_s hf
  obtain ⟨y2, _, hf⟩ := ea_lt_s hf
  obtain ⟨_, hf⟩ := ea_ck_s hf
  obtain ⟨r6, M7, he, hf⟩ := ea_ci_s hf
  have hs := Scr.trans Scr.rf (sX1_halved he)
  obtain ⟨_, hf⟩ := ea_ck_s hf
  obtain ⟨r10, M11, he, hf⟩ := ea_ci_s hf
  have hs := Scr.trans hs (sX1_halved he)
  exact scr_endi hf hs
theorem sX1_strengthOf {res : Int32 × eM} {a0 : Nat} {x1 : Int32} {x2 : Int32} {M : eM} (hf : fX1_strengthOf a0 x1 x2 M = some res) : Scr M res.2 := sX1_strengthOf_0 _ _ _ hf
theorem sX1_takesOf_0 {res : Int32 × eM} {a0 : Nat} : ∀ (x1 : Int32) (x2 : Int32) (M : eM), fX1_takesOf_0 a0 x1 x2 M = some res → Scr M res.2 := by
  intro x1 x2 M hf
  replace hf := (fX1_takesOf_0.eq_1 ..).symm.trans hf
  obtain ⟨_, hf⟩ := ea_ck_s hf
  exact scr_endi hf Scr.rf
theorem sX1_takesOf {res : Int32 × eM} {a0 : Nat} {x1 : Int32} {x2 : Int32} {M : eM} (hf : fX1_takesOf a0 x1 x2 M = some res) : Scr M res.2 := sX1_takesOf_0 _ _ _ hf
theorem sX9_takenBy_0 {res : Int32 × eM} : ∀ (x1 : Int32) (x2 : Int32) (x3 : Int32) (M : eM), fX9_takenBy_0 x1 x2 x3 M = some res → Scr M res.2 := by
  intro x1 x2 x3 M hf
  replace hf := (fX9_takenBy_0.eq_1 ..).symm.trans hf
  rcases ea_if_s hf with ⟨_, hf⟩ | ⟨_, hf⟩
  · obtain ⟨_, hf⟩ := ea_ck_s hf
    obtain ⟨r4, M5, he, hf⟩ := ea_ci_s hf
    have hs := Scr.trans Scr.rf (sX1_takesOf he)
    obtain ⟨_, hf⟩ := ea_ck_s hf
    obtain ⟨r8, M9, he, hf⟩ := ea_ci_s hf
    have hs := Scr.trans hs (sX1_strengthOf he)
    exact scr_endi hf hs
  · exact scr_endi hf Scr.rf
theorem sX9_takenBy {res : Int32 × eM} {x1 : Int32} {x2 : Int32} {x3 : Int32} {M : eM} (hf : fX9_takenBy x1 x2 x3 M = some res) : Scr M res.2 := sX9_takenBy_0 _ _ _ _ hf
theorem sX9_shadeOf_0 {res : Int32 × eM} : ∀ (x1 : Int32) (x2 : Int32) (x3 : Int32) (M : eM), fX9_shadeOf_0 x1 x2 x3 M = some res → Scr M res.2 := by
  intro x1 x2 x3 M hf
  replace hf := (fX9_shadeOf_0.eq_1 ..).symm.trans hf
  obtain ⟨_, hf⟩ := ea_ck_s hf
  obtain ⟨r3, M4, he, hf⟩ := ea_ci_s hf
  have hs := Scr.trans Scr.rf (sX9_takenBy he)
  obtain ⟨_, hf⟩ := ea_ck_s hf
  obtain ⟨r7, M8, he, hf⟩ := ea_ci_s hf
  have hs := Scr.trans hs (sX9_takenBy he)
  exact scr_endi hf hs
theorem sX9_shadeOf {res : Int32 × eM} {x1 : Int32} {x2 : Int32} {x3 : Int32} {M : eM} (hf : fX9_shadeOf x1 x2 x3 M = some res) : Scr M res.2 := sX9_shadeOf_0 _ _ _ _ hf
theorem sX10_yearsBorne_29 {res : Int32 × eM} {k61 : Int32 → Int32 → Int32 → Int32 → Int32 → Int32 → eM → Option (Int32 × eM)} (hk61 : ∀ (x1 : Int32) (x2 : Int32) (x3 : Int32) (x4 : Int32) (x6 : Int32) (x7 : Int32) (M : eM), k61 x1 x2 x3 x4 x6 x7 M = some res → Scr M res.2) : ∀ (n : Nat) (x1 : Int32) (x2 : Int32) (x3 : Int32) (x4 : Int32) (x6 : Int32) (x7 : Int32) (x8 : Int32) (M : eM), fX10_yearsBorne_29 k61 n x1 x2 x3 x4 x6 x7 x8 M = some res → Scr M res.2 := by
  intro n
  induction n with
  | zero => intro x1 x2 x3 x4 x6 x7 x8 M hf; cases hf
  | succ n ih =>
    intro x1 x2 x3 x4 x6 x7 x8 M hf
    replace hf := (fX10_yearsBorne_29.eq_2 ..).symm.trans hf
    rcases ea_if_s hf with ⟨_, hf⟩ | ⟨_, hf⟩
    · exact Scr.trans Scr.rf (hk61 _ _ _ _ _ _ _ hf)
    · obtain ⟨r3, M4, he, hf⟩ := ea_ci_s hf
      have hs := Scr.trans Scr.rf (sX9_shadeOf he)
      rcases ea_if_s hf with ⟨_, hf⟩ | ⟨_, hf⟩
      · exact Scr.trans hs (hk61 _ _ _ _ _ _ _ hf)
      · exact Scr.trans hs (ih _ _ _ _ _ _ _ _ hf)
theorem sX10_yearsBorne_61 {res : Int32 × eM} {k7 : Int32 → Int32 → Int32 → Int32 → Int32 → Int32 → eM → Option (Int32 × eM)} (hk7 : ∀ (x1 : Int32) (x2 : Int32) (x3 : Int32) (x4 : Int32) (x6 : Int32) (x7 : Int32) (M : eM), k7 x1 x2 x3 x4 x6 x7 M = some res → Scr M res.2) : ∀ (x1 : Int32) (x2 : Int32) (x3 : Int32) (x4 : Int32) (x6 : Int32) (x7 : Int32) (M : eM), fX10_yearsBorne_61 k7 x1 x2 x3 x4 x6 x7 M = some res → Scr M res.2 := by
  intro x1 x2 x3 x4 x6 x7 M hf
  replace hf := (fX10_yearsBorne_61.eq_1 ..).symm.trans hf
  exact Scr.trans Scr.rf (hk7 _ _ _ _ _ _ _ hf)
theorem sX10_yearsBorne_7 {res : Int32 × eM} : ∀ (n : Nat) (x1 : Int32) (x2 : Int32) (x3 : Int32) (x4 : Int32) (x6 : Int32) (x7 : Int32) (M : eM), fX10_yearsBorne_7 n x1 x2 x3 x4 x6 x7 M = some res → Scr M res.2 := by
  intro n
  induction n with
  | zero => intro x1 x2 x3 x4 x6 x7 M hf; cases hf
  | succ n ih =>
    intro x1 x2 x3 x4 x6 x7 M hf
    replace hf := (fX10_yearsBorne_7.eq_2 ..).symm.trans hf
    rcases ea_if_s hf with ⟨_, hf⟩ | ⟨_, hf⟩
    · exact scr_endi hf Scr.rf
    · obtain ⟨r3, M4, he, hf⟩ := ea_ci_s hf
      have hs := Scr.trans Scr.rf (sX9_shadeOf he)
      exact Scr.trans hs (sX10_yearsBorne_29 (sX10_yearsBorne_61 ih) ea_N _ _ _ _ _ _ _ _ hf)
theorem sX10_yearsBorne_0 {res : Int32 × eM} : ∀ (x1 : Int32) (x2 : Int32) (x3 : Int32) (x4 : Int32) (x5 : Int32) (M : eM), fX10_yearsBorne_0 x1 x2 x3 x4 x5 M = some res → Scr M res.2 := by
  intro x1 x2 x3 x4 x5 M hf
  replace hf := (fX10_yearsBorne_0.eq_1 ..).symm.trans hf
  exact Scr.trans Scr.rf (sX10_yearsBorne_7 ea_N _ _ _ _ _ _ _ hf)
theorem sX10_yearsBorne {res : Int32 × eM} {x1 : Int32} {x2 : Int32} {x3 : Int32} {x4 : Int32} {x5 : Int32} {M : eM} (hf : fX10_yearsBorne x1 x2 x3 x4 x5 M = some res) : Scr M res.2 := sX10_yearsBorne_0 _ _ _ _ _ _ hf
theorem sX1_columnOf_0 {res : Int32 × eM} {a0 : Nat} : ∀ (x1 : Int32) (M : eM), fX1_columnOf_0 a0 x1 M = some res → Scr M res.2 := by
  intro x1 M hf
  replace hf := (fX1_columnOf_0.eq_1 ..).symm.trans hf
  rcases ea_if_s hf with ⟨_, hf⟩ | ⟨_, hf⟩
  · exact scr_endi hf Scr.rf
  · obtain ⟨_, hf⟩ := ea_ck_s hf
    exact scr_endi hf Scr.rf
theorem sX1_columnOf {res : Int32 × eM} {a0 : Nat} {x1 : Int32} {M : eM} (hf : fX1_columnOf a0 x1 M = some res) : Scr M res.2 := sX1_columnOf_0 _ _ hf
theorem sX1_hangPlace_0 {res : Int32 × eM} : ∀ (x0 : Int32) (x1 : Int32) (M : eM), fX1_hangPlace_0 x0 x1 M = some res → Scr M res.2 := by
  intro x0 x1 M hf
  replace hf := (fX1_hangPlace_0.eq_1 ..).symm.trans hf
  exact scr_endi hf Scr.rf
theorem sX1_hangPlace {res : Int32 × eM} {x0 : Int32} {x1 : Int32} {M : eM} (hf : fX1_hangPlace x0 x1 M = some res) : Scr M res.2 := sX1_hangPlace_0 _ _ _ hf
theorem sX1_lightAt_0 {res : Int32 × eM} {a0 : Nat} : ∀ (x1 : Int32) (x2 : Int32) (x3 : Int32) (M : eM), fX1_lightAt_0 a0 x1 x2 x3 M = some res → Scr M res.2 := by
  intro x1 x2 x3 M hf
  replace hf := (fX1_lightAt_0.eq_1 ..).symm.trans hf
  rcases ea_if_s hf with ⟨_, hf⟩ | ⟨_, hf⟩
  · exact scr_endi hf Scr.rf
  · obtain ⟨_, hf⟩ := ea_ck_s hf
    exact scr_endi hf Scr.rf
theorem sX1_lightAt {res : Int32 × eM} {a0 : Nat} {x1 : Int32} {x2 : Int32} {x3 : Int32} {M : eM} (hf : fX1_lightAt a0 x1 x2 x3 M = some res) : Scr M res.2 := sX1_lightAt_0 _ _ _ _ hf
theorem sX1_hoursOf_110 {res : Int32 × eM} {a0 : Nat} {k9 : Int32 → Int32 → Int32 → Int32 → Int32 → Int32 → Int32 → eM → Option (Int32 × eM)} (hk9 : ∀ (x1 : Int32) (x2 : Int32) (x3 : Int32) (x4 : Int32) (x5 : Int32) (x6 : Int32) (x7 : Int32) (M : eM), k9 x1 x2 x3 x4 x5 x6 x7 M = some res → Scr M res.2) : ∀ (x1 : Int32) (x2 : Int32) (x3 : Int32) (x4 : Int32) (x7 : Int32) (x9 : Int32) (t0 : Int32) (t1 : Int32) (M : eM), fX1_hoursOf_110 k9 a0 x1 x2 x3 x4 x7 x9 t0 t1 M = some res → Scr M res.2 := by
  intro x1 x2 x3 x4 x7 x9 t0 t1 M hf
  replace hf := (fX1_hoursOf_110.eq_1 ..).symm.trans hf
  exact Scr.trans Scr.rf (hk9 _ _ _ _ _ _ _ _ hf)
theorem sX1_hoursOf_9 {res : Int32 × eM} {a0 : Nat} : ∀ (n : Nat) (x1 : Int32) (x2 : Int32) (x3 : Int32) (x4 : Int32) (x5 : Int32) (x6 : Int32) (x7 : Int32) (M : eM), fX1_hoursOf_9 a0 n x1 x2 x3 x4 x5 x6 x7 M = some res → Scr M res.2 := by
  intro n
  induction n with
  | zero => intro x1 x2 x3 x4 x5 x6 x7 M hf; cases hf
  | succ n ih =>
    intro x1 x2 x3 x4 x5 x6 x7 M hf
    replace hf := (fX1_hoursOf_9.eq_2 ..).symm.trans hf
    obtain ⟨_, hf⟩ := ea_ck_s hf
    rcases ea_if_s hf with ⟨_, hf⟩ | ⟨_, hf⟩
    · exact scr_endi hf Scr.rf
    · obtain ⟨r4, M5, he, hf⟩ := ea_ci_s hf
      have hs := Scr.trans Scr.rf (sX1_hangPlace he)
      obtain ⟨_, hf⟩ := ea_ck_s hf
      obtain ⟨y7, _, hf⟩ := ea_lt_s hf
      obtain ⟨y9, _, hf⟩ := ea_lt_s hf
      obtain ⟨_, hf⟩ := ea_ck_s hf
      obtain ⟨_, hf⟩ := ea_ck_s hf
      obtain ⟨r14, M15, he, hf⟩ := ea_ci_s hf
      have hs := Scr.trans hs (sX1_lightAt he)
      rcases ea_if_s hf with ⟨_, hf⟩ | ⟨_, hf⟩
      · exact Scr.trans hs (sX1_hoursOf_110 ih _ _ _ _ _ _ _ _ _ hf)
      · obtain ⟨_, hf⟩ := ea_ck_s hf
        exact Scr.trans hs (sX1_hoursOf_110 ih _ _ _ _ _ _ _ _ _ hf)
theorem sX1_hoursOf_0 {res : Int32 × eM} {a0 : Nat} : ∀ (x1 : Int32) (x2 : Int32) (x3 : Int32) (x4 : Int32) (M : eM), fX1_hoursOf_0 a0 x1 x2 x3 x4 M = some res → Scr M res.2 := by
  intro x1 x2 x3 x4 M hf
  replace hf := (fX1_hoursOf_0.eq_1 ..).symm.trans hf
  exact Scr.trans Scr.rf (sX1_hoursOf_9 ea_N _ _ _ _ _ _ _ _ hf)
theorem sX1_hoursOf {res : Int32 × eM} {a0 : Nat} {x1 : Int32} {x2 : Int32} {x3 : Int32} {x4 : Int32} {M : eM} (hf : fX1_hoursOf a0 x1 x2 x3 x4 M = some res) : Scr M res.2 := sX1_hoursOf_0 _ _ _ _ _ hf
theorem sX1_yearFrom_0 {res : Int32 × eM} {a0 : Nat} : ∀ (x1 : Int32) (M : eM), fX1_yearFrom_0 a0 x1 M = some res → Scr M res.2 := by
  intro x1 M hf
  replace hf := (fX1_yearFrom_0.eq_1 ..).symm.trans hf
  obtain ⟨r2, M3, he, hf⟩ := ea_ci_s hf
  have hs := Scr.trans Scr.rf (sX10_isWithin he)
  rcases ea_if_s hf with ⟨_, hf⟩ | ⟨_, hf⟩
  · exact scr_endi hf hs
  · obtain ⟨_, hf⟩ := ea_ck_s hf
    exact scr_endi hf hs
theorem sX1_yearFrom {res : Int32 × eM} {a0 : Nat} {x1 : Int32} {M : eM} (hf : fX1_yearFrom a0 x1 M = some res) : Scr M res.2 := sX1_yearFrom_0 _ _ hf
theorem sX3_addSight_0 {res : eM} {a0 : Nat} (ha0 : a0 = 50 ∨ a0 = 60) : ∀ (x1 : Int32) (x2 : Int32) (M : eM), fX3_addSight_0 a0 x1 x2 M = some res → Scr M res := by
  intro x1 x2 M hf
  replace hf := (fX3_addSight_0.eq_1 ..).symm.trans hf
  rcases ea_if_s hf with ⟨_, hf⟩ | ⟨_, hf⟩
  · exact scr_endv hf Scr.rf
  · obtain ⟨_, hf⟩ := ea_ck_s hf
    obtain ⟨_, hf⟩ := ea_ck_s hf
    exact scr_endv hf (((Scr.rf.pI (by rcases ha0 with rfl | rfl <;> rfl)).pI (by rcases ha0 with rfl | rfl <;> rfl)).pI (by rcases ha0 with rfl | rfl <;> rfl))
theorem sX3_addSight {res : eM} {a0 : Nat} {x1 : Int32} {x2 : Int32} (ha0 : a0 = 50 ∨ a0 = 60) {M : eM} (hf : fX3_addSight a0 x1 x2 M = some res) : Scr M res := sX3_addSight_0 ha0 _ _ _ hf
theorem sX3_allow_67 {res : eM} {a0 : Nat} (ha0 : a0 = 50 ∨ a0 = 60) : ∀ (t0 : Int32) (t1 : Int32) (M : eM), fX3_allow_67 a0 t0 t1 M = some res → Scr M res := by
  intro t0 t1 M hf
  replace hf := (fX3_allow_67.eq_1 ..).symm.trans hf
  obtain ⟨_, hf⟩ := ea_ck_s hf
  exact scr_endv hf (Scr.rf.pI (by rcases ha0 with rfl | rfl <;> rfl))
theorem sX3_allow_0 {res : eM} {a0 : Nat} (ha0 : a0 = 50 ∨ a0 = 60) : ∀ (x1 : Int32) (x2 : Int32) (M : eM), fX3_allow_0 a0 x1 x2 M = some res → Scr M res := by
  intro x1 x2 M hf
  replace hf := (fX3_allow_0.eq_1 ..).symm.trans hf
  obtain ⟨_, hf⟩ := ea_ck_s hf
  rcases ea_if_s hf with ⟨_, hf⟩ | ⟨_, hf⟩
  · exact scr_endv hf Scr.rf
  · obtain ⟨_, hf⟩ := ea_ck_s hf
    rcases ea_if_s hf with ⟨_, hf⟩ | ⟨_, hf⟩
    · exact Scr.trans (Scr.rf.pI (by rcases ha0 with rfl | rfl <;> rfl)) (sX3_allow_67 ha0 _ _ _ hf)
    · exact Scr.trans (Scr.rf.pI (by rcases ha0 with rfl | rfl <;> rfl)) (sX3_allow_67 ha0 _ _ _ hf)
theorem sX3_allow {res : eM} {a0 : Nat} {x1 : Int32} {x2 : Int32} (ha0 : a0 = 50 ∨ a0 = 60) {M : eM} (hf : fX3_allow a0 x1 x2 M = some res) : Scr M res := sX3_allow_0 ha0 _ _ _ hf
theorem sX8_lookShade_0 {res : Int32 × eM} {a0 : Nat} : ∀ (x1 : Int32) (x2 : Int32) (M : eM), fX8_lookShade_0 a0 x1 x2 M = some res → Scr M res.2 := by
  intro x1 x2 M hf
  replace hf := (fX8_lookShade_0.eq_1 ..).symm.trans hf
  rcases ea_if_s hf with ⟨_, hf⟩ | ⟨_, hf⟩
  · exact scr_endi hf Scr.rf
  · rcases ea_if_s hf with ⟨_, hf⟩ | ⟨_, hf⟩
    · exact scr_endi hf Scr.rf
    · obtain ⟨_, hf⟩ := ea_ck_s hf
      exact scr_endi hf Scr.rf
theorem sX8_lookShade {res : Int32 × eM} {a0 : Nat} {x1 : Int32} {x2 : Int32} {M : eM} (hf : fX8_lookShade a0 x1 x2 M = some res) : Scr M res.2 := sX8_lookShade_0 _ _ _ hf
theorem sX8_isSeen_0 {res : Int32 × eM} {a0 : Nat} : ∀ (x1 : Int32) (M : eM), fX8_isSeen_0 a0 x1 M = some res → Scr M res.2 := by
  intro x1 M hf
  replace hf := (fX8_isSeen_0.eq_1 ..).symm.trans hf
  obtain ⟨r2, M3, he, hf⟩ := ea_ci_s hf
  have hs := Scr.trans Scr.rf (sX8_lookShade he)
  rcases ea_if_s hf with ⟨_, hf⟩ | ⟨_, hf⟩
  · exact scr_endi hf hs
  · exact scr_endi hf hs
theorem sX8_isSeen {res : Int32 × eM} {a0 : Nat} {x1 : Int32} {M : eM} (hf : fX8_isSeen a0 x1 M = some res) : Scr M res.2 := sX8_isSeen_0 _ _ hf
theorem sX8_isTriedOf_0 {res : Int32 × eM} {a0 : Nat} : ∀ (x1 : Int32) (x2 : Int32) (x3 : Int32) (M : eM), fX8_isTriedOf_0 a0 x1 x2 x3 M = some res → Scr M res.2 := by
  intro x1 x2 x3 M hf
  replace hf := (fX8_isTriedOf_0.eq_1 ..).symm.trans hf
  obtain ⟨_, hf⟩ := ea_ck_s hf
  rcases ea_if_s hf with ⟨_, hf⟩ | ⟨_, hf⟩
  · exact scr_endi hf Scr.rf
  · obtain ⟨_, hf⟩ := ea_ck_s hf
    rcases ea_if_s hf with ⟨_, hf⟩ | ⟨_, hf⟩
    · exact scr_endi hf Scr.rf
    · exact scr_endi hf Scr.rf
theorem sX8_isTriedOf {res : Int32 × eM} {a0 : Nat} {x1 : Int32} {x2 : Int32} {x3 : Int32} {M : eM} (hf : fX8_isTriedOf a0 x1 x2 x3 M = some res) : Scr M res.2 := sX8_isTriedOf_0 _ _ _ _ hf
theorem sX8_latestLook_60 {res : Int32 × eM} {a0 : Nat} {k8 : Int32 → Int32 → Int32 → Int32 → eM → Option (Int32 × eM)} (hk8 : ∀ (x1 : Int32) (x2 : Int32) (x3 : Int32) (x4 : Int32) (M : eM), k8 x1 x2 x3 x4 M = some res → Scr M res.2) : ∀ (x1 : Int32) (x2 : Int32) (x3 : Int32) (x4 : Int32) (M : eM), fX8_latestLook_60 k8 a0 x1 x2 x3 x4 M = some res → Scr M res.2 := by
  intro x1 x2 x3 x4 M hf
  replace hf := (fX8_latestLook_60.eq_1 ..).symm.trans hf
  exact Scr.trans Scr.rf (hk8 _ _ _ _ _ hf)
theorem sX8_latestLook_8 {res : Int32 × eM} {a0 : Nat} : ∀ (n : Nat) (x1 : Int32) (x2 : Int32) (x3 : Int32) (x4 : Int32) (M : eM), fX8_latestLook_8 a0 n x1 x2 x3 x4 M = some res → Scr M res.2 := by
  intro n
  induction n with
  | zero => intro x1 x2 x3 x4 M hf; cases hf
  | succ n ih =>
    intro x1 x2 x3 x4 M hf
    replace hf := (fX8_latestLook_8.eq_2 ..).symm.trans hf
    rcases ea_if_s hf with ⟨_, hf⟩ | ⟨_, hf⟩
    · exact scr_endi hf Scr.rf
    · obtain ⟨_, hf⟩ := ea_ck_s hf
      rcases ea_if_s hf with ⟨_, hf⟩ | ⟨_, hf⟩
      · exact Scr.trans Scr.rf (sX8_latestLook_60 ih _ _ _ _ _ hf)
      · obtain ⟨_, hf⟩ := ea_ck_s hf
        rcases ea_if_s hf with ⟨_, hf⟩ | ⟨_, hf⟩
        · obtain ⟨_, hf⟩ := ea_ck_s hf
          rcases ea_if_s hf with ⟨_, hf⟩ | ⟨_, hf⟩
          · exact scr_endi hf Scr.rf
          · exact Scr.trans Scr.rf (sX8_latestLook_60 ih _ _ _ _ _ hf)
        · exact Scr.trans Scr.rf (sX8_latestLook_60 ih _ _ _ _ _ hf)
theorem sX8_latestLook_0 {res : Int32 × eM} {a0 : Nat} : ∀ (x1 : Int32) (x2 : Int32) (x3 : Int32) (M : eM), fX8_latestLook_0 a0 x1 x2 x3 M = some res → Scr M res.2 := by
  intro x1 x2 x3 M hf
  replace hf := (fX8_latestLook_0.eq_1 ..).symm.trans hf
  exact Scr.trans Scr.rf (sX8_latestLook_8 ea_N _ _ _ _ _ hf)
theorem sX8_latestLook {res : Int32 × eM} {a0 : Nat} {x1 : Int32} {x2 : Int32} {x3 : Int32} {M : eM} (hf : fX8_latestLook a0 x1 x2 x3 M = some res) : Scr M res.2 := sX8_latestLook_0 _ _ _ _ hf
theorem sX8_triedHours_0 {res : Int32 × eM} {a0 : Nat} : ∀ (x1 : Int32) (M : eM), fX8_triedHours_0 a0 x1 M = some res → Scr M res.2 := by
  intro x1 M hf
  replace hf := (fX8_triedHours_0.eq_1 ..).symm.trans hf
  obtain ⟨_, hf⟩ := ea_ck_s hf
  exact scr_endi hf Scr.rf
theorem sX8_triedHours {res : Int32 × eM} {a0 : Nat} {x1 : Int32} {M : eM} (hf : fX8_triedHours a0 x1 M = some res) : Scr M res.2 := sX8_triedHours_0 _ _ hf
theorem sX8_latestRight_41 {res : Int32 × eM} {a0 : Nat} {k7 : Int32 → Int32 → Int32 → eM → Option (Int32 × eM)} (hk7 : ∀ (x1 : Int32) (x2 : Int32) (x3 : Int32) (M : eM), k7 x1 x2 x3 M = some res → Scr M res.2) : ∀ (x1 : Int32) (x2 : Int32) (x3 : Int32) (M : eM), fX8_latestRight_41 k7 a0 x1 x2 x3 M = some res → Scr M res.2 := by
  intro x1 x2 x3 M hf
  replace hf := (fX8_latestRight_41.eq_1 ..).symm.trans hf
  exact Scr.trans Scr.rf (hk7 _ _ _ _ hf)
theorem sX8_latestRight_7 {res : Int32 × eM} {a0 : Nat} : ∀ (n : Nat) (x1 : Int32) (x2 : Int32) (x3 : Int32) (M : eM), fX8_latestRight_7 a0 n x1 x2 x3 M = some res → Scr M res.2 := by
  intro n
  induction n with
  | zero => intro x1 x2 x3 M hf; cases hf
  | succ n ih =>
    intro x1 x2 x3 M hf
    replace hf := (fX8_latestRight_7.eq_2 ..).symm.trans hf
    rcases ea_if_s hf with ⟨_, hf⟩ | ⟨_, hf⟩
    · exact scr_endi hf Scr.rf
    · obtain ⟨_, hf⟩ := ea_ck_s hf
      rcases ea_if_s hf with ⟨_, hf⟩ | ⟨_, hf⟩
      · exact Scr.trans Scr.rf (sX8_latestRight_41 ih _ _ _ _ hf)
      · obtain ⟨_, hf⟩ := ea_ck_s hf
        rcases ea_if_s hf with ⟨_, hf⟩ | ⟨_, hf⟩
        · exact scr_endi hf Scr.rf
        · exact Scr.trans Scr.rf (sX8_latestRight_41 ih _ _ _ _ hf)
theorem sX8_latestRight_0 {res : Int32 × eM} {a0 : Nat} : ∀ (x1 : Int32) (x2 : Int32) (M : eM), fX8_latestRight_0 a0 x1 x2 M = some res → Scr M res.2 := by
  intro x1 x2 M hf
  replace hf := (fX8_latestRight_0.eq_1 ..).symm.trans hf
  exact Scr.trans Scr.rf (sX8_latestRight_7 ea_N _ _ _ _ hf)
theorem sX8_latestRight {res : Int32 × eM} {a0 : Nat} {x1 : Int32} {x2 : Int32} {M : eM} (hf : fX8_latestRight a0 x1 x2 M = some res) : Scr M res.2 := sX8_latestRight_0 _ _ _ hf
theorem sX8_triedShade_0 {res : Int32 × eM} {a0 : Nat} : ∀ (x1 : Int32) (x2 : Int32) (x3 : Int32) (M : eM), fX8_triedShade_0 a0 x1 x2 x3 M = some res → Scr M res.2 := by
  intro x1 x2 x3 M hf
  replace hf := (fX8_triedShade_0.eq_1 ..).symm.trans hf
  obtain ⟨r2, M3, he, hf⟩ := ea_ci_s hf
  have hs := Scr.trans Scr.rf (sX8_latestRight he)
  rcases ea_if_s hf with ⟨_, hf⟩ | ⟨_, hf⟩
  · obtain ⟨_, hf⟩ := ea_ck_s hf
    exact scr_endi hf hs
  · obtain ⟨_, hf⟩ := ea_ck_s hf
    exact scr_endi hf hs
theorem sX8_triedShade {res : Int32 × eM} {a0 : Nat} {x1 : Int32} {x2 : Int32} {x3 : Int32} {M : eM} (hf : fX8_triedShade a0 x1 x2 x3 M = some res) : Scr M res.2 := sX8_triedShade_0 _ _ _ _ hf
theorem sX3_gather_39 {res : eM} {a0 : Nat} (ha0 : a0 = 50 ∨ a0 = 60) {k68 : Int32 → Int32 → Int32 → eM → Option (eM)} (hk68 : ∀ (x1 : Int32) (x2 : Int32) (x3 : Int32) (M : eM), k68 x1 x2 x3 M = some res → Scr M res) : ∀ (n : Nat) (x1 : Int32) (x2 : Int32) (x3 : Int32) (x4 : Int32) (x5 : Int32) (M : eM), fX3_gather_39 k68 a0 n x1 x2 x3 x4 x5 M = some res → Scr M res := by
  intro n
  induction n with
  | zero => intro x1 x2 x3 x4 x5 M hf; cases hf
  | succ n ih =>
    intro x1 x2 x3 x4 x5 M hf
    replace hf := (fX3_gather_39.eq_2 ..).symm.trans hf
    rcases ea_if_s hf with ⟨_, hf⟩ | ⟨_, hf⟩
    · exact Scr.trans Scr.rf (hk68 _ _ _ _ hf)
    · obtain ⟨r3, M4, he, hf⟩ := ea_ci_s hf
      have hs := Scr.trans Scr.rf (sX8_lookShade he)
      obtain ⟨M6, he, hf⟩ := ea_cv_s hf
      have hs := Scr.trans hs (sX3_allow ha0 he)
      exact Scr.trans hs (ih _ _ _ _ _ _ hf)
theorem sX3_gather_74 {res : eM} {a0 : Nat} (ha0 : a0 = 50 ∨ a0 = 60) {k7 : Int32 → Int32 → Int32 → eM → Option (eM)} (hk7 : ∀ (x1 : Int32) (x2 : Int32) (x3 : Int32) (M : eM), k7 x1 x2 x3 M = some res → Scr M res) : ∀ (x1 : Int32) (x2 : Int32) (x3 : Int32) (M : eM), fX3_gather_74 k7 a0 x1 x2 x3 M = some res → Scr M res := by
  intro x1 x2 x3 M hf
  replace hf := (fX3_gather_74.eq_1 ..).symm.trans hf
  exact Scr.trans Scr.rf (hk7 _ _ _ _ hf)
theorem sX3_gather_68 {res : eM} {a0 : Nat} (ha0 : a0 = 50 ∨ a0 = 60) {k7 : Int32 → Int32 → Int32 → eM → Option (eM)} (hk7 : ∀ (x1 : Int32) (x2 : Int32) (x3 : Int32) (M : eM), k7 x1 x2 x3 M = some res → Scr M res) : ∀ (x1 : Int32) (x2 : Int32) (x3 : Int32) (M : eM), fX3_gather_68 k7 a0 x1 x2 x3 M = some res → Scr M res := by
  intro x1 x2 x3 M hf
  replace hf := (fX3_gather_68.eq_1 ..).symm.trans hf
  obtain ⟨M2, he, hf⟩ := ea_cv_s hf
  have hs := Scr.trans Scr.rf (sX3_addSight ha0 he)
  exact Scr.trans hs (sX3_gather_74 ha0 hk7 _ _ _ _ hf)
theorem sX3_gather_7 {res : eM} {a0 : Nat} (ha0 : a0 = 50 ∨ a0 = 60) {k80 : Int32 → Int32 → eM → Option (eM)} (hk80 : ∀ (x1 : Int32) (x2 : Int32) (M : eM), k80 x1 x2 M = some res → Scr M res) : ∀ (n : Nat) (x1 : Int32) (x2 : Int32) (x3 : Int32) (M : eM), fX3_gather_7 k80 a0 n x1 x2 x3 M = some res → Scr M res := by
  intro n
  induction n with
  | zero => intro x1 x2 x3 M hf; cases hf
  | succ n ih =>
    intro x1 x2 x3 M hf
    replace hf := (fX3_gather_7.eq_2 ..).symm.trans hf
    rcases ea_if_s hf with ⟨_, hf⟩ | ⟨_, hf⟩
    · exact Scr.trans Scr.rf (hk80 _ _ _ hf)
    · obtain ⟨r3, M4, he, hf⟩ := ea_ci_s hf
      have hs := Scr.trans Scr.rf (sX8_latestLook he)
      obtain ⟨r6, M7, he, hf⟩ := ea_ci_s hf
      have hs := Scr.trans hs (sX8_isSeen he)
      rcases ea_if_s hf with ⟨_, hf⟩ | ⟨_, hf⟩
      · exact Scr.trans hs (sX3_gather_74 ha0 ih _ _ _ _ hf)
      · exact Scr.trans hs (sX3_gather_39 ha0 (sX3_gather_68 ha0 ih) ea_N _ _ _ _ _ _ hf)
theorem sX3_gather_109 {res : eM} {a0 : Nat} (ha0 : a0 = 50 ∨ a0 = 60) {k138 : Int32 → Int32 → Int32 → eM → Option (eM)} (hk138 : ∀ (x1 : Int32) (x2 : Int32) (x3 : Int32) (M : eM), k138 x1 x2 x3 M = some res → Scr M res) : ∀ (n : Nat) (x1 : Int32) (x2 : Int32) (x3 : Int32) (x4 : Int32) (M : eM), fX3_gather_109 k138 a0 n x1 x2 x3 x4 M = some res → Scr M res := by
  intro n
  induction n with
  | zero => intro x1 x2 x3 x4 M hf; cases hf
  | succ n ih =>
    intro x1 x2 x3 x4 M hf
    replace hf := (fX3_gather_109.eq_2 ..).symm.trans hf
    rcases ea_if_s hf with ⟨_, hf⟩ | ⟨_, hf⟩
    · exact Scr.trans Scr.rf (hk138 _ _ _ _ hf)
    · obtain ⟨r3, M4, he, hf⟩ := ea_ci_s hf
      have hs := Scr.trans Scr.rf (sX8_triedShade he)
      obtain ⟨M6, he, hf⟩ := ea_cv_s hf
      have hs := Scr.trans hs (sX3_allow ha0 he)
      exact Scr.trans hs (ih _ _ _ _ _ hf)
theorem sX3_gather_151 {res : eM} {a0 : Nat} (ha0 : a0 = 50 ∨ a0 = 60) {k82 : Int32 → Int32 → Int32 → eM → Option (eM)} (hk82 : ∀ (x1 : Int32) (x2 : Int32) (x3 : Int32) (M : eM), k82 x1 x2 x3 M = some res → Scr M res) : ∀ (x1 : Int32) (x2 : Int32) (x3 : Int32) (M : eM), fX3_gather_151 k82 a0 x1 x2 x3 M = some res → Scr M res := by
  intro x1 x2 x3 M hf
  replace hf := (fX3_gather_151.eq_1 ..).symm.trans hf
  exact Scr.trans Scr.rf (hk82 _ _ _ _ hf)
theorem sX3_gather_138 {res : eM} {a0 : Nat} (ha0 : a0 = 50 ∨ a0 = 60) {k82 : Int32 → Int32 → Int32 → eM → Option (eM)} (hk82 : ∀ (x1 : Int32) (x2 : Int32) (x3 : Int32) (M : eM), k82 x1 x2 x3 M = some res → Scr M res) : ∀ (x1 : Int32) (x2 : Int32) (x3 : Int32) (M : eM), fX3_gather_138 k82 a0 x1 x2 x3 M = some res → Scr M res := by
  intro x1 x2 x3 M hf
  replace hf := (fX3_gather_138.eq_1 ..).symm.trans hf
  obtain ⟨r2, M3, he, hf⟩ := ea_ci_s hf
  have hs := Scr.trans Scr.rf (sX8_triedHours he)
  obtain ⟨M5, he, hf⟩ := ea_cv_s hf
  have hs := Scr.trans hs (sX3_addSight ha0 he)
  exact Scr.trans hs (sX3_gather_151 ha0 hk82 _ _ _ _ hf)
theorem sX3_gather_82 {res : eM} {a0 : Nat} (ha0 : a0 = 50 ∨ a0 = 60) : ∀ (n : Nat) (x1 : Int32) (x2 : Int32) (x3 : Int32) (M : eM), fX3_gather_82 a0 n x1 x2 x3 M = some res → Scr M res := by
  intro n
  induction n with
  | zero => intro x1 x2 x3 M hf; cases hf
  | succ n ih =>
    intro x1 x2 x3 M hf
    replace hf := (fX3_gather_82.eq_2 ..).symm.trans hf
    rcases ea_if_s hf with ⟨_, hf⟩ | ⟨_, hf⟩
    · exact scr_endv hf Scr.rf
    · obtain ⟨r3, M4, he, hf⟩ := ea_ci_s hf
      have hs := Scr.trans Scr.rf (sX8_isTriedOf he)
      rcases ea_if_s hf with ⟨_, hf⟩ | ⟨_, hf⟩
      · exact Scr.trans hs (sX3_gather_151 ha0 ih _ _ _ _ hf)
      · exact Scr.trans hs (sX3_gather_109 ha0 (sX3_gather_138 ha0 ih) ea_N _ _ _ _ _ hf)
theorem sX3_gather_80 {res : eM} {a0 : Nat} (ha0 : a0 = 50 ∨ a0 = 60) : ∀ (x1 : Int32) (x2 : Int32) (M : eM), fX3_gather_80 a0 x1 x2 M = some res → Scr M res := by
  intro x1 x2 M hf
  replace hf := (fX3_gather_80.eq_1 ..).symm.trans hf
  exact Scr.trans Scr.rf (sX3_gather_82 ha0 ea_N _ _ _ _ hf)
theorem sX3_gather_0 {res : eM} {a0 : Nat} (ha0 : a0 = 50 ∨ a0 = 60) : ∀ (x1 : Int32) (x2 : Int32) (M : eM), fX3_gather_0 a0 x1 x2 M = some res → Scr M res := by
  intro x1 x2 M hf
  replace hf := (fX3_gather_0.eq_1 ..).symm.trans hf
  exact Scr.trans (Scr.rf.pI (by rcases ha0 with rfl | rfl <;> rfl)) (sX3_gather_7 ha0 (sX3_gather_80 ha0) ea_N _ _ _ _ hf)
theorem sX3_gather {res : eM} {a0 : Nat} {x1 : Int32} {x2 : Int32} (ha0 : a0 = 50 ∨ a0 = 60) {M : eM} (hf : fX3_gather a0 x1 x2 M = some res) : Scr M res := sX3_gather_0 ha0 _ _ _ hf
theorem sX5_keepsWithin_29 {res : Int32 × eM} {a0 : Nat} {a2 : Nat} {a3 : Nat} (ha0 : a0 = 51 ∨ a0 = 61) (ha2 : ∀ k, isInv a2 k = false) (ha3 : ∀ k, isInv a3 k = false) : ∀ (n : Nat) (x4 : Int32) (x5 : Int32) (x6 : Int32) (x7 : Int32) (M : eM), fX5_keepsWithin_29 a0 a2 a3 n x4 x5 x6 x7 M = some res → Scr M res.2 := by
  intro n
  induction n with
  | zero => intro x4 x5 x6 x7 M hf; cases hf
  | succ n ih =>
    intro x4 x5 x6 x7 M hf
    replace hf := (fX5_keepsWithin_29.eq_2 ..).symm.trans hf
    rcases ea_if_s hf with ⟨_, hf⟩ | ⟨_, hf⟩
    · exact scr_endi hf Scr.rf
    · obtain ⟨_, hf⟩ := ea_ck_s hf
      obtain ⟨_, hf⟩ := ea_ck_s hf
      obtain ⟨y4, _, hf⟩ := ea_lt_s hf
      obtain ⟨_, hf⟩ := ea_ck_s hf
      rcases ea_if_s hf with ⟨_, hf⟩ | ⟨_, hf⟩
      · exact scr_endi hf Scr.rf
      · obtain ⟨_, hf⟩ := ea_ck_s hf
        rcases ea_if_s hf with ⟨_, hf⟩ | ⟨_, hf⟩
        · exact Scr.trans Scr.rf (ih _ _ _ _ _ hf)
        · exact scr_endi hf Scr.rf
theorem sX5_keepsWithin_0 {res : Int32 × eM} {a0 : Nat} {a2 : Nat} {a3 : Nat} (ha0 : a0 = 51 ∨ a0 = 61) (ha2 : ∀ k, isInv a2 k = false) (ha3 : ∀ k, isInv a3 k = false) : ∀ (x1 : Int32) (x4 : Int32) (M : eM), fX5_keepsWithin_0 a0 a2 a3 x1 x4 M = some res → Scr M res.2 := by
  intro x1 x4 M hf
  replace hf := (fX5_keepsWithin_0.eq_1 ..).symm.trans hf
  obtain ⟨_, hf⟩ := ea_ck_s hf
  obtain ⟨y2, _, hf⟩ := ea_lt_s hf
  obtain ⟨_, hf⟩ := ea_ck_s hf
  obtain ⟨y5, _, hf⟩ := ea_lt_s hf
  exact Scr.trans Scr.rf (sX5_keepsWithin_29 ha0 ha2 ha3 ea_N _ _ _ _ _ hf)
theorem sX5_keepsWithin {res : Int32 × eM} {a0 : Nat} {x1 : Int32} {a2 : Nat} {a3 : Nat} {x4 : Int32} (ha0 : a0 = 51 ∨ a0 = 61) (ha2 : ∀ k, isInv a2 k = false) (ha3 : ∀ k, isInv a3 k = false) {M : eM} (hf : fX5_keepsWithin a0 a2 a3 x1 x4 M = some res) : Scr M res.2 := sX5_keepsWithin_0 ha0 ha2 ha3 _ _ _ hf
theorem sX3_narrow_56 {res : eM} {a0 : Nat} (ha0 : a0 = 50 ∨ a0 = 60) {k2 : Int32 → Int32 → Int32 → eM → Option (eM)} (hk2 : ∀ (x1 : Int32) (x2 : Int32) (x3 : Int32) (M : eM), k2 x1 x2 x3 M = some res → Scr M res) : ∀ (x1 : Int32) (x2 : Int32) (x3 : Int32) (M : eM), fX3_narrow_56 k2 a0 x1 x2 x3 M = some res → Scr M res := by
  intro x1 x2 x3 M hf
  replace hf := (fX3_narrow_56.eq_1 ..).symm.trans hf
  exact Scr.trans Scr.rf (hk2 _ _ _ _ hf)
theorem sX3_narrow_2 {res : eM} {a0 : Nat} (ha0 : a0 = 50 ∨ a0 = 60) : ∀ (n : Nat) (x1 : Int32) (x2 : Int32) (x3 : Int32) (M : eM), fX3_narrow_2 a0 n x1 x2 x3 M = some res → Scr M res := by
  intro n
  induction n with
  | zero => intro x1 x2 x3 M hf; cases hf
  | succ n ih =>
    intro x1 x2 x3 M hf
    replace hf := (fX3_narrow_2.eq_2 ..).symm.trans hf
    rcases ea_if_s hf with ⟨_, hf⟩ | ⟨_, hf⟩
    · exact scr_endv hf Scr.rf
    · obtain ⟨_, hf⟩ := ea_ck_s hf
      rcases ea_if_s hf with ⟨_, hf⟩ | ⟨_, hf⟩
      · exact Scr.trans Scr.rf (sX3_narrow_56 ha0 ih _ _ _ _ hf)
      · obtain ⟨r5, M6, he, hf⟩ := ea_ci_s hf
        have hs := Scr.trans Scr.rf (sX5_keepsWithin (by rcases ha0 with rfl | rfl <;> decide) (by rcases ha0 with rfl | rfl <;> exact fun _ => rfl) (by rcases ha0 with rfl | rfl <;> exact fun _ => rfl) he)
        rcases ea_if_s hf with ⟨_, hf⟩ | ⟨_, hf⟩
        · obtain ⟨_, hf⟩ := ea_ck_s hf
          obtain ⟨_, hf⟩ := ea_ck_s hf
          exact Scr.trans (hs.pI (by rcases ha0 with rfl | rfl <;> rfl)) (sX3_narrow_56 ha0 ih _ _ _ _ hf)
        · exact Scr.trans hs (sX3_narrow_56 ha0 ih _ _ _ _ hf)
theorem sX3_narrow_0 {res : eM} {a0 : Nat} (ha0 : a0 = 50 ∨ a0 = 60) : ∀ (x1 : Int32) (x2 : Int32) (M : eM), fX3_narrow_0 a0 x1 x2 M = some res → Scr M res := by
  intro x1 x2 M hf
  replace hf := (fX3_narrow_0.eq_1 ..).symm.trans hf
  exact Scr.trans Scr.rf (sX3_narrow_2 ha0 ea_N _ _ _ _ hf)
theorem sX3_narrow {res : eM} {a0 : Nat} {x1 : Int32} {x2 : Int32} (ha0 : a0 = 50 ∨ a0 = 60) {M : eM} (hf : fX3_narrow a0 x1 x2 M = some res) : Scr M res := sX3_narrow_0 ha0 _ _ _ hf
theorem sX3_sumUp_107 {res : eM} {a0 : Nat} (ha0 : a0 = 50 ∨ a0 = 60) {k22 : Int32 → eM → Option (eM)} (hk22 : ∀ (x1 : Int32) (M : eM), k22 x1 M = some res → Scr M res) : ∀ (x1 : Int32) (M : eM), fX3_sumUp_107 k22 a0 x1 M = some res → Scr M res := by
  intro x1 M hf
  replace hf := (fX3_sumUp_107.eq_1 ..).symm.trans hf
  exact Scr.trans Scr.rf (hk22 _ _ hf)
theorem sX3_sumUp_104 {res : eM} {a0 : Nat} (ha0 : a0 = 50 ∨ a0 = 60) {k22 : Int32 → eM → Option (eM)} (hk22 : ∀ (x1 : Int32) (M : eM), k22 x1 M = some res → Scr M res) : ∀ (x1 : Int32) (t0 : Int32) (M : eM), fX3_sumUp_104 k22 a0 x1 t0 M = some res → Scr M res := by
  intro x1 t0 M hf
  replace hf := (fX3_sumUp_104.eq_1 ..).symm.trans hf
  exact Scr.trans (Scr.rf.pI (by rcases ha0 with rfl | rfl <;> rfl)) (sX3_sumUp_107 ha0 hk22 _ _ hf)
theorem sX3_sumUp_22 {res : eM} {a0 : Nat} (ha0 : a0 = 50 ∨ a0 = 60) : ∀ (n : Nat) (x1 : Int32) (M : eM), fX3_sumUp_22 a0 n x1 M = some res → Scr M res := by
  intro n
  induction n with
  | zero => intro x1 M hf; cases hf
  | succ n ih =>
    intro x1 M hf
    replace hf := (fX3_sumUp_22.eq_2 ..).symm.trans hf
    rcases ea_if_s hf with ⟨_, hf⟩ | ⟨_, hf⟩
    · exact scr_endv hf Scr.rf
    · obtain ⟨_, hf⟩ := ea_ck_s hf
      rcases ea_if_s hf with ⟨_, hf⟩ | ⟨_, hf⟩
      · exact Scr.trans Scr.rf (sX3_sumUp_107 ha0 ih _ _ hf)
      · obtain ⟨_, hf⟩ := ea_ck_s hf
        obtain ⟨r6, M7, he, hf⟩ := ea_ci_s hf
        have hs := Scr.trans Scr.rf (sJ6_bitCount_0f7a4 he)
        obtain ⟨_, hf⟩ := ea_ck_s hf
        rcases ea_if_s hf with ⟨_, hf⟩ | ⟨_, hf⟩
        · exact Scr.trans (((hs.pI (by rcases ha0 with rfl | rfl <;> rfl)).pI (by rcases ha0 with rfl | rfl <;> rfl)).pI (by rcases ha0 with rfl | rfl <;> rfl)) (sX3_sumUp_104 ha0 ih _ _ _ hf)
        · exact Scr.trans (((hs.pI (by rcases ha0 with rfl | rfl <;> rfl)).pI (by rcases ha0 with rfl | rfl <;> rfl)).pI (by rcases ha0 with rfl | rfl <;> rfl)) (sX3_sumUp_104 ha0 ih _ _ _ hf)
theorem sX3_sumUp_0 {res : eM} {a0 : Nat} (ha0 : a0 = 50 ∨ a0 = 60) : ∀ (M : eM), fX3_sumUp_0 a0 M = some res → Scr M res := by
  intro M hf
  replace hf := (fX3_sumUp_0.eq_1 ..).symm.trans hf
  exact Scr.trans ((((Scr.rf.pI (by rcases ha0 with rfl | rfl <;> rfl)).pI (by rcases ha0 with rfl | rfl <;> rfl)).pI (by rcases ha0 with rfl | rfl <;> rfl)).pI (by rcases ha0 with rfl | rfl <;> rfl)) (sX3_sumUp_22 ha0 ea_N _ _ hf)
theorem sX3_sumUp {res : eM} {a0 : Nat} (ha0 : a0 = 50 ∨ a0 = 60) {M : eM} (hf : fX3_sumUp a0 M = some res) : Scr M res := sX3_sumUp_0 ha0  _ hf
theorem sX9_rowOf_0 {res : Int32 × eM} : ∀ (x0 : Int32) (x1 : Int32) (M : eM), fX9_rowOf_0 x0 x1 M = some res → Scr M res.2 := by
  intro x0 x1 M hf
  replace hf := (fX9_rowOf_0.eq_1 ..).symm.trans hf
  exact scr_endi hf Scr.rf
theorem sX9_rowOf {res : Int32 × eM} {x0 : Int32} {x1 : Int32} {M : eM} (hf : fX9_rowOf x0 x1 M = some res) : Scr M res.2 := sX9_rowOf_0 _ _ _ hf
theorem sX5_mix_47 {res : eM} {a0 : Nat} (ha0 : a0 = 51 ∨ a0 = 61) {k88 : Int32 → Nat → Int32 → Int32 → Int32 → eM → Option (eM)} (hk88 : ∀ (x1 : Int32) (q2 : Nat) (x3 : Int32) (x4 : Int32) (x5 : Int32) (M : eM), k88 x1 q2 x3 x4 x5 M = some res → Scr M res) : ∀ (n : Nat) (x1 : Int32) (q2 : Nat) (x3 : Int32) (x4 : Int32) (x5 : Int32) (x6 : Int32) (x7 : Int32) (M : eM), fX5_mix_47 k88 a0 n x1 q2 x3 x4 x5 x6 x7 M = some res → Scr M res := by
  intro n
  induction n with
  | zero => intro x1 q2 x3 x4 x5 x6 x7 M hf; cases hf
  | succ n ih =>
    intro x1 q2 x3 x4 x5 x6 x7 M hf
    replace hf := (fX5_mix_47.eq_2 ..).symm.trans hf
    rcases ea_if_s hf with ⟨_, hf⟩ | ⟨_, hf⟩
    · exact Scr.trans Scr.rf (hk88 _ _ _ _ _ _ hf)
    · obtain ⟨r3, M4, he, hf⟩ := ea_ci_s hf
      have hs := Scr.trans Scr.rf (sX9_rowOf he)
      obtain ⟨_, hf⟩ := ea_ck_s hf
      exact Scr.trans (hs.pI (by rcases ha0 with rfl | rfl <;> rfl)) (ih _ _ _ _ _ _ _ _ hf)
theorem sX5_mix_88 {res : eM} {a0 : Nat} (ha0 : a0 = 51 ∨ a0 = 61) {k29 : Int32 → Nat → Int32 → Int32 → Int32 → eM → Option (eM)} (hk29 : ∀ (x1 : Int32) (q2 : Nat) (x3 : Int32) (x4 : Int32) (x5 : Int32) (M : eM), k29 x1 q2 x3 x4 x5 M = some res → Scr M res) : ∀ (x1 : Int32) (q2 : Nat) (x3 : Int32) (x4 : Int32) (x5 : Int32) (M : eM), fX5_mix_88 k29 a0 x1 q2 x3 x4 x5 M = some res → Scr M res := by
  intro x1 q2 x3 x4 x5 M hf
  replace hf := (fX5_mix_88.eq_1 ..).symm.trans hf
  exact Scr.trans Scr.rf (hk29 _ _ _ _ _ _ hf)
theorem sX5_mix_29 {res : eM} {a0 : Nat} (ha0 : a0 = 51 ∨ a0 = 61) {k94 : Int32 → Nat → Int32 → eM → Option (eM)} (hk94 : ∀ (x1 : Int32) (q2 : Nat) (x3 : Int32) (M : eM), k94 x1 q2 x3 M = some res → Scr M res) : ∀ (n : Nat) (x1 : Int32) (q2 : Nat) (x3 : Int32) (x4 : Int32) (x5 : Int32) (M : eM), fX5_mix_29 k94 a0 n x1 q2 x3 x4 x5 M = some res → Scr M res := by
  intro n
  induction n with
  | zero => intro x1 q2 x3 x4 x5 M hf; cases hf
  | succ n ih =>
    intro x1 q2 x3 x4 x5 M hf
    replace hf := (fX5_mix_29.eq_2 ..).symm.trans hf
    rcases ea_if_s hf with ⟨_, hf⟩ | ⟨_, hf⟩
    · exact Scr.trans Scr.rf (hk94 _ _ _ _ hf)
    · obtain ⟨r3, M4, he, hf⟩ := ea_ci_s hf
      have hs := Scr.trans Scr.rf (sX1_takesOf he)
      exact Scr.trans hs (sX5_mix_47 ha0 (sX5_mix_88 ha0 ih) ea_N _ _ _ _ _ _ _ _ hf)
theorem sX5_mix_94 {res : eM} {a0 : Nat} (ha0 : a0 = 51 ∨ a0 = 61) {k10 : Int32 → Nat → Int32 → eM → Option (eM)} (hk10 : ∀ (x1 : Int32) (q2 : Nat) (x3 : Int32) (M : eM), k10 x1 q2 x3 M = some res → Scr M res) : ∀ (x1 : Int32) (q2 : Nat) (x3 : Int32) (M : eM), fX5_mix_94 k10 a0 x1 q2 x3 M = some res → Scr M res := by
  intro x1 q2 x3 M hf
  replace hf := (fX5_mix_94.eq_1 ..).symm.trans hf
  exact Scr.trans Scr.rf (hk10 _ _ _ _ hf)
theorem sX5_mix_10 {res : eM} {a0 : Nat} (ha0 : a0 = 51 ∨ a0 = 61) : ∀ (n : Nat) (x1 : Int32) (q2 : Nat) (x3 : Int32) (M : eM), fX5_mix_10 a0 n x1 q2 x3 M = some res → Scr M res := by
  intro n
  induction n with
  | zero => intro x1 q2 x3 M hf; cases hf
  | succ n ih =>
    intro x1 q2 x3 M hf
    replace hf := (fX5_mix_10.eq_2 ..).symm.trans hf
    rcases ea_if_s hf with ⟨_, hf⟩ | ⟨_, hf⟩
    · exact scr_endv hf Scr.rf
    · obtain ⟨r3, M4, he, hf⟩ := ea_ci_s hf
      have hs := Scr.trans Scr.rf (sX1_strengthOf he)
      exact Scr.trans hs (sX5_mix_29 ha0 (sX5_mix_94 ha0 ih) ea_N _ _ _ _ _ _ hf)
theorem sX5_mix_0 {res : eM} {a0 : Nat} (ha0 : a0 = 51 ∨ a0 = 61) : ∀ (x1 : Int32) (M : eM), fX5_mix_0 a0 x1 M = some res → Scr M res := by
  intro x1 M hf
  replace hf := (fX5_mix_0.eq_1 ..).symm.trans hf
  obtain ⟨_, hf⟩ := ea_ck_s hf
  obtain ⟨y2, _, hf⟩ := ea_lt_s hf
  exact Scr.trans Scr.rf (sX5_mix_10 ha0 ea_N _ _ _ _ hf)
theorem sX5_mix {res : eM} {a0 : Nat} {x1 : Int32} (ha0 : a0 = 51 ∨ a0 = 61) {M : eM} (hf : fX5_mix a0 x1 M = some res) : Scr M res := sX5_mix_0 ha0 _ _ hf
theorem sX3_find_75 {res : eM} {a0 : Nat} (ha0 : a0 = 50 ∨ a0 = 60) {k134 : Int32 → Nat → Int32 → Int32 → Int32 → eM → Option (eM)} (hk134 : ∀ (x2 : Int32) (q4 : Nat) (x5 : Int32) (x6 : Int32) (x7 : Int32) (M : eM), k134 x2 q4 x5 x6 x7 M = some res → Scr M res) : ∀ (n : Nat) (x2 : Int32) (q4 : Nat) (x5 : Int32) (x6 : Int32) (x7 : Int32) (x8 : Int32) (x9 : Int32) (M : eM), fX3_find_75 k134 a0 n x2 q4 x5 x6 x7 x8 x9 M = some res → Scr M res := by
  intro n
  induction n with
  | zero => intro x2 q4 x5 x6 x7 x8 x9 M hf; cases hf
  | succ n ih =>
    intro x2 q4 x5 x6 x7 x8 x9 M hf
    replace hf := (fX3_find_75.eq_2 ..).symm.trans hf
    rcases ea_if_s hf with ⟨_, hf⟩ | ⟨_, hf⟩
    · exact Scr.trans Scr.rf (hk134 _ _ _ _ _ _ hf)
    · obtain ⟨_, hf⟩ := ea_ck_s hf
      obtain ⟨r4, M5, he, hf⟩ := ea_ci_s hf
      have hs := Scr.trans Scr.rf (sX1_hoursOf he)
      obtain ⟨_, hf⟩ := ea_ck_s hf
      obtain ⟨M8, he, hf⟩ := ea_cv_s hf
      have hs := Scr.trans hs (sX5_mix (by rcases ha0 with rfl | rfl <;> decide) he)
      obtain ⟨M10, he, hf⟩ := ea_cv_s hf
      have hs := Scr.trans hs (sX3_narrow ha0 he)
      exact Scr.trans hs (ih _ _ _ _ _ _ _ _ hf)
theorem sX3_find_134 {res : eM} {a0 : Nat} (ha0 : a0 = 50 ∨ a0 = 60) {k56 : Int32 → Nat → Int32 → Int32 → Int32 → eM → Option (eM)} (hk56 : ∀ (x2 : Int32) (q4 : Nat) (x5 : Int32) (x6 : Int32) (x7 : Int32) (M : eM), k56 x2 q4 x5 x6 x7 M = some res → Scr M res) : ∀ (x2 : Int32) (q4 : Nat) (x5 : Int32) (x6 : Int32) (x7 : Int32) (M : eM), fX3_find_134 k56 a0 x2 q4 x5 x6 x7 M = some res → Scr M res := by
  intro x2 q4 x5 x6 x7 M hf
  replace hf := (fX3_find_134.eq_1 ..).symm.trans hf
  exact Scr.trans Scr.rf (hk56 _ _ _ _ _ _ hf)
theorem sX3_find_56 {res : eM} {a0 : Nat} (ha0 : a0 = 50 ∨ a0 = 60) {k140 : eM → Option (eM)} (hk140 : ∀ (M : eM), k140 M = some res → Scr M res) : ∀ (n : Nat) (x2 : Int32) (q4 : Nat) (x5 : Int32) (x6 : Int32) (x7 : Int32) (M : eM), fX3_find_56 k140 a0 n x2 q4 x5 x6 x7 M = some res → Scr M res := by
  intro n
  induction n with
  | zero => intro x2 q4 x5 x6 x7 M hf; cases hf
  | succ n ih =>
    intro x2 q4 x5 x6 x7 M hf
    replace hf := (fX3_find_56.eq_2 ..).symm.trans hf
    rcases ea_if_s hf with ⟨_, hf⟩ | ⟨_, hf⟩
    · exact Scr.trans Scr.rf (hk140 _ hf)
    · obtain ⟨r3, M4, he, hf⟩ := ea_ci_s hf
      have hs := Scr.trans Scr.rf (sX1_yearFrom he)
      exact Scr.trans hs (sX3_find_75 ha0 (sX3_find_134 ha0 ih) ea_N _ _ _ _ _ _ _ _ hf)
theorem sX3_find_140 {res : eM} {a0 : Nat} (ha0 : a0 = 50 ∨ a0 = 60) : ∀ (M : eM), fX3_find_140 a0 M = some res → Scr M res := by
  intro M hf
  replace hf := (fX3_find_140.eq_1 ..).symm.trans hf
  obtain ⟨M2, he, hf⟩ := ea_cv_s hf
  have hs := Scr.trans Scr.rf (sX3_sumUp ha0 he)
  exact scr_endv hf hs
theorem sX3_find_0 {res : eM} {a0 : Nat} (ha0 : a0 = 50 ∨ a0 = 60) : ∀ (x1 : Int32) (x2 : Int32) (x3 : Int32) (M : eM), fX3_find_0 a0 x1 x2 x3 M = some res → Scr M res := by
  intro x1 x2 x3 M hf
  replace hf := (fX3_find_0.eq_1 ..).symm.trans hf
  obtain ⟨_, hf⟩ := ea_ck_s hf
  obtain ⟨y2, _, hf⟩ := ea_lt_s hf
  obtain ⟨r5, M6, he, hf⟩ := ea_ci_s hf
  have hs := Scr.trans Scr.rf (sX1_columnOf he)
  obtain ⟨y7, _, hf⟩ := ea_lt_s hf
  obtain ⟨M10, he, hf⟩ := ea_cv_s hf
  have hs := Scr.trans hs (sX3_gather ha0 he)
  obtain ⟨M12, he, hf⟩ := ea_cv_s hf
  have hs := Scr.trans hs (sJ7_fill_fda19 (by rcases ha0 with rfl | rfl <;> exact fun _ => rfl) he)
  exact Scr.trans hs (sX3_find_56 ha0 (sX3_find_140 ha0) ea_N _ _ _ _ _ _ hf)
theorem sX3_find {res : eM} {a0 : Nat} {x1 : Int32} {x2 : Int32} {x3 : Int32} (ha0 : a0 = 50 ∨ a0 = 60) {M : eM} (hf : fX3_find a0 x1 x2 x3 M = some res) : Scr M res := sX3_find_0 ha0 _ _ _ _ hf
theorem sX3_pairPart_79 {res : Int32 × eM} {a0 : Nat} (ha0 : a0 = 50 ∨ a0 = 60) {k20 : Int32 → Int32 → Int32 → Int32 → eM → Option (Int32 × eM)} (hk20 : ∀ (x2 : Int32) (x3 : Int32) (x4 : Int32) (x5 : Int32) (M : eM), k20 x2 x3 x4 x5 M = some res → Scr M res.2) : ∀ (x2 : Int32) (x3 : Int32) (x4 : Int32) (x5 : Int32) (M : eM), fX3_pairPart_79 k20 a0 x2 x3 x4 x5 M = some res → Scr M res.2 := by
  intro x2 x3 x4 x5 M hf
  replace hf := (fX3_pairPart_79.eq_1 ..).symm.trans hf
  exact Scr.trans Scr.rf (hk20 _ _ _ _ _ hf)
theorem sX3_pairPart_20 {res : Int32 × eM} {a0 : Nat} (ha0 : a0 = 50 ∨ a0 = 60) {k54 : Int32 → Int32 → Int32 → eM → Option (Int32 × eM)} (hk54 : ∀ (x2 : Int32) (x4 : Int32) (x5 : Int32) (M : eM), k54 x2 x4 x5 M = some res → Scr M res.2) {k85 : Int32 → Int32 → Int32 → eM → Option (Int32 × eM)} (hk85 : ∀ (x2 : Int32) (x3 : Int32) (x4 : Int32) (M : eM), k85 x2 x3 x4 M = some res → Scr M res.2) : ∀ (n : Nat) (x2 : Int32) (x3 : Int32) (x4 : Int32) (x5 : Int32) (M : eM), fX3_pairPart_20 k54 k85 a0 n x2 x3 x4 x5 M = some res → Scr M res.2 := by
  intro n
  induction n with
  | zero => intro x2 x3 x4 x5 M hf; cases hf
  | succ n ih =>
    intro x2 x3 x4 x5 M hf
    replace hf := (fX3_pairPart_20.eq_2 ..).symm.trans hf
    obtain ⟨_, hf⟩ := ea_ck_s hf
    rcases ea_if_s hf with ⟨_, hf⟩ | ⟨_, hf⟩
    · exact Scr.trans Scr.rf (hk85 _ _ _ _ hf)
    · obtain ⟨_, hf⟩ := ea_ck_s hf
      rcases ea_if_s hf with ⟨_, hf⟩ | ⟨_, hf⟩
      · exact Scr.trans Scr.rf (sX3_pairPart_79 ha0 ih _ _ _ _ _ hf)
      · rcases ea_if_s hf with ⟨_, hf⟩ | ⟨_, hf⟩
        · exact Scr.trans Scr.rf (hk54 _ _ _ _ hf)
        · exact Scr.trans Scr.rf (sX3_pairPart_79 ha0 ih _ _ _ _ _ hf)
theorem sX3_pairPart_85 {res : Int32 × eM} {a0 : Nat} (ha0 : a0 = 50 ∨ a0 = 60) {k5 : Int32 → Int32 → Int32 → eM → Option (Int32 × eM)} (hk5 : ∀ (x2 : Int32) (x3 : Int32) (x4 : Int32) (M : eM), k5 x2 x3 x4 M = some res → Scr M res.2) : ∀ (x2 : Int32) (x3 : Int32) (x4 : Int32) (M : eM), fX3_pairPart_85 k5 a0 x2 x3 x4 M = some res → Scr M res.2 := by
  intro x2 x3 x4 M hf
  replace hf := (fX3_pairPart_85.eq_1 ..).symm.trans hf
  exact Scr.trans Scr.rf (hk5 _ _ _ _ hf)
theorem sX3_pairPart_5 {res : Int32 × eM} {a0 : Nat} (ha0 : a0 = 50 ∨ a0 = 60) {k54 : Int32 → Int32 → Int32 → eM → Option (Int32 × eM)} (hk54 : ∀ (x2 : Int32) (x4 : Int32) (x5 : Int32) (M : eM), k54 x2 x4 x5 M = some res → Scr M res.2) : ∀ (n : Nat) (x2 : Int32) (x3 : Int32) (x4 : Int32) (M : eM), fX3_pairPart_5 k54 a0 n x2 x3 x4 M = some res → Scr M res.2 := by
  intro n
  induction n with
  | zero => intro x2 x3 x4 M hf; cases hf
  | succ n ih =>
    intro x2 x3 x4 M hf
    replace hf := (fX3_pairPart_5.eq_2 ..).symm.trans hf
    rcases ea_if_s hf with ⟨_, hf⟩ | ⟨_, hf⟩
    · exact scr_endi hf Scr.rf
    · exact Scr.trans Scr.rf (sX3_pairPart_20 ha0 hk54 (sX3_pairPart_85 ha0 ih) ea_N _ _ _ _ _ hf)
theorem sX3_pairPart_54 {res : Int32 × eM} {a0 : Nat} (ha0 : a0 = 50 ∨ a0 = 60) : ∀ (x2 : Int32) (x4 : Int32) (x5 : Int32) (M : eM), fX3_pairPart_54 a0 x2 x4 x5 M = some res → Scr M res.2 := by
  intro x2 x4 x5 M hf
  replace hf := (fX3_pairPart_54.eq_1 ..).symm.trans hf
  rcases ea_if_s hf with ⟨_, hf⟩ | ⟨_, hf⟩
  · obtain ⟨_, hf⟩ := ea_ck_s hf
    obtain ⟨r4, M5, he, hf⟩ := ea_ci_s hf
    have hs := Scr.trans Scr.rf (sX1_yearFrom he)
    exact scr_endi hf hs
  · exact scr_endi hf Scr.rf
theorem sX3_pairPart_0 {res : Int32 × eM} {a0 : Nat} (ha0 : a0 = 50 ∨ a0 = 60) : ∀ (x1 : Int32) (x2 : Int32) (M : eM), fX3_pairPart_0 a0 x1 x2 M = some res → Scr M res.2 := by
  intro x1 x2 M hf
  replace hf := (fX3_pairPart_0.eq_1 ..).symm.trans hf
  exact Scr.trans Scr.rf (sX3_pairPart_5 ha0 (sX3_pairPart_54 ha0) ea_N _ _ _ _ hf)
theorem sX3_pairPart {res : Int32 × eM} {a0 : Nat} {x1 : Int32} {x2 : Int32} (ha0 : a0 = 50 ∨ a0 = 60) {M : eM} (hf : fX3_pairPart a0 x1 x2 M = some res) : Scr M res.2 := sX3_pairPart_0 ha0 _ _ _ hf
theorem sX8_isBlank_32 {res : Int32 × eM} {a0 : Nat} : ∀ (n : Nat) (x1 : Int32) (x2 : Int32) (x3 : Int32) (M : eM), fX8_isBlank_32 a0 n x1 x2 x3 M = some res → Scr M res.2 := by
  intro n
  induction n with
  | zero => intro x1 x2 x3 M hf; cases hf
  | succ n ih =>
    intro x1 x2 x3 M hf
    replace hf := (fX8_isBlank_32.eq_2 ..).symm.trans hf
    rcases ea_if_s hf with ⟨_, hf⟩ | ⟨_, hf⟩
    · exact scr_endi hf Scr.rf
    · obtain ⟨r3, M4, he, hf⟩ := ea_ci_s hf
      have hs := Scr.trans Scr.rf (sX8_isTriedOf he)
      rcases ea_if_s hf with ⟨_, hf⟩ | ⟨_, hf⟩
      · exact Scr.trans hs (ih _ _ _ _ hf)
      · exact scr_endi hf hs
theorem sX8_isBlank_0 {res : Int32 × eM} {a0 : Nat} : ∀ (x1 : Int32) (x2 : Int32) (M : eM), fX8_isBlank_0 a0 x1 x2 M = some res → Scr M res.2 := by
  intro x1 x2 M hf
  replace hf := (fX8_isBlank_0.eq_1 ..).symm.trans hf
  obtain ⟨r2, M3, he, hf⟩ := ea_ci_s hf
  have hs := Scr.trans Scr.rf (sX8_latestLook he)
  obtain ⟨r5, M6, he, hf⟩ := ea_ci_s hf
  have hs := Scr.trans hs (sX8_isSeen he)
  rcases ea_if_s hf with ⟨_, hf⟩ | ⟨_, hf⟩
  · obtain ⟨r9, M10, he, hf⟩ := ea_ci_s hf
    have hs := Scr.trans hs (sX8_latestLook he)
    obtain ⟨r12, M13, he, hf⟩ := ea_ci_s hf
    have hs := Scr.trans hs (sX8_isSeen he)
    rcases ea_if_s hf with ⟨_, hf⟩ | ⟨_, hf⟩
    · exact Scr.trans hs (sX8_isBlank_32 ea_N _ _ _ _ hf)
    · exact scr_endi hf hs
  · exact scr_endi hf hs
theorem sX8_isBlank {res : Int32 × eM} {a0 : Nat} {x1 : Int32} {x2 : Int32} {M : eM} (hf : fX8_isBlank a0 x1 x2 M = some res) : Scr M res.2 := sX8_isBlank_0 _ _ _ hf
theorem sX10_bear_150 {res : Int32 × eM} {k39 : Int32 → Int32 → Int32 → Int32 → Int32 → eM → Option (Int32 × eM)} (hk39 : ∀ (x1 : Int32) (x2 : Int32) (x3 : Int32) (x4 : Int32) (x5 : Int32) (M : eM), k39 x1 x2 x3 x4 x5 M = some res → Scr M res.2) : ∀ (x1 : Int32) (x2 : Int32) (x3 : Int32) (x4 : Int32) (x5 : Int32) (M : eM), fX10_bear_150 k39 x1 x2 x3 x4 x5 M = some res → Scr M res.2 := by
  intro x1 x2 x3 x4 x5 M hf
  replace hf := (fX10_bear_150.eq_1 ..).symm.trans hf
  exact Scr.trans Scr.rf (hk39 _ _ _ _ _ _ hf)
theorem sX10_bear_39 {res : Int32 × eM} : ∀ (n : Nat) (x1 : Int32) (x2 : Int32) (x3 : Int32) (x4 : Int32) (x5 : Int32) (M : eM), fX10_bear_39 n x1 x2 x3 x4 x5 M = some res → Scr M res.2 := by
  intro n
  induction n with
  | zero => intro x1 x2 x3 x4 x5 M hf; cases hf
  | succ n ih =>
    intro x1 x2 x3 x4 x5 M hf
    replace hf := (fX10_bear_39.eq_2 ..).symm.trans hf
    obtain ⟨_, hf⟩ := ea_ck_s hf
    obtain ⟨r3, M4, he, hf⟩ := ea_ci_s hf
    have hs := Scr.trans Scr.rf (sX1_cells he)
    rcases ea_if_s hf with ⟨_, hf⟩ | ⟨_, hf⟩
    · exact scr_endi hf hs
    · obtain ⟨r7, M8, he, hf⟩ := ea_ci_s hf
      have hs := Scr.trans hs (sX8_isBlank he)
      rcases ea_if_s hf with ⟨_, hf⟩ | ⟨_, hf⟩
      · obtain ⟨M11, he, hf⟩ := ea_cv_s hf
        have hs := Scr.trans hs (sX3_find (by decide) he)
        rcases ea_if_s hf with ⟨_, hf⟩ | ⟨_, hf⟩
        · obtain ⟨_, hf⟩ := ea_ck_s hf
          obtain ⟨_, hf⟩ := ea_ck_s hf
          obtain ⟨r16, M17, he, hf⟩ := ea_ci_s hf
          have hs := Scr.trans hs (sX1_columnOf he)
          obtain ⟨r19, M20, he, hf⟩ := ea_ci_s hf
          have hs := Scr.trans hs (sX3_pairPart (by decide) he)
          obtain ⟨r22, M23, he, hf⟩ := ea_ci_s hf
          have hs := Scr.trans hs (sX1_hoursOf he)
          obtain ⟨r25, M26, he, hf⟩ := ea_ci_s hf
          have hs := Scr.trans hs (sX10_yearsBorne he)
          exact Scr.trans hs (sX10_bear_150 ih _ _ _ _ _ _ hf)
        · exact Scr.trans hs (sX10_bear_150 ih _ _ _ _ _ _ hf)
      · exact Scr.trans hs (sX10_bear_150 ih _ _ _ _ _ _ hf)
theorem sX10_bear_0 {res : Int32 × eM} : ∀ (x1 : Int32) (x2 : Int32) (x3 : Int32) (M : eM), fX10_bear_0 x1 x2 x3 M = some res → Scr M res.2 := by
  intro x1 x2 x3 M hf
  replace hf := (fX10_bear_0.eq_1 ..).symm.trans hf
  obtain ⟨r2, M3, he, hf⟩ := ea_ci_s hf
  have hs := Scr.trans Scr.rf (sX10_isStory he)
  rcases ea_if_s hf with ⟨_, hf⟩ | ⟨_, hf⟩
  · exact scr_endi hf hs
  · obtain ⟨r6, M7, he, hf⟩ := ea_ci_s hf
    have hs := Scr.trans hs (sX10_isWithin he)
    rcases ea_if_s hf with ⟨_, hf⟩ | ⟨_, hf⟩
    · exact scr_endi hf hs
    · obtain ⟨r10, M11, he, hf⟩ := ea_ci_s hf
      have hs := Scr.trans hs (sX10_isWithin he)
      rcases ea_if_s hf with ⟨_, hf⟩ | ⟨_, hf⟩
      · exact scr_endi hf hs
      · exact Scr.trans hs (sX10_bear_39 ea_N _ _ _ _ _ _ hf)
theorem sX10_bear {res : Int32 × eM} {x1 : Int32} {x2 : Int32} {x3 : Int32} {M : eM} (hf : fX10_bear x1 x2 x3 M = some res) : Scr M res.2 := sX10_bear_0 _ _ _ _ hf
theorem sX10_isStep_0 {res : Int32 × eM} : ∀ (x0 : Int32) (M : eM), fX10_isStep_0 x0 M = some res → Scr M res.2 := by
  intro x0 M hf
  replace hf := (fX10_isStep_0.eq_1 ..).symm.trans hf
  obtain ⟨r2, M3, he, hf⟩ := ea_ci_s hf
  have hs := Scr.trans Scr.rf (sX10_isWithin he)
  obtain ⟨_, hf⟩ := ea_ck_s hf
  exact scr_endi hf hs
theorem sX10_isStep {res : Int32 × eM} {x0 : Int32} {M : eM} (hf : fX10_isStep x0 M = some res) : Scr M res.2 := sX10_isStep_0 _ _ hf
theorem sX10_mayFit_0 {res : Int32 × eM} : ∀ (x1 : Int32) (x2 : Int32) (x3 : Int32) (M : eM), fX10_mayFit_0 x1 x2 x3 M = some res → Scr M res.2 := by
  intro x1 x2 x3 M hf
  replace hf := (fX10_mayFit_0.eq_1 ..).symm.trans hf
  obtain ⟨r2, M3, he, hf⟩ := ea_ci_s hf
  have hs := Scr.trans Scr.rf (sX10_isCell he)
  rcases ea_if_s hf with ⟨_, hf⟩ | ⟨_, hf⟩
  · exact scr_endi hf hs
  · obtain ⟨r6, M7, he, hf⟩ := ea_ci_s hf
    have hs := Scr.trans hs (sX10_isStory he)
    rcases ea_if_s hf with ⟨_, hf⟩ | ⟨_, hf⟩
    · exact scr_endi hf hs
    · obtain ⟨r10, M11, he, hf⟩ := ea_ci_s hf
      have hs := Scr.trans hs (sX10_isStep he)
      rcases ea_if_s hf with ⟨_, hf⟩ | ⟨_, hf⟩
      · exact scr_endi hf hs
      · exact scr_endi hf hs
theorem sX10_mayFit {res : Int32 × eM} {x1 : Int32} {x2 : Int32} {x3 : Int32} {M : eM} (hf : fX10_mayFit x1 x2 x3 M = some res) : Scr M res.2 := sX10_mayFit_0 _ _ _ _ hf
theorem sX10_sureAmong_40 {res : Int32 × eM} {k6 : Int32 → Int32 → Int32 → Int32 → eM → Option (Int32 × eM)} (hk6 : ∀ (x1 : Int32) (x3 : Int32) (x4 : Int32) (x5 : Int32) (M : eM), k6 x1 x3 x4 x5 M = some res → Scr M res.2) : ∀ (x1 : Int32) (x3 : Int32) (x5 : Int32) (t0 : Int32) (t1 : Int32) (M : eM), fX10_sureAmong_40 k6 x1 x3 x5 t0 t1 M = some res → Scr M res.2 := by
  intro x1 x3 x5 t0 t1 M hf
  replace hf := (fX10_sureAmong_40.eq_1 ..).symm.trans hf
  exact Scr.trans Scr.rf (hk6 _ _ _ _ _ hf)
theorem sX10_sureAmong_6 {res : Int32 × eM} : ∀ (n : Nat) (x1 : Int32) (x3 : Int32) (x4 : Int32) (x5 : Int32) (M : eM), fX10_sureAmong_6 n x1 x3 x4 x5 M = some res → Scr M res.2 := by
  intro n
  induction n with
  | zero => intro x1 x3 x4 x5 M hf; cases hf
  | succ n ih =>
    intro x1 x3 x4 x5 M hf
    replace hf := (fX10_sureAmong_6.eq_2 ..).symm.trans hf
    rcases ea_if_s hf with ⟨_, hf⟩ | ⟨_, hf⟩
    · exact scr_endi hf Scr.rf
    · rcases ea_if_s hf with ⟨_, hf⟩ | ⟨_, hf⟩
      · exact scr_endi hf Scr.rf
      · obtain ⟨_, hf⟩ := ea_ck_s hf
        rcases ea_if_s hf with ⟨_, hf⟩ | ⟨_, hf⟩
        · exact Scr.trans Scr.rf (sX10_sureAmong_40 ih _ _ _ _ _ _ hf)
        · exact Scr.trans Scr.rf (sX10_sureAmong_40 ih _ _ _ _ _ _ hf)
theorem sX10_sureAmong_0 {res : Int32 × eM} : ∀ (x1 : Int32) (x2 : Int32) (x3 : Int32) (M : eM), fX10_sureAmong_0 x1 x2 x3 M = some res → Scr M res.2 := by
  intro x1 x2 x3 M hf
  replace hf := (fX10_sureAmong_0.eq_1 ..).symm.trans hf
  exact Scr.trans Scr.rf (sX10_sureAmong_6 ea_N _ _ _ _ _ hf)
theorem sX10_sureAmong {res : Int32 × eM} {x1 : Int32} {x2 : Int32} {x3 : Int32} {M : eM} (hf : fX10_sureAmong x1 x2 x3 M = some res) : Scr M res.2 := sX10_sureAmong_0 _ _ _ _ hf
theorem sX10_sureThread_0 {res : Int32 × eM} : ∀ (x1 : Int32) (x2 : Int32) (x3 : Int32) (M : eM), fX10_sureThread_0 x1 x2 x3 M = some res → Scr M res.2 := by
  intro x1 x2 x3 M hf
  replace hf := (fX10_sureThread_0.eq_1 ..).symm.trans hf
  obtain ⟨r2, M3, he, hf⟩ := ea_ci_s hf
  have hs := Scr.trans Scr.rf (sX8_isBlank he)
  rcases ea_if_s hf with ⟨_, hf⟩ | ⟨_, hf⟩
  · obtain ⟨M6, he, hf⟩ := ea_cv_s hf
    have hs := Scr.trans hs (sX3_find (by decide) he)
    rcases ea_if_s hf with ⟨_, hf⟩ | ⟨_, hf⟩
    · exact scr_endi hf hs
    · exact scr_endi hf hs
  · exact scr_endi hf hs
theorem sX10_sureThread {res : Int32 × eM} {x1 : Int32} {x2 : Int32} {x3 : Int32} {M : eM} (hf : fX10_sureThread x1 x2 x3 M = some res) : Scr M res.2 := sX10_sureThread_0 _ _ _ _ hf
theorem sX1_cellBeside_80 {res : Int32 × eM} {a0 : Nat} : ∀ (x4 : Int32) (x5 : Int32) (M : eM), fX1_cellBeside_80 a0 x4 x5 M = some res → Scr M res.2 := by
  intro x4 x5 M hf
  replace hf := (fX1_cellBeside_80.eq_1 ..).symm.trans hf
  exact scr_endi hf Scr.rf
theorem sX1_cellBeside_65 {res : Int32 × eM} {a0 : Nat} : ∀ (x2 : Int32) (x3 : Int32) (x4 : Int32) (x5 : Int32) (t0 : Int32) (M : eM), fX1_cellBeside_65 a0 x2 x3 x4 x5 t0 M = some res → Scr M res.2 := by
  intro x2 x3 x4 x5 t0 M hf
  replace hf := (fX1_cellBeside_65.eq_1 ..).symm.trans hf
  rcases ea_if_s hf with ⟨_, hf⟩ | ⟨_, hf⟩
  · exact scr_endi hf Scr.rf
  · rcases ea_if_s hf with ⟨_, hf⟩ | ⟨_, hf⟩
    · rcases ea_if_s hf with ⟨_, hf⟩ | ⟨_, hf⟩
      · exact scr_endi hf Scr.rf
      · exact Scr.trans Scr.rf (sX1_cellBeside_80 _ _ _ hf)
    · exact Scr.trans Scr.rf (sX1_cellBeside_80 _ _ _ hf)
theorem sX1_cellBeside_64 {res : Int32 × eM} {a0 : Nat} : ∀ (x2 : Int32) (x3 : Int32) (x4 : Int32) (x5 : Int32) (M : eM), fX1_cellBeside_64 a0 x2 x3 x4 x5 M = some res → Scr M res.2 := by
  intro x2 x3 x4 x5 M hf
  replace hf := (fX1_cellBeside_64.eq_1 ..).symm.trans hf
  exact Scr.trans Scr.rf (sX1_cellBeside_65 _ _ _ _ _ _ hf)
theorem sX1_cellBeside_26 {res : Int32 × eM} {a0 : Nat} : ∀ (x2 : Int32) (x3 : Int32) (x4 : Int32) (t0 : Int32) (M : eM), fX1_cellBeside_26 a0 x2 x3 x4 t0 M = some res → Scr M res.2 := by
  intro x2 x3 x4 t0 M hf
  replace hf := (fX1_cellBeside_26.eq_1 ..).symm.trans hf
  obtain ⟨r2, M3, he, hf⟩ := ea_ci_s hf
  have hs := Scr.trans Scr.rf (sX10_isWithin he)
  rcases ea_if_s hf with ⟨_, hf⟩ | ⟨_, hf⟩
  · exact Scr.trans hs (sX1_cellBeside_64 _ _ _ _ _ hf)
  · obtain ⟨r6, M7, he, hf⟩ := ea_ci_s hf
    have hs := Scr.trans hs (sX10_isWithin he)
    rcases ea_if_s hf with ⟨_, hf⟩ | ⟨_, hf⟩
    · exact Scr.trans hs (sX1_cellBeside_64 _ _ _ _ _ hf)
    · exact Scr.trans hs (sX1_cellBeside_65 _ _ _ _ _ _ hf)
theorem sX1_cellBeside_0 {res : Int32 × eM} {a0 : Nat} : ∀ (x1 : Int32) (x2 : Int32) (x3 : Int32) (M : eM), fX1_cellBeside_0 a0 x1 x2 x3 M = some res → Scr M res.2 := by
  intro x1 x2 x3 M hf
  replace hf := (fX1_cellBeside_0.eq_1 ..).symm.trans hf
  obtain ⟨r2, M3, he, hf⟩ := ea_ci_s hf
  have hs := Scr.trans Scr.rf (sX1_columnOf he)
  rcases ea_if_s hf with ⟨_, hf⟩ | ⟨_, hf⟩
  · exact Scr.trans hs (sX1_cellBeside_26 _ _ _ _ _ hf)
  · obtain ⟨_, hf⟩ := ea_ck_s hf
    exact Scr.trans hs (sX1_cellBeside_26 _ _ _ _ _ hf)
theorem sX1_cellBeside {res : Int32 × eM} {a0 : Nat} {x1 : Int32} {x2 : Int32} {x3 : Int32} {M : eM} (hf : fX1_cellBeside a0 x1 x2 x3 M = some res) : Scr M res.2 := sX1_cellBeside_0 _ _ _ _ hf
theorem sX10_beside_95 {res : Int32 × eM} {k29 : Int32 → Int32 → Int32 → Int32 → Int32 → Int32 → eM → Option (Int32 × eM)} (hk29 : ∀ (x1 : Int32) (x2 : Int32) (x3 : Int32) (x4 : Int32) (x5 : Int32) (x6 : Int32) (M : eM), k29 x1 x2 x3 x4 x5 x6 M = some res → Scr M res.2) : ∀ (x1 : Int32) (x2 : Int32) (x3 : Int32) (x4 : Int32) (x5 : Int32) (x6 : Int32) (M : eM), fX10_beside_95 k29 x1 x2 x3 x4 x5 x6 M = some res → Scr M res.2 := by
  intro x1 x2 x3 x4 x5 x6 M hf
  replace hf := (fX10_beside_95.eq_1 ..).symm.trans hf
  exact Scr.trans Scr.rf (hk29 _ _ _ _ _ _ _ hf)
theorem sX10_beside_91 {res : Int32 × eM} {k29 : Int32 → Int32 → Int32 → Int32 → Int32 → Int32 → eM → Option (Int32 × eM)} (hk29 : ∀ (x1 : Int32) (x2 : Int32) (x3 : Int32) (x4 : Int32) (x5 : Int32) (x6 : Int32) (M : eM), k29 x1 x2 x3 x4 x5 x6 M = some res → Scr M res.2) : ∀ (x1 : Int32) (x2 : Int32) (x3 : Int32) (x4 : Int32) (x5 : Int32) (x6 : Int32) (t0 : Int32) (t1 : Int32) (M : eM), fX10_beside_91 k29 x1 x2 x3 x4 x5 x6 t0 t1 M = some res → Scr M res.2 := by
  intro x1 x2 x3 x4 x5 x6 t0 t1 M hf
  replace hf := (fX10_beside_91.eq_1 ..).symm.trans hf
  obtain ⟨_, hf⟩ := ea_ck_s hf
  exact Scr.trans (Scr.rf.pI rfl) (sX10_beside_95 hk29 _ _ _ _ _ _ _ hf)
theorem sX10_beside_29 {res : Int32 × eM} {k101 : Int32 → Int32 → eM → Option (Int32 × eM)} (hk101 : ∀ (x4 : Int32) (x5 : Int32) (M : eM), k101 x4 x5 M = some res → Scr M res.2) : ∀ (n : Nat) (x1 : Int32) (x2 : Int32) (x3 : Int32) (x4 : Int32) (x5 : Int32) (x6 : Int32) (M : eM), fX10_beside_29 k101 n x1 x2 x3 x4 x5 x6 M = some res → Scr M res.2 := by
  intro n
  induction n with
  | zero => intro x1 x2 x3 x4 x5 x6 M hf; cases hf
  | succ n ih =>
    intro x1 x2 x3 x4 x5 x6 M hf
    replace hf := (fX10_beside_29.eq_2 ..).symm.trans hf
    rcases ea_if_s hf with ⟨_, hf⟩ | ⟨_, hf⟩
    · exact Scr.trans Scr.rf (hk101 _ _ _ hf)
    · obtain ⟨_, hf⟩ := ea_ck_s hf
      obtain ⟨r4, M5, he, hf⟩ := ea_ci_s hf
      have hs := Scr.trans Scr.rf (sX1_cellBeside he)
      rcases ea_if_s hf with ⟨_, hf⟩ | ⟨_, hf⟩
      · exact Scr.trans hs (sX10_beside_95 ih _ _ _ _ _ _ _ hf)
      · rcases ea_if_s hf with ⟨_, hf⟩ | ⟨_, hf⟩
        · exact Scr.trans hs (sX10_beside_91 ih _ _ _ _ _ _ _ _ _ hf)
        · obtain ⟨r9, M10, he, hf⟩ := ea_ci_s hf
          have hs := Scr.trans hs (sX10_sureThread he)
          exact Scr.trans hs (sX10_beside_91 ih _ _ _ _ _ _ _ _ _ hf)
theorem sX10_beside_201 {res : Int32 × eM} {k119 : Int32 → Int32 → Int32 → Int32 → Int32 → eM → Option (Int32 × eM)} (hk119 : ∀ (x4 : Int32) (x5 : Int32) (x6 : Int32) (x7 : Int32) (x8 : Int32) (M : eM), k119 x4 x5 x6 x7 x8 M = some res → Scr M res.2) : ∀ (x4 : Int32) (x5 : Int32) (x6 : Int32) (x7 : Int32) (x8 : Int32) (M : eM), fX10_beside_201 k119 x4 x5 x6 x7 x8 M = some res → Scr M res.2 := by
  intro x4 x5 x6 x7 x8 M hf
  replace hf := (fX10_beside_201.eq_1 ..).symm.trans hf
  exact Scr.trans Scr.rf (hk119 _ _ _ _ _ _ hf)
theorem sX10_beside_188 {res : Int32 × eM} {k119 : Int32 → Int32 → Int32 → Int32 → Int32 → eM → Option (Int32 × eM)} (hk119 : ∀ (x4 : Int32) (x5 : Int32) (x6 : Int32) (x7 : Int32) (x8 : Int32) (M : eM), k119 x4 x5 x6 x7 x8 M = some res → Scr M res.2) : ∀ (x4 : Int32) (x5 : Int32) (x8 : Int32) (x9 : Int32) (M : eM), fX10_beside_188 k119 x4 x5 x8 x9 M = some res → Scr M res.2 := by
  intro x4 x5 x8 x9 M hf
  replace hf := (fX10_beside_188.eq_1 ..).symm.trans hf
  obtain ⟨_, hf⟩ := ea_ck_s hf
  exact Scr.trans Scr.rf (sX10_beside_201 hk119 _ _ _ _ _ _ hf)
theorem sX10_beside_155 {res : Int32 × eM} {k119 : Int32 → Int32 → Int32 → Int32 → Int32 → eM → Option (Int32 × eM)} (hk119 : ∀ (x4 : Int32) (x5 : Int32) (x6 : Int32) (x7 : Int32) (x8 : Int32) (M : eM), k119 x4 x5 x6 x7 x8 M = some res → Scr M res.2) : ∀ (x4 : Int32) (x5 : Int32) (x6 : Int32) (x7 : Int32) (x8 : Int32) (t0 : Int32) (M : eM), fX10_beside_155 k119 x4 x5 x6 x7 x8 t0 M = some res → Scr M res.2 := by
  intro x4 x5 x6 x7 x8 t0 M hf
  replace hf := (fX10_beside_155.eq_1 ..).symm.trans hf
  rcases ea_if_s hf with ⟨_, hf⟩ | ⟨_, hf⟩
  · exact Scr.trans Scr.rf (sX10_beside_188 hk119 _ _ _ _ _ hf)
  · rcases ea_if_s hf with ⟨_, hf⟩ | ⟨_, hf⟩
    · exact Scr.trans Scr.rf (sX10_beside_201 hk119 _ _ _ _ _ _ hf)
    · rcases ea_if_s hf with ⟨_, hf⟩ | ⟨_, hf⟩
      · obtain ⟨_, hf⟩ := ea_ck_s hf
        rcases ea_if_s hf with ⟨_, hf⟩ | ⟨_, hf⟩
        · exact Scr.trans Scr.rf (sX10_beside_201 hk119 _ _ _ _ _ _ hf)
        · exact Scr.trans Scr.rf (sX10_beside_188 hk119 _ _ _ _ _ hf)
      · exact Scr.trans Scr.rf (sX10_beside_201 hk119 _ _ _ _ _ _ hf)
theorem sX10_beside_119 {res : Int32 × eM} {k207 : Int32 → Int32 → Int32 → eM → Option (Int32 × eM)} (hk207 : ∀ (x4 : Int32) (x6 : Int32) (x7 : Int32) (M : eM), k207 x4 x6 x7 M = some res → Scr M res.2) : ∀ (n : Nat) (x4 : Int32) (x5 : Int32) (x6 : Int32) (x7 : Int32) (x8 : Int32) (M : eM), fX10_beside_119 k207 n x4 x5 x6 x7 x8 M = some res → Scr M res.2 := by
  intro n
  induction n with
  | zero => intro x4 x5 x6 x7 x8 M hf; cases hf
  | succ n ih =>
    intro x4 x5 x6 x7 x8 M hf
    replace hf := (fX10_beside_119.eq_2 ..).symm.trans hf
    rcases ea_if_s hf with ⟨_, hf⟩ | ⟨_, hf⟩
    · exact Scr.trans Scr.rf (hk207 _ _ _ _ hf)
    · obtain ⟨_, hf⟩ := ea_ck_s hf
      rcases ea_if_s hf with ⟨_, hf⟩ | ⟨_, hf⟩
      · exact Scr.trans Scr.rf (sX10_beside_155 ih _ _ _ _ _ _ _ hf)
      · obtain ⟨_, hf⟩ := ea_ck_s hf
        obtain ⟨r6, M7, he, hf⟩ := ea_ci_s hf
        have hs := Scr.trans Scr.rf (sX10_sureAmong he)
        exact Scr.trans hs (sX10_beside_155 ih _ _ _ _ _ _ _ hf)
theorem sX10_beside_207 {res : Int32 × eM} : ∀ (x4 : Int32) (x6 : Int32) (x7 : Int32) (M : eM), fX10_beside_207 x4 x6 x7 M = some res → Scr M res.2 := by
  intro x4 x6 x7 M hf
  replace hf := (fX10_beside_207.eq_1 ..).symm.trans hf
  rcases ea_if_s hf with ⟨_, hf⟩ | ⟨_, hf⟩
  · exact scr_endi hf Scr.rf
  · exact scr_endi hf Scr.rf
theorem sX10_beside_101 {res : Int32 × eM} : ∀ (x4 : Int32) (x5 : Int32) (M : eM), fX10_beside_101 x4 x5 M = some res → Scr M res.2 := by
  intro x4 x5 M hf
  replace hf := (fX10_beside_101.eq_1 ..).symm.trans hf
  rcases ea_if_s hf with ⟨_, hf⟩ | ⟨_, hf⟩
  · exact scr_endi hf Scr.rf
  · exact Scr.trans Scr.rf (sX10_beside_119 (sX10_beside_207) ea_N _ _ _ _ _ _ hf)
theorem sX10_beside_0 {res : Int32 × eM} : ∀ (x1 : Int32) (x2 : Int32) (x3 : Int32) (x4 : Int32) (M : eM), fX10_beside_0 x1 x2 x3 x4 M = some res → Scr M res.2 := by
  intro x1 x2 x3 x4 M hf
  replace hf := (fX10_beside_0.eq_1 ..).symm.trans hf
  obtain ⟨r2, M3, he, hf⟩ := ea_ci_s hf
  have hs := Scr.trans Scr.rf (sX10_mayFit he)
  rcases ea_if_s hf with ⟨_, hf⟩ | ⟨_, hf⟩
  · exact scr_endi hf hs
  · obtain ⟨r6, M7, he, hf⟩ := ea_ci_s hf
    have hs := Scr.trans hs (sX10_isWithin he)
    rcases ea_if_s hf with ⟨_, hf⟩ | ⟨_, hf⟩
    · exact scr_endi hf hs
    · exact Scr.trans hs (sX10_beside_29 (sX10_beside_101) ea_N _ _ _ _ _ _ _ hf)
theorem sX10_beside {res : Int32 × eM} {x1 : Int32} {x2 : Int32} {x3 : Int32} {x4 : Int32} {M : eM} (hf : fX10_beside x1 x2 x3 x4 M = some res) : Scr M res.2 := sX10_beside_0 _ _ _ _ _ hf
theorem sX10_mayThrow_0 {res : Int32 × eM} : ∀ (x1 : Int32) (x2 : Int32) (x3 : Int32) (M : eM), fX10_mayThrow_0 x1 x2 x3 M = some res → Scr M res.2 := by
  intro x1 x2 x3 M hf
  replace hf := (fX10_mayThrow_0.eq_1 ..).symm.trans hf
  obtain ⟨_, hf⟩ := ea_ck_s hf
  obtain ⟨r3, M4, he, hf⟩ := ea_ci_s hf
  have hs := Scr.trans Scr.rf (sX10_isWithin he)
  rcases ea_if_s hf with ⟨_, hf⟩ | ⟨_, hf⟩
  · exact scr_endi hf hs
  · obtain ⟨r7, M8, he, hf⟩ := ea_ci_s hf
    have hs := Scr.trans hs (sX10_isStory he)
    rcases ea_if_s hf with ⟨_, hf⟩ | ⟨_, hf⟩
    · exact scr_endi hf hs
    · obtain ⟨r11, M12, he, hf⟩ := ea_ci_s hf
      have hs := Scr.trans hs (sX10_isWithin he)
      rcases ea_if_s hf with ⟨_, hf⟩ | ⟨_, hf⟩
      · exact scr_endi hf hs
      · exact scr_endi hf hs
theorem sX10_mayThrow {res : Int32 × eM} {x1 : Int32} {x2 : Int32} {x3 : Int32} {M : eM} (hf : fX10_mayThrow x1 x2 x3 M = some res) : Scr M res.2 := sX10_mayThrow_0 _ _ _ _ hf
theorem sX3_greyShade_47 {res : Int32 × eM} {a0 : Nat} (ha0 : a0 = 50 ∨ a0 = 60) {k16 : Int32 → Int32 → Int32 → Int32 → eM → Option (Int32 × eM)} (hk16 : ∀ (x1 : Int32) (x2 : Int32) (x3 : Int32) (x4 : Int32) (M : eM), k16 x1 x2 x3 x4 M = some res → Scr M res.2) : ∀ (x1 : Int32) (x2 : Int32) (x4 : Int32) (t0 : Int32) (t1 : Int32) (M : eM), fX3_greyShade_47 k16 a0 x1 x2 x4 t0 t1 M = some res → Scr M res.2 := by
  intro x1 x2 x4 t0 t1 M hf
  replace hf := (fX3_greyShade_47.eq_1 ..).symm.trans hf
  exact Scr.trans Scr.rf (hk16 _ _ _ _ _ hf)
theorem sX3_greyShade_16 {res : Int32 × eM} {a0 : Nat} (ha0 : a0 = 50 ∨ a0 = 60) {k55 : Int32 → Int32 → eM → Option (Int32 × eM)} (hk55 : ∀ (x2 : Int32) (x3 : Int32) (M : eM), k55 x2 x3 M = some res → Scr M res.2) : ∀ (n : Nat) (x1 : Int32) (x2 : Int32) (x3 : Int32) (x4 : Int32) (M : eM), fX3_greyShade_16 k55 a0 n x1 x2 x3 x4 M = some res → Scr M res.2 := by
  intro n
  induction n with
  | zero => intro x1 x2 x3 x4 M hf; cases hf
  | succ n ih =>
    intro x1 x2 x3 x4 M hf
    replace hf := (fX3_greyShade_16.eq_2 ..).symm.trans hf
    rcases ea_if_s hf with ⟨_, hf⟩ | ⟨_, hf⟩
    · exact Scr.trans Scr.rf (hk55 _ _ _ hf)
    · obtain ⟨_, hf⟩ := ea_ck_s hf
      obtain ⟨_, hf⟩ := ea_ck_s hf
      rcases ea_if_s hf with ⟨_, hf⟩ | ⟨_, hf⟩
      · exact Scr.trans Scr.rf (sX3_greyShade_47 ha0 ih _ _ _ _ _ _ hf)
      · exact Scr.trans Scr.rf (sX3_greyShade_47 ha0 ih _ _ _ _ _ _ hf)
theorem sX3_greyShade_55 {res : Int32 × eM} {a0 : Nat} (ha0 : a0 = 50 ∨ a0 = 60) : ∀ (x2 : Int32) (x3 : Int32) (M : eM), fX3_greyShade_55 a0 x2 x3 M = some res → Scr M res.2 := by
  intro x2 x3 M hf
  replace hf := (fX3_greyShade_55.eq_1 ..).symm.trans hf
  rcases ea_if_s hf with ⟨_, hf⟩ | ⟨_, hf⟩
  · exact scr_endi hf Scr.rf
  · obtain ⟨_, hf⟩ := ea_ck_s hf
    obtain ⟨_, hf⟩ := ea_ck_s hf
    exact scr_endi hf Scr.rf
theorem sX3_greyShade_12 {res : Int32 × eM} {a0 : Nat} (ha0 : a0 = 50 ∨ a0 = 60) : ∀ (x1 : Int32) (x2 : Int32) (t0 : Int32) (M : eM), fX3_greyShade_12 a0 x1 x2 t0 M = some res → Scr M res.2 := by
  intro x1 x2 t0 M hf
  replace hf := (fX3_greyShade_12.eq_1 ..).symm.trans hf
  exact Scr.trans Scr.rf (sX3_greyShade_16 ha0 (sX3_greyShade_55 ha0) ea_N _ _ _ _ _ hf)
theorem sX3_greyShade_0 {res : Int32 × eM} {a0 : Nat} (ha0 : a0 = 50 ∨ a0 = 60) : ∀ (x1 : Int32) (x2 : Int32) (M : eM), fX3_greyShade_0 a0 x1 x2 M = some res → Scr M res.2 := by
  intro x1 x2 M hf
  replace hf := (fX3_greyShade_0.eq_1 ..).symm.trans hf
  rcases ea_if_s hf with ⟨_, hf⟩ | ⟨_, hf⟩
  · exact Scr.trans Scr.rf (sX3_greyShade_12 ha0 _ _ _ _ hf)
  · exact Scr.trans Scr.rf (sX3_greyShade_12 ha0 _ _ _ _ hf)
theorem sX3_greyShade {res : Int32 × eM} {a0 : Nat} {x1 : Int32} {x2 : Int32} (ha0 : a0 = 50 ∨ a0 = 60) {M : eM} (hf : fX3_greyShade a0 x1 x2 M = some res) : Scr M res.2 := sX3_greyShade_0 ha0 _ _ _ hf
theorem sX5_shadeOf_0 {res : Int32 × eM} {a0 : Nat} (ha0 : a0 = 51 ∨ a0 = 61) : ∀ (x1 : Int32) (x2 : Int32) (M : eM), fX5_shadeOf_0 a0 x1 x2 M = some res → Scr M res.2 := by
  intro x1 x2 M hf
  replace hf := (fX5_shadeOf_0.eq_1 ..).symm.trans hf
  obtain ⟨_, hf⟩ := ea_ck_s hf
  obtain ⟨_, hf⟩ := ea_ck_s hf
  obtain ⟨_, hf⟩ := ea_ck_s hf
  obtain ⟨_, hf⟩ := ea_ck_s hf
  exact scr_endi hf Scr.rf
theorem sX5_shadeOf {res : Int32 × eM} {a0 : Nat} {x1 : Int32} {x2 : Int32} (ha0 : a0 = 51 ∨ a0 = 61) {M : eM} (hf : fX5_shadeOf a0 x1 x2 M = some res) : Scr M res.2 := sX5_shadeOf_0 ha0 _ _ _ hf
theorem sX3_measureSpan_49 {res : eM} {a0 : Nat} (ha0 : a0 = 50 ∨ a0 = 60) {k102 : Int32 → eM → Option (eM)} (hk102 : ∀ (x1 : Int32) (M : eM), k102 x1 M = some res → Scr M res) : ∀ (n : Nat) (x1 : Int32) (x2 : Int32) (M : eM), fX3_measureSpan_49 k102 a0 n x1 x2 M = some res → Scr M res := by
  intro n
  induction n with
  | zero => intro x1 x2 M hf; cases hf
  | succ n ih =>
    intro x1 x2 M hf
    replace hf := (fX3_measureSpan_49.eq_2 ..).symm.trans hf
    rcases ea_if_s hf with ⟨_, hf⟩ | ⟨_, hf⟩
    · exact Scr.trans Scr.rf (hk102 _ _ hf)
    · obtain ⟨r3, M4, he, hf⟩ := ea_ci_s hf
      have hs := Scr.trans Scr.rf (sX5_shadeOf (by rcases ha0 with rfl | rfl <;> decide) he)
      obtain ⟨_, hf⟩ := ea_ck_s hf
      obtain ⟨_, hf⟩ := ea_ck_s hf
      obtain ⟨_, hf⟩ := ea_ck_s hf
      obtain ⟨_, hf⟩ := ea_ck_s hf
      exact Scr.trans ((hs.pI (by rcases ha0 with rfl | rfl <;> rfl)).pI (by rcases ha0 with rfl | rfl <;> rfl)) (ih _ _ _ hf)
theorem sX3_measureSpan_102 {res : eM} {a0 : Nat} (ha0 : a0 = 50 ∨ a0 = 60) {k27 : Int32 → eM → Option (eM)} (hk27 : ∀ (x1 : Int32) (M : eM), k27 x1 M = some res → Scr M res) : ∀ (x1 : Int32) (M : eM), fX3_measureSpan_102 k27 a0 x1 M = some res → Scr M res := by
  intro x1 M hf
  replace hf := (fX3_measureSpan_102.eq_1 ..).symm.trans hf
  exact Scr.trans Scr.rf (hk27 _ _ hf)
theorem sX3_measureSpan_27 {res : eM} {a0 : Nat} (ha0 : a0 = 50 ∨ a0 = 60) : ∀ (n : Nat) (x1 : Int32) (M : eM), fX3_measureSpan_27 a0 n x1 M = some res → Scr M res := by
  intro n
  induction n with
  | zero => intro x1 M hf; cases hf
  | succ n ih =>
    intro x1 M hf
    replace hf := (fX3_measureSpan_27.eq_2 ..).symm.trans hf
    rcases ea_if_s hf with ⟨_, hf⟩ | ⟨_, hf⟩
    · exact scr_endv hf Scr.rf
    · obtain ⟨_, hf⟩ := ea_ck_s hf
      rcases ea_if_s hf with ⟨_, hf⟩ | ⟨_, hf⟩
      · exact Scr.trans Scr.rf (sX3_measureSpan_102 ha0 ih _ _ hf)
      · exact Scr.trans Scr.rf (sX3_measureSpan_49 ha0 (sX3_measureSpan_102 ha0 ih) ea_N _ _ _ hf)
theorem sX3_measureSpan_0 {res : eM} {a0 : Nat} (ha0 : a0 = 50 ∨ a0 = 60) : ∀ (M : eM), fX3_measureSpan_0 a0 M = some res → Scr M res := by
  intro M hf
  replace hf := (fX3_measureSpan_0.eq_1 ..).symm.trans hf
  obtain ⟨M2, he, hf⟩ := ea_cv_s hf
  have hs := Scr.trans Scr.rf (sX5_mix (by rcases ha0 with rfl | rfl <;> decide) he)
  obtain ⟨M4, he, hf⟩ := ea_cv_s hf
  have hs := Scr.trans hs (sJ7_fill_53178 (by rcases ha0 with rfl | rfl <;> exact fun _ => rfl) he)
  obtain ⟨M6, he, hf⟩ := ea_cv_s hf
  have hs := Scr.trans hs (sJ7_fill_53178 (by rcases ha0 with rfl | rfl <;> exact fun _ => rfl) he)
  exact Scr.trans hs (sX3_measureSpan_27 ha0 ea_N _ _ hf)
theorem sX3_measureSpan {res : eM} {a0 : Nat} (ha0 : a0 = 50 ∨ a0 = 60) {M : eM} (hf : fX3_measureSpan a0 M = some res) : Scr M res := sX3_measureSpan_0 ha0  _ hf
theorem sX6_placeOf_0 {res : Int32 × eM} : ∀ (x0 : Int32) (x1 : Int32) (M : eM), fX6_placeOf_0 x0 x1 M = some res → Scr M res.2 := by
  intro x0 x1 M hf
  replace hf := (fX6_placeOf_0.eq_1 ..).symm.trans hf
  exact scr_endi hf Scr.rf
theorem sX6_placeOf {res : Int32 × eM} {x0 : Int32} {x1 : Int32} {M : eM} (hf : fX6_placeOf x0 x1 M = some res) : Scr M res.2 := sX6_placeOf_0 _ _ _ hf
theorem sX6_mayDo_24 {res : Int32 × eM} : ∀ (n : Nat) (x4 : Int32) (x5 : Int32) (x6 : Int32) (x7 : Int32) (M : eM), fX6_mayDo_24 n x4 x5 x6 x7 M = some res → Scr M res.2 := by
  intro n
  induction n with
  | zero => intro x4 x5 x6 x7 M hf; cases hf
  | succ n ih =>
    intro x4 x5 x6 x7 M hf
    replace hf := (fX6_mayDo_24.eq_2 ..).symm.trans hf
    rcases ea_if_s hf with ⟨_, hf⟩ | ⟨_, hf⟩
    · exact scr_endi hf Scr.rf
    · obtain ⟨_, hf⟩ := ea_ck_s hf
      obtain ⟨_, hf⟩ := ea_ck_s hf
      obtain ⟨_, hf⟩ := ea_ck_s hf
      obtain ⟨y5, _, hf⟩ := ea_lt_s hf
      rcases ea_if_s hf with ⟨_, hf⟩ | ⟨_, hf⟩
      · exact scr_endi hf Scr.rf
      · obtain ⟨_, hf⟩ := ea_ck_s hf
        rcases ea_if_s hf with ⟨_, hf⟩ | ⟨_, hf⟩
        · exact Scr.trans Scr.rf (ih _ _ _ _ _ hf)
        · exact scr_endi hf Scr.rf
theorem sX6_mayDo_0 {res : Int32 × eM} : ∀ (x1 : Int32) (x2 : Int32) (x3 : Int32) (M : eM), fX6_mayDo_0 x1 x2 x3 M = some res → Scr M res.2 := by
  intro x1 x2 x3 M hf
  replace hf := (fX6_mayDo_0.eq_1 ..).symm.trans hf
  obtain ⟨r2, M3, he, hf⟩ := ea_ci_s hf
  have hs := Scr.trans Scr.rf (sX6_placeOf he)
  obtain ⟨r5, M6, he, hf⟩ := ea_ci_s hf
  have hs := Scr.trans hs (sX6_placeOf he)
  obtain ⟨r8, M9, he, hf⟩ := ea_ci_s hf
  have hs := Scr.trans hs (sX6_placeOf he)
  exact Scr.trans hs (sX6_mayDo_24 ea_N _ _ _ _ _ hf)
theorem sX6_mayDo {res : Int32 × eM} {x1 : Int32} {x2 : Int32} {x3 : Int32} {M : eM} (hf : fX6_mayDo x1 x2 x3 M = some res) : Scr M res.2 := sX6_mayDo_0 _ _ _ _ hf
theorem sX6_sense_63 {res : eM} {a1 : Nat} {k109 : Int32 → Int32 → Int32 → eM → Option (eM)} (hk109 : ∀ (x2 : Int32) (x3 : Int32) (x4 : Int32) (M : eM), k109 x2 x3 x4 M = some res → Scr M res) : ∀ (n : Nat) (x2 : Int32) (x3 : Int32) (x4 : Int32) (x5 : Int32) (x6 : Int32) (M : eM), fX6_sense_63 k109 a1 n x2 x3 x4 x5 x6 M = some res → Scr M res := by
  intro n
  induction n with
  | zero => intro x2 x3 x4 x5 x6 M hf; cases hf
  | succ n ih =>
    intro x2 x3 x4 x5 x6 M hf
    replace hf := (fX6_sense_63.eq_2 ..).symm.trans hf
    rcases ea_if_s hf with ⟨_, hf⟩ | ⟨_, hf⟩
    · exact Scr.trans Scr.rf (hk109 _ _ _ _ hf)
    · obtain ⟨r3, M4, he, hf⟩ := ea_ci_s hf
      have hs := Scr.trans Scr.rf (sX6_placeOf he)
      obtain ⟨_, hf⟩ := ea_ck_s hf
      obtain ⟨_, hf⟩ := ea_ck_s hf
      exact Scr.trans (hs.pI rfl) (ih _ _ _ _ _ _ hf)
theorem sX6_sense_109 {res : eM} {a1 : Nat} {k17 : Int32 → Int32 → Int32 → eM → Option (eM)} (hk17 : ∀ (x2 : Int32) (x3 : Int32) (x4 : Int32) (M : eM), k17 x2 x3 x4 M = some res → Scr M res) : ∀ (x2 : Int32) (x3 : Int32) (x4 : Int32) (M : eM), fX6_sense_109 k17 a1 x2 x3 x4 M = some res → Scr M res := by
  intro x2 x3 x4 M hf
  replace hf := (fX6_sense_109.eq_1 ..).symm.trans hf
  exact Scr.trans Scr.rf (hk17 _ _ _ _ hf)
theorem sX6_sense_17 {res : eM} {a1 : Nat} {k115 : Int32 → Int32 → eM → Option (eM)} (hk115 : ∀ (x2 : Int32) (x3 : Int32) (M : eM), k115 x2 x3 M = some res → Scr M res) : ∀ (n : Nat) (x2 : Int32) (x3 : Int32) (x4 : Int32) (M : eM), fX6_sense_17 k115 a1 n x2 x3 x4 M = some res → Scr M res := by
  intro n
  induction n with
  | zero => intro x2 x3 x4 M hf; cases hf
  | succ n ih =>
    intro x2 x3 x4 M hf
    replace hf := (fX6_sense_17.eq_2 ..).symm.trans hf
    rcases ea_if_s hf with ⟨_, hf⟩ | ⟨_, hf⟩
    · exact Scr.trans Scr.rf (hk115 _ _ _ hf)
    · obtain ⟨_, hf⟩ := ea_ck_s hf
      obtain ⟨y3, _, hf⟩ := ea_lt_s hf
      obtain ⟨_, hf⟩ := ea_ck_s hf
      obtain ⟨_, hf⟩ := ea_ck_s hf
      obtain ⟨_, hf⟩ := ea_ck_s hf
      exact Scr.trans (Scr.rf.pI rfl) (sX6_sense_63 (sX6_sense_109 ih) ea_N _ _ _ _ _ _ hf)
theorem sX6_sense_115 {res : eM} {a1 : Nat} {k2 : Int32 → Int32 → eM → Option (eM)} (hk2 : ∀ (x2 : Int32) (x3 : Int32) (M : eM), k2 x2 x3 M = some res → Scr M res) : ∀ (x2 : Int32) (x3 : Int32) (M : eM), fX6_sense_115 k2 a1 x2 x3 M = some res → Scr M res := by
  intro x2 x3 M hf
  replace hf := (fX6_sense_115.eq_1 ..).symm.trans hf
  exact Scr.trans Scr.rf (hk2 _ _ _ hf)
theorem sX6_sense_2 {res : eM} {a1 : Nat} : ∀ (n : Nat) (x2 : Int32) (x3 : Int32) (M : eM), fX6_sense_2 a1 n x2 x3 M = some res → Scr M res := by
  intro n
  induction n with
  | zero => intro x2 x3 M hf; cases hf
  | succ n ih =>
    intro x2 x3 M hf
    replace hf := (fX6_sense_2.eq_2 ..).symm.trans hf
    rcases ea_if_s hf with ⟨_, hf⟩ | ⟨_, hf⟩
    · exact scr_endv hf Scr.rf
    · obtain ⟨_, hf⟩ := ea_ck_s hf
      exact Scr.trans (Scr.rf.pI rfl) (sX6_sense_17 (sX6_sense_115 ih) ea_N _ _ _ _ hf)
theorem sX6_sense_0 {res : eM} {a1 : Nat} : ∀ (x2 : Int32) (M : eM), fX6_sense_0 a1 x2 M = some res → Scr M res := by
  intro x2 M hf
  replace hf := (fX6_sense_0.eq_1 ..).symm.trans hf
  exact Scr.trans Scr.rf (sX6_sense_2 ea_N _ _ _ hf)
theorem sX6_sense {res : eM} {a1 : Nat} {x2 : Int32} {M : eM} (hf : fX6_sense a1 x2 M = some res) : Scr M res := sX6_sense_0 _ _ hf
theorem sX6_weigh_27 {res : eM} {k93 : Int32 → Int32 → Int32 → Int32 → eM → Option (eM)} (hk93 : ∀ (x1 : Int32) (x2 : Int32) (x3 : Int32) (x7 : Int32) (M : eM), k93 x1 x2 x3 x7 M = some res → Scr M res) : ∀ (n : Nat) (x1 : Int32) (x2 : Int32) (x3 : Int32) (x4 : Int32) (x5 : Int32) (x6 : Int32) (x7 : Int32) (x8 : Int32) (M : eM), fX6_weigh_27 k93 n x1 x2 x3 x4 x5 x6 x7 x8 M = some res → Scr M res := by
  intro n
  induction n with
  | zero => intro x1 x2 x3 x4 x5 x6 x7 x8 M hf; cases hf
  | succ n ih =>
    intro x1 x2 x3 x4 x5 x6 x7 x8 M hf
    replace hf := (fX6_weigh_27.eq_2 ..).symm.trans hf
    rcases ea_if_s hf with ⟨_, hf⟩ | ⟨_, hf⟩
    · exact Scr.trans Scr.rf (hk93 _ _ _ _ _ hf)
    · obtain ⟨_, hf⟩ := ea_ck_s hf
      obtain ⟨_, hf⟩ := ea_ck_s hf
      obtain ⟨_, hf⟩ := ea_ck_s hf
      obtain ⟨y5, _, hf⟩ := ea_lt_s hf
      obtain ⟨_, hf⟩ := ea_ck_s hf
      obtain ⟨y8, _, hf⟩ := ea_lt_s hf
      exact Scr.trans Scr.rf (ih _ _ _ _ _ _ _ _ _ hf)
theorem sX6_weigh_127 {res : eM} : ∀ (x1 : Int32) (x2 : Int32) (x3 : Int32) (x7 : Int32) (x8 : Int32) (M : eM), fX6_weigh_127 x1 x2 x3 x7 x8 M = some res → Scr M res := by
  intro x1 x2 x3 x7 x8 M hf
  replace hf := (fX6_weigh_127.eq_1 ..).symm.trans hf
  exact scr_endv hf (((((Scr.rf.pI rfl).pI rfl).pI rfl).pI rfl).pI rfl)
theorem sX6_weigh_93 {res : eM} : ∀ (x1 : Int32) (x2 : Int32) (x3 : Int32) (x7 : Int32) (M : eM), fX6_weigh_93 x1 x2 x3 x7 M = some res → Scr M res := by
  intro x1 x2 x3 x7 M hf
  replace hf := (fX6_weigh_93.eq_1 ..).symm.trans hf
  rcases ea_if_s hf with ⟨_, hf⟩ | ⟨_, hf⟩
  · exact Scr.trans Scr.rf (sX6_weigh_127 _ _ _ _ _ _ hf)
  · rcases ea_if_s hf with ⟨_, hf⟩ | ⟨_, hf⟩
    · rcases ea_if_s hf with ⟨_, hf⟩ | ⟨_, hf⟩
      · exact scr_endv hf Scr.rf
      · exact Scr.trans Scr.rf (sX6_weigh_127 _ _ _ _ _ _ hf)
    · exact scr_endv hf Scr.rf
theorem sX6_weigh_0 {res : eM} : ∀ (x1 : Int32) (x2 : Int32) (x3 : Int32) (M : eM), fX6_weigh_0 x1 x2 x3 M = some res → Scr M res := by
  intro x1 x2 x3 M hf
  replace hf := (fX6_weigh_0.eq_1 ..).symm.trans hf
  obtain ⟨r2, M3, he, hf⟩ := ea_ci_s hf
  have hs := Scr.trans Scr.rf (sX6_placeOf he)
  obtain ⟨r5, M6, he, hf⟩ := ea_ci_s hf
  have hs := Scr.trans hs (sX6_placeOf he)
  obtain ⟨r8, M9, he, hf⟩ := ea_ci_s hf
  have hs := Scr.trans hs (sX6_placeOf he)
  exact Scr.trans hs (sX6_weigh_27 (sX6_weigh_93) ea_N _ _ _ _ _ _ _ _ _ hf)
theorem sX6_weigh {res : eM} {x1 : Int32} {x2 : Int32} {x3 : Int32} {M : eM} (hf : fX6_weigh x1 x2 x3 M = some res) : Scr M res := sX6_weigh_0 _ _ _ _ hf
theorem sX6_search_99 {res : eM} {a1 : Nat} {k129 : Int32 → Int32 → Int32 → Int32 → Int32 → eM → Option (eM)} (hk129 : ∀ (x3 : Int32) (x4 : Int32) (x5 : Int32) (x6 : Int32) (x7 : Int32) (M : eM), k129 x3 x4 x5 x6 x7 M = some res → Scr M res) : ∀ (n : Nat) (x3 : Int32) (x4 : Int32) (x5 : Int32) (x6 : Int32) (x7 : Int32) (x8 : Int32) (M : eM), fX6_search_99 k129 a1 n x3 x4 x5 x6 x7 x8 M = some res → Scr M res := by
  intro n
  induction n with
  | zero => intro x3 x4 x5 x6 x7 x8 M hf; cases hf
  | succ n ih =>
    intro x3 x4 x5 x6 x7 x8 M hf
    replace hf := (fX6_search_99.eq_2 ..).symm.trans hf
    rcases ea_if_s hf with ⟨_, hf⟩ | ⟨_, hf⟩
    · exact Scr.trans Scr.rf (hk129 _ _ _ _ _ _ hf)
    · rcases ea_if_s hf with ⟨_, hf⟩ | ⟨_, hf⟩
      · exact Scr.trans Scr.rf (hk129 _ _ _ _ _ _ hf)
      · obtain ⟨M4, he, hf⟩ := ea_cv_s hf
        have hs := Scr.trans Scr.rf (sX6_weigh he)
        exact Scr.trans hs (ih _ _ _ _ _ _ _ hf)
theorem sX6_search_129 {res : eM} {a1 : Nat} {k69 : Int32 → Int32 → Int32 → Int32 → Int32 → eM → Option (eM)} (hk69 : ∀ (x3 : Int32) (x4 : Int32) (x5 : Int32) (x6 : Int32) (x7 : Int32) (M : eM), k69 x3 x4 x5 x6 x7 M = some res → Scr M res) : ∀ (x3 : Int32) (x4 : Int32) (x5 : Int32) (x6 : Int32) (x7 : Int32) (M : eM), fX6_search_129 k69 a1 x3 x4 x5 x6 x7 M = some res → Scr M res := by
  intro x3 x4 x5 x6 x7 M hf
  replace hf := (fX6_search_129.eq_1 ..).symm.trans hf
  exact Scr.trans Scr.rf (hk69 _ _ _ _ _ _ hf)
theorem sX6_search_69 {res : eM} {a1 : Nat} {k135 : Int32 → Int32 → Int32 → Int32 → eM → Option (eM)} (hk135 : ∀ (x3 : Int32) (x4 : Int32) (x5 : Int32) (x6 : Int32) (M : eM), k135 x3 x4 x5 x6 M = some res → Scr M res) : ∀ (n : Nat) (x3 : Int32) (x4 : Int32) (x5 : Int32) (x6 : Int32) (x7 : Int32) (M : eM), fX6_search_69 k135 a1 n x3 x4 x5 x6 x7 M = some res → Scr M res := by
  intro n
  induction n with
  | zero => intro x3 x4 x5 x6 x7 M hf; cases hf
  | succ n ih =>
    intro x3 x4 x5 x6 x7 M hf
    replace hf := (fX6_search_69.eq_2 ..).symm.trans hf
    rcases ea_if_s hf with ⟨_, hf⟩ | ⟨_, hf⟩
    · exact Scr.trans Scr.rf (hk135 _ _ _ _ _ hf)
    · rcases ea_if_s hf with ⟨_, hf⟩ | ⟨_, hf⟩
      · exact Scr.trans Scr.rf (hk135 _ _ _ _ _ hf)
      · obtain ⟨r4, M5, he, hf⟩ := ea_ci_s hf
        have hs := Scr.trans Scr.rf (sX6_mayDo he)
        rcases ea_if_s hf with ⟨_, hf⟩ | ⟨_, hf⟩
        · exact Scr.trans hs (sX6_search_129 ih _ _ _ _ _ _ hf)
        · exact Scr.trans hs (sX6_search_99 (sX6_search_129 ih) ea_N _ _ _ _ _ _ _ hf)
theorem sX6_search_135 {res : eM} {a1 : Nat} {k53 : Int32 → Int32 → Int32 → Int32 → eM → Option (eM)} (hk53 : ∀ (x3 : Int32) (x4 : Int32) (x5 : Int32) (x6 : Int32) (M : eM), k53 x3 x4 x5 x6 M = some res → Scr M res) : ∀ (x3 : Int32) (x4 : Int32) (x5 : Int32) (x6 : Int32) (M : eM), fX6_search_135 k53 a1 x3 x4 x5 x6 M = some res → Scr M res := by
  intro x3 x4 x5 x6 M hf
  replace hf := (fX6_search_135.eq_1 ..).symm.trans hf
  exact Scr.trans Scr.rf (hk53 _ _ _ _ _ hf)
theorem sX6_search_53 {res : eM} {a1 : Nat} : ∀ (n : Nat) (x3 : Int32) (x4 : Int32) (x5 : Int32) (x6 : Int32) (M : eM), fX6_search_53 a1 n x3 x4 x5 x6 M = some res → Scr M res := by
  intro n
  induction n with
  | zero => intro x3 x4 x5 x6 M hf; cases hf
  | succ n ih =>
    intro x3 x4 x5 x6 M hf
    replace hf := (fX6_search_53.eq_2 ..).symm.trans hf
    rcases ea_if_s hf with ⟨_, hf⟩ | ⟨_, hf⟩
    · exact scr_endv hf Scr.rf
    · rcases ea_if_s hf with ⟨_, hf⟩ | ⟨_, hf⟩
      · exact scr_endv hf Scr.rf
      · exact Scr.trans Scr.rf (sX6_search_69 (sX6_search_135 ih) ea_N _ _ _ _ _ _ hf)
theorem sX6_search_0 {res : eM} {a1 : Nat} : ∀ (x2 : Int32) (M : eM), fX6_search_0 a1 x2 M = some res → Scr M res := by
  intro x2 M hf
  replace hf := (fX6_search_0.eq_1 ..).symm.trans hf
  obtain ⟨M2, he, hf⟩ := ea_cv_s hf
  have hs := Scr.trans Scr.rf (sX6_sense he)
  obtain ⟨_, hf⟩ := ea_ck_s hf
  obtain ⟨y4, _, hf⟩ := ea_lt_s hf
  obtain ⟨_, hf⟩ := ea_ck_s hf
  obtain ⟨y7, _, hf⟩ := ea_lt_s hf
  obtain ⟨_, hf⟩ := ea_ck_s hf
  obtain ⟨y10, _, hf⟩ := ea_lt_s hf
  exact Scr.trans ((hs.pI rfl).pI rfl) (sX6_search_53 ea_N _ _ _ _ _ hf)
theorem sX6_search {res : eM} {a1 : Nat} {x2 : Int32} {M : eM} (hf : fX6_search a1 x2 M = some res) : Scr M res := sX6_search_0 _ _ hf
theorem sX10_throwLight_23 {res : eM} {k76 : Int32 → eM → Option (eM)} (hk76 : ∀ (x3 : Int32) (M : eM), k76 x3 M = some res → Scr M res) : ∀ (n : Nat) (x2 : Int32) (x3 : Int32) (x5 : Int32) (x6 : Int32) (M : eM), fX10_throwLight_23 k76 n x2 x3 x5 x6 M = some res → Scr M res := by
  intro n
  induction n with
  | zero => intro x2 x3 x5 x6 M hf; cases hf
  | succ n ih =>
    intro x2 x3 x5 x6 M hf
    replace hf := (fX10_throwLight_23.eq_2 ..).symm.trans hf
    rcases ea_if_s hf with ⟨_, hf⟩ | ⟨_, hf⟩
    · exact Scr.trans Scr.rf (hk76 _ _ hf)
    · obtain ⟨r3, M4, he, hf⟩ := ea_ci_s hf
      have hs := Scr.trans Scr.rf (sX8_lookShade he)
      obtain ⟨_, hf⟩ := ea_ck_s hf
      obtain ⟨r7, M8, he, hf⟩ := ea_ci_s hf
      have hs := Scr.trans (hs.pI rfl) (sX3_greyShade (by decide) he)
      obtain ⟨_, hf⟩ := ea_ck_s hf
      exact Scr.trans (hs.pI rfl) (ih _ _ _ _ _ hf)
theorem sX10_throwLight_76 {res : eM} : ∀ (x3 : Int32) (M : eM), fX10_throwLight_76 x3 M = some res → Scr M res := by
  intro x3 M hf
  replace hf := (fX10_throwLight_76.eq_1 ..).symm.trans hf
  obtain ⟨_, hf⟩ := ea_ck_s hf
  obtain ⟨M3, he, hf⟩ := ea_cv_s hf
  have hs := Scr.trans Scr.rf (sX6_search he)
  exact scr_endv hf hs
theorem sX10_throwLight_0 {res : eM} : ∀ (x1 : Int32) (x2 : Int32) (x3 : Int32) (x4 : Int32) (x5 : Int32) (M : eM), fX10_throwLight_0 x1 x2 x3 x4 x5 M = some res → Scr M res := by
  intro x1 x2 x3 x4 x5 M hf
  replace hf := (fX10_throwLight_0.eq_1 ..).symm.trans hf
  obtain ⟨M2, he, hf⟩ := ea_cv_s hf
  have hs := Scr.trans Scr.rf (sX3_find (by decide) he)
  obtain ⟨M4, he, hf⟩ := ea_cv_s hf
  have hs := Scr.trans hs (sX3_measureSpan (by decide) he)
  exact Scr.trans hs (sX10_throwLight_23 (sX10_throwLight_76) ea_N _ _ _ _ _ hf)
theorem sX10_throwLight {res : eM} {x1 : Int32} {x2 : Int32} {x3 : Int32} {x4 : Int32} {x5 : Int32} {M : eM} (hf : fX10_throwLight x1 x2 x3 x4 x5 M = some res) : Scr M res := sX10_throwLight_0 _ _ _ _ _ _ hf
theorem sX10_cannot_106 {res : Int32 × eM} {k31 : Int32 → Int32 → Int32 → Int32 → Int32 → Int32 → eM → Option (Int32 × eM)} (hk31 : ∀ (x1 : Int32) (x2 : Int32) (x3 : Int32) (x4 : Int32) (x5 : Int32) (x6 : Int32) (M : eM), k31 x1 x2 x3 x4 x5 x6 M = some res → Scr M res.2) : ∀ (x1 : Int32) (x2 : Int32) (x3 : Int32) (x4 : Int32) (x5 : Int32) (x6 : Int32) (M : eM), fX10_cannot_106 k31 x1 x2 x3 x4 x5 x6 M = some res → Scr M res.2 := by
  intro x1 x2 x3 x4 x5 x6 M hf
  replace hf := (fX10_cannot_106.eq_1 ..).symm.trans hf
  exact Scr.trans Scr.rf (hk31 _ _ _ _ _ _ _ hf)
theorem sX10_cannot_103 {res : Int32 × eM} {k31 : Int32 → Int32 → Int32 → Int32 → Int32 → Int32 → eM → Option (Int32 × eM)} (hk31 : ∀ (x1 : Int32) (x2 : Int32) (x3 : Int32) (x4 : Int32) (x5 : Int32) (x6 : Int32) (M : eM), k31 x1 x2 x3 x4 x5 x6 M = some res → Scr M res.2) : ∀ (x1 : Int32) (x2 : Int32) (x3 : Int32) (x4 : Int32) (x6 : Int32) (t0 : Int32) (t1 : Int32) (M : eM), fX10_cannot_103 k31 x1 x2 x3 x4 x6 t0 t1 M = some res → Scr M res.2 := by
  intro x1 x2 x3 x4 x6 t0 t1 M hf
  replace hf := (fX10_cannot_103.eq_1 ..).symm.trans hf
  exact Scr.trans Scr.rf (sX10_cannot_106 hk31 _ _ _ _ _ _ _ hf)
theorem sX10_cannot_31 {res : Int32 × eM} : ∀ (n : Nat) (x1 : Int32) (x2 : Int32) (x3 : Int32) (x4 : Int32) (x5 : Int32) (x6 : Int32) (M : eM), fX10_cannot_31 n x1 x2 x3 x4 x5 x6 M = some res → Scr M res.2 := by
  intro n
  induction n with
  | zero => intro x1 x2 x3 x4 x5 x6 M hf; cases hf
  | succ n ih =>
    intro x1 x2 x3 x4 x5 x6 M hf
    replace hf := (fX10_cannot_31.eq_2 ..).symm.trans hf
    obtain ⟨_, hf⟩ := ea_ck_s hf
    obtain ⟨r3, M4, he, hf⟩ := ea_ci_s hf
    have hs := Scr.trans Scr.rf (sX1_cells he)
    rcases ea_if_s hf with ⟨_, hf⟩ | ⟨_, hf⟩
    · exact scr_endi hf hs
    · obtain ⟨r7, M8, he, hf⟩ := ea_ci_s hf
      have hs := Scr.trans hs (sX8_latestLook he)
      obtain ⟨r10, M11, he, hf⟩ := ea_ci_s hf
      have hs := Scr.trans hs (sX8_isSeen he)
      rcases ea_if_s hf with ⟨_, hf⟩ | ⟨_, hf⟩
      · exact Scr.trans hs (sX10_cannot_106 ih _ _ _ _ _ _ _ hf)
      · obtain ⟨M14, he, hf⟩ := ea_cv_s hf
        have hs := Scr.trans hs (sX10_throwLight he)
        rcases ea_if_s hf with ⟨_, hf⟩ | ⟨_, hf⟩
        · exact Scr.trans hs (sX10_cannot_103 ih _ _ _ _ _ _ _ _ hf)
        · exact Scr.trans hs (sX10_cannot_103 ih _ _ _ _ _ _ _ _ hf)
theorem sX10_cannot_0 {res : Int32 × eM} : ∀ (x1 : Int32) (x2 : Int32) (x3 : Int32) (x4 : Int32) (M : eM), fX10_cannot_0 x1 x2 x3 x4 M = some res → Scr M res.2 := by
  intro x1 x2 x3 x4 M hf
  replace hf := (fX10_cannot_0.eq_1 ..).symm.trans hf
  obtain ⟨r2, M3, he, hf⟩ := ea_ci_s hf
  have hs := Scr.trans Scr.rf (sX10_mayThrow he)
  rcases ea_if_s hf with ⟨_, hf⟩ | ⟨_, hf⟩
  · exact scr_endi hf hs
  · obtain ⟨r6, M7, he, hf⟩ := ea_ci_s hf
    have hs := Scr.trans hs (sX10_isWithin he)
    rcases ea_if_s hf with ⟨_, hf⟩ | ⟨_, hf⟩
    · exact scr_endi hf hs
    · exact Scr.trans hs (sX10_cannot_31 ea_N _ _ _ _ _ _ _ hf)
theorem sX10_cannot {res : Int32 × eM} {x1 : Int32} {x2 : Int32} {x3 : Int32} {x4 : Int32} {M : eM} (hf : fX10_cannot x1 x2 x3 x4 M = some res) : Scr M res.2 := sX10_cannot_0 _ _ _ _ _ hf
theorem sX2_isBlankByte_12 {res : Int32 × eM} : ∀ (M : eM), fX2_isBlankByte_12 M = some res → Scr M res.2 := by
  intro M hf
  replace hf := (fX2_isBlankByte_12.eq_1 ..).symm.trans hf
  exact scr_endi hf Scr.rf
theorem sX2_isBlankByte_0 {res : Int32 × eM} : ∀ (x0 : Int32) (M : eM), fX2_isBlankByte_0 x0 M = some res → Scr M res.2 := by
  intro x0 M hf
  replace hf := (fX2_isBlankByte_0.eq_1 ..).symm.trans hf
  rcases ea_if_s hf with ⟨_, hf⟩ | ⟨_, hf⟩
  · exact Scr.trans Scr.rf (sX2_isBlankByte_12 _ hf)
  · rcases ea_if_s hf with ⟨_, hf⟩ | ⟨_, hf⟩
    · exact Scr.trans Scr.rf (sX2_isBlankByte_12 _ hf)
    · exact scr_endi hf Scr.rf
theorem sX2_isBlankByte {res : Int32 × eM} {x0 : Int32} {M : eM} (hf : fX2_isBlankByte x0 M = some res) : Scr M res.2 := sX2_isBlankByte_0 _ _ hf
theorem sX2_isDigit_0 {res : Int32 × eM} : ∀ (x0 : Int32) (M : eM), fX2_isDigit_0 x0 M = some res → Scr M res.2 := by
  intro x0 M hf
  replace hf := (fX2_isDigit_0.eq_1 ..).symm.trans hf
  rcases ea_if_s hf with ⟨_, hf⟩ | ⟨_, hf⟩
  · exact scr_endi hf Scr.rf
  · rcases ea_if_s hf with ⟨_, hf⟩ | ⟨_, hf⟩
    · exact scr_endi hf Scr.rf
    · exact scr_endi hf Scr.rf
theorem sX2_isDigit {res : Int32 × eM} {x0 : Int32} {M : eM} (hf : fX2_isDigit x0 M = some res) : Scr M res.2 := sX2_isDigit_0 _ _ hf
theorem sX2_isLetter_0 {res : Int32 × eM} : ∀ (x0 : Int32) (M : eM), fX2_isLetter_0 x0 M = some res → Scr M res.2 := by
  intro x0 M hf
  replace hf := (fX2_isLetter_0.eq_1 ..).symm.trans hf
  rcases ea_if_s hf with ⟨_, hf⟩ | ⟨_, hf⟩
  · exact scr_endi hf Scr.rf
  · rcases ea_if_s hf with ⟨_, hf⟩ | ⟨_, hf⟩
    · exact scr_endi hf Scr.rf
    · exact scr_endi hf Scr.rf
theorem sX2_isLetter {res : Int32 × eM} {x0 : Int32} {M : eM} (hf : fX2_isLetter x0 M = some res) : Scr M res.2 := sX2_isLetter_0 _ _ hf
theorem sX2_advance_16 {res : eM} {k49 : Int32 → eM → Option (eM)} (hk49 : ∀ (x2 : Int32) (M : eM), k49 x2 M = some res → Scr M res) : ∀ (n : Nat) (x2 : Int32) (M : eM), fX2_advance_16 k49 n x2 M = some res → Scr M res := by
  intro n
  induction n with
  | zero => intro x2 M hf; cases hf
  | succ n ih =>
    intro x2 M hf
    replace hf := (fX2_advance_16.eq_2 ..).symm.trans hf
    rcases ea_if_s hf with ⟨_, hf⟩ | ⟨_, hf⟩
    · exact Scr.trans Scr.rf (hk49 _ _ hf)
    · obtain ⟨_, hf⟩ := ea_ck_s hf
      obtain ⟨r4, M5, he, hf⟩ := ea_ci_s hf
      have hs := Scr.trans Scr.rf (sX2_isBlankByte he)
      rcases ea_if_s hf with ⟨_, hf⟩ | ⟨_, hf⟩
      · exact Scr.trans hs (hk49 _ _ hf)
      · exact Scr.trans (hs.pI rfl) (ih _ _ hf)
theorem sX2_advance_90 {res : eM} {k148 : eM → Option (eM)} (hk148 : ∀ (M : eM), k148 M = some res → Scr M res) : ∀ (n : Nat) (x2 : Int32) (M : eM), fX2_advance_90 k148 n x2 M = some res → Scr M res := by
  intro n
  induction n with
  | zero => intro x2 M hf; cases hf
  | succ n ih =>
    intro x2 M hf
    replace hf := (fX2_advance_90.eq_2 ..).symm.trans hf
    rcases ea_if_s hf with ⟨_, hf⟩ | ⟨_, hf⟩
    · exact Scr.trans Scr.rf (hk148 _ hf)
    · obtain ⟨_, hf⟩ := ea_ck_s hf
      obtain ⟨r4, M5, he, hf⟩ := ea_ci_s hf
      have hs := Scr.trans Scr.rf (sX2_isLetter he)
      rcases ea_if_s hf with ⟨_, hf⟩ | ⟨_, hf⟩
      · exact Scr.trans hs (hk148 _ hf)
      · obtain ⟨_, hf⟩ := ea_ck_s hf
        exact Scr.trans ((hs.pL).pI rfl) (ih _ _ hf)
theorem sX2_advance_168 {res : eM} : ∀ (t0 : Int32) (M : eM), fX2_advance_168 t0 M = some res → Scr M res := by
  intro t0 M hf
  replace hf := (fX2_advance_168.eq_1 ..).symm.trans hf
  exact scr_endv hf (Scr.rf.pI rfl)
theorem sX2_advance_148 {res : eM} : ∀ (M : eM), fX2_advance_148 M = some res → Scr M res := by
  intro M hf
  replace hf := (fX2_advance_148.eq_1 ..).symm.trans hf
  rcases ea_if_s hf with ⟨_, hf⟩ | ⟨_, hf⟩
  · exact Scr.trans Scr.rf (sX2_advance_168 _ _ hf)
  · exact Scr.trans Scr.rf (sX2_advance_168 _ _ hf)
theorem sX2_advance_191 {res : eM} {k245 : eM → Option (eM)} (hk245 : ∀ (M : eM), k245 M = some res → Scr M res) : ∀ (n : Nat) (x2 : Int32) (M : eM), fX2_advance_191 k245 n x2 M = some res → Scr M res := by
  intro n
  induction n with
  | zero => intro x2 M hf; cases hf
  | succ n ih =>
    intro x2 M hf
    replace hf := (fX2_advance_191.eq_2 ..).symm.trans hf
    rcases ea_if_s hf with ⟨_, hf⟩ | ⟨_, hf⟩
    · exact Scr.trans Scr.rf (hk245 _ hf)
    · obtain ⟨_, hf⟩ := ea_ck_s hf
      obtain ⟨r4, M5, he, hf⟩ := ea_ci_s hf
      have hs := Scr.trans Scr.rf (sX2_isDigit he)
      rcases ea_if_s hf with ⟨_, hf⟩ | ⟨_, hf⟩
      · exact Scr.trans hs (hk245 _ hf)
      · obtain ⟨_, hf⟩ := ea_ck_s hf
        exact Scr.trans ((hs.pI rfl).pI rfl) (ih _ _ hf)
theorem sX2_advance_264 {res : eM} : ∀ (t0 : Int32) (M : eM), fX2_advance_264 t0 M = some res → Scr M res := by
  intro t0 M hf
  replace hf := (fX2_advance_264.eq_1 ..).symm.trans hf
  exact scr_endv hf (Scr.rf.pI rfl)
theorem sX2_advance_245 {res : eM} : ∀ (M : eM), fX2_advance_245 M = some res → Scr M res := by
  intro M hf
  replace hf := (fX2_advance_245.eq_1 ..).symm.trans hf
  rcases ea_if_s hf with ⟨_, hf⟩ | ⟨_, hf⟩
  · exact Scr.trans Scr.rf (sX2_advance_264 _ _ hf)
  · exact Scr.trans Scr.rf (sX2_advance_264 _ _ hf)
theorem sX2_advance_287 {res : eM} : ∀ (t0 : Int32) (M : eM), fX2_advance_287 t0 M = some res → Scr M res := by
  intro t0 M hf
  replace hf := (fX2_advance_287.eq_1 ..).symm.trans hf
  exact scr_endv hf ((Scr.rf.pI rfl).pI rfl)
theorem sX2_advance_49 {res : eM} : ∀ (x2 : Int32) (M : eM), fX2_advance_49 x2 M = some res → Scr M res := by
  intro x2 M hf
  replace hf := (fX2_advance_49.eq_1 ..).symm.trans hf
  rcases ea_if_s hf with ⟨_, hf⟩ | ⟨_, hf⟩
  · obtain ⟨_, hf⟩ := ea_ck_s hf
    obtain ⟨r4, M5, he, hf⟩ := ea_ci_s hf
    have hs := Scr.trans (Scr.rf.pI rfl) (sX2_isLetter he)
    rcases ea_if_s hf with ⟨_, hf⟩ | ⟨_, hf⟩
    · obtain ⟨_, hf⟩ := ea_ck_s hf
      obtain ⟨r9, M10, he, hf⟩ := ea_ci_s hf
      have hs := Scr.trans hs (sX2_isDigit he)
      rcases ea_if_s hf with ⟨_, hf⟩ | ⟨_, hf⟩
      · obtain ⟨_, hf⟩ := ea_ck_s hf
        rcases ea_if_s hf with ⟨_, hf⟩ | ⟨_, hf⟩
        · exact Scr.trans hs (sX2_advance_287 _ _ hf)
        · exact Scr.trans hs (sX2_advance_287 _ _ hf)
      · exact Scr.trans (hs.pI rfl) (sX2_advance_191 (sX2_advance_245) ea_N _ _ hf)
    · exact Scr.trans (hs.pL) (sX2_advance_90 (sX2_advance_148) ea_N _ _ hf)
  · exact scr_endv hf ((Scr.rf.pI rfl).pI rfl)
theorem sX2_advance_0 {res : eM} : ∀ (M : eM), fX2_advance_0 M = some res → Scr M res := by
  intro M hf
  replace hf := (fX2_advance_0.eq_1 ..).symm.trans hf
  exact Scr.trans Scr.rf (sX2_advance_16 (sX2_advance_49) ea_N _ _ hf)
theorem sX2_advance {res : eM} {M : eM} (hf : fX2_advance M = some res) : Scr M res := sX2_advance_0  _ hf
theorem sX2_hasMore_0 {res : Int32 × eM} : ∀ (M : eM), fX2_hasMore_0 M = some res → Scr M res.2 := by
  intro M hf
  replace hf := (fX2_hasMore_0.eq_1 ..).symm.trans hf
  obtain ⟨M2, he, hf⟩ := ea_cv_s hf
  have hs := Scr.trans Scr.rf (sX2_advance he)
  rcases ea_if_s hf with ⟨_, hf⟩ | ⟨_, hf⟩
  · exact scr_endi hf hs
  · exact scr_endi hf hs
theorem sX2_hasMore {res : Int32 × eM} {M : eM} (hf : fX2_hasMore M = some res) : Scr M res.2 := sX2_hasMore_0  _ hf
theorem sX10_isColour_0 {res : Int32 × eM} : ∀ (x0 : Int32) (M : eM), fX10_isColour_0 x0 M = some res → Scr M res.2 := by
  intro x0 M hf
  replace hf := (fX10_isColour_0.eq_1 ..).symm.trans hf
  obtain ⟨r2, M3, he, hf⟩ := ea_ci_s hf
  have hs := Scr.trans Scr.rf (sX10_isWithin he)
  obtain ⟨_, hf⟩ := ea_ck_s hf
  exact scr_endi hf hs
theorem sX10_isColour {res : Int32 × eM} {x0 : Int32} {M : eM} (hf : fX10_isColour x0 M = some res) : Scr M res.2 := sX10_isColour_0 _ _ hf
theorem sX10_isThread_0 {res : Int32 × eM} : ∀ (x1 : Int32) (M : eM), fX10_isThread_0 x1 M = some res → Scr M res.2 := by
  intro x1 M hf
  replace hf := (fX10_isThread_0.eq_1 ..).symm.trans hf
  obtain ⟨r2, M3, he, hf⟩ := ea_ci_s hf
  have hs := Scr.trans Scr.rf (sX10_isWithin he)
  obtain ⟨_, hf⟩ := ea_ck_s hf
  exact scr_endi hf hs
theorem sX10_isThread {res : Int32 × eM} {x1 : Int32} {M : eM} (hf : fX10_isThread x1 M = some res) : Scr M res.2 := sX10_isThread_0 _ _ hf
theorem sX10_colour_30 {res : Int32 × eM} : ∀ (x1 : Int32) (x2 : Int32) (x3 : Int32) (t0 : Int32) (M : eM), fX10_colour_30 x1 x2 x3 t0 M = some res → Scr M res.2 := by
  intro x1 x2 x3 t0 M hf
  replace hf := (fX10_colour_30.eq_1 ..).symm.trans hf
  rcases ea_if_s hf with ⟨_, hf⟩ | ⟨_, hf⟩
  · exact scr_endi hf Scr.rf
  · obtain ⟨r3, M4, he, hf⟩ := ea_ci_s hf
    have hs := Scr.trans Scr.rf (sX9_shadeOf he)
    exact scr_endi hf hs
theorem sX10_colour_29 {res : Int32 × eM} : ∀ (x1 : Int32) (x2 : Int32) (x3 : Int32) (M : eM), fX10_colour_29 x1 x2 x3 M = some res → Scr M res.2 := by
  intro x1 x2 x3 M hf
  replace hf := (fX10_colour_29.eq_1 ..).symm.trans hf
  exact Scr.trans Scr.rf (sX10_colour_30 _ _ _ _ _ hf)
theorem sX10_colour_0 {res : Int32 × eM} : ∀ (x1 : Int32) (x2 : Int32) (x3 : Int32) (M : eM), fX10_colour_0 x1 x2 x3 M = some res → Scr M res.2 := by
  intro x1 x2 x3 M hf
  replace hf := (fX10_colour_0.eq_1 ..).symm.trans hf
  obtain ⟨r2, M3, he, hf⟩ := ea_ci_s hf
  have hs := Scr.trans Scr.rf (sX10_isThread he)
  rcases ea_if_s hf with ⟨_, hf⟩ | ⟨_, hf⟩
  · exact Scr.trans hs (sX10_colour_29 _ _ _ _ hf)
  · obtain ⟨r6, M7, he, hf⟩ := ea_ci_s hf
    have hs := Scr.trans hs (sX10_isWithin he)
    rcases ea_if_s hf with ⟨_, hf⟩ | ⟨_, hf⟩
    · exact Scr.trans hs (sX10_colour_29 _ _ _ _ hf)
    · obtain ⟨r10, M11, he, hf⟩ := ea_ci_s hf
      have hs := Scr.trans hs (sX10_isColour he)
      rcases ea_if_s hf with ⟨_, hf⟩ | ⟨_, hf⟩
      · exact Scr.trans hs (sX10_colour_29 _ _ _ _ hf)
      · exact Scr.trans hs (sX10_colour_30 _ _ _ _ _ hf)
theorem sX10_colour {res : Int32 × eM} {x1 : Int32} {x2 : Int32} {x3 : Int32} {M : eM} (hf : fX10_colour x1 x2 x3 M = some res) : Scr M res.2 := sX10_colour_0 _ _ _ _ hf
theorem sX10_commonDivisor_7 {res : Int32 × eM} {k34 : Int32 → eM → Option (Int32 × eM)} (hk34 : ∀ (x2 : Int32) (M : eM), k34 x2 M = some res → Scr M res.2) : ∀ (n : Nat) (x2 : Int32) (x3 : Int32) (x4 : Int32) (M : eM), fX10_commonDivisor_7 k34 n x2 x3 x4 M = some res → Scr M res.2 := by
  intro n
  induction n with
  | zero => intro x2 x3 x4 M hf; cases hf
  | succ n ih =>
    intro x2 x3 x4 M hf
    replace hf := (fX10_commonDivisor_7.eq_2 ..).symm.trans hf
    rcases ea_if_s hf with ⟨_, hf⟩ | ⟨_, hf⟩
    · exact Scr.trans Scr.rf (hk34 _ _ hf)
    · rcases ea_if_s hf with ⟨_, hf⟩ | ⟨_, hf⟩
      · exact Scr.trans Scr.rf (hk34 _ _ hf)
      · obtain ⟨_, hf⟩ := ea_ck_s hf
        exact Scr.trans Scr.rf (ih _ _ _ _ hf)
theorem sX10_commonDivisor_34 {res : Int32 × eM} : ∀ (x2 : Int32) (M : eM), fX10_commonDivisor_34 x2 M = some res → Scr M res.2 := by
  intro x2 M hf
  replace hf := (fX10_commonDivisor_34.eq_1 ..).symm.trans hf
  exact scr_endi hf Scr.rf
theorem sX10_commonDivisor_0 {res : Int32 × eM} : ∀ (x0 : Int32) (x1 : Int32) (M : eM), fX10_commonDivisor_0 x0 x1 M = some res → Scr M res.2 := by
  intro x0 x1 M hf
  replace hf := (fX10_commonDivisor_0.eq_1 ..).symm.trans hf
  exact Scr.trans Scr.rf (sX10_commonDivisor_7 (sX10_commonDivisor_34) ea_N _ _ _ _ hf)
theorem sX10_commonDivisor {res : Int32 × eM} {x0 : Int32} {x1 : Int32} {M : eM} (hf : fX10_commonDivisor x0 x1 M = some res) : Scr M res.2 := sX10_commonDivisor_0 _ _ _ hf
theorem sX10_count_0 {res : Int32 × eM} : ∀ (x1 : Int32) (M : eM), fX10_count_0 x1 M = some res → Scr M res.2 := by
  intro x1 M hf
  replace hf := (fX10_count_0.eq_1 ..).symm.trans hf
  rcases ea_if_s hf with ⟨_, hf⟩ | ⟨_, hf⟩
  · obtain ⟨_, hf⟩ := ea_ck_s hf
    exact scr_endi hf Scr.rf
  · rcases ea_if_s hf with ⟨_, hf⟩ | ⟨_, hf⟩
    · exact scr_endi hf Scr.rf
    · rcases ea_if_s hf with ⟨_, hf⟩ | ⟨_, hf⟩
      · exact scr_endi hf Scr.rf
      · rcases ea_if_s hf with ⟨_, hf⟩ | ⟨_, hf⟩
        · exact scr_endi hf Scr.rf
        · rcases ea_if_s hf with ⟨_, hf⟩ | ⟨_, hf⟩
          · exact scr_endi hf Scr.rf
          · rcases ea_if_s hf with ⟨_, hf⟩ | ⟨_, hf⟩
            · exact scr_endi hf Scr.rf
            · exact scr_endi hf Scr.rf
theorem sX10_count {res : Int32 × eM} {x1 : Int32} {M : eM} (hf : fX10_count x1 M = some res) : Scr M res.2 := sX10_count_0 _ _ hf
theorem sX9_numberOf_32 {res : Int32 × eM} {k2 : Int32 → Int32 → Int32 → eM → Option (Int32 × eM)} (hk2 : ∀ (x1 : Int32) (x2 : Int32) (x3 : Int32) (M : eM), k2 x1 x2 x3 M = some res → Scr M res.2) : ∀ (x1 : Int32) (x2 : Int32) (x3 : Int32) (M : eM), fX9_numberOf_32 k2 x1 x2 x3 M = some res → Scr M res.2 := by
  intro x1 x2 x3 M hf
  replace hf := (fX9_numberOf_32.eq_1 ..).symm.trans hf
  exact Scr.trans Scr.rf (hk2 _ _ _ _ hf)
theorem sX9_numberOf_2 {res : Int32 × eM} : ∀ (n : Nat) (x1 : Int32) (x2 : Int32) (x3 : Int32) (M : eM), fX9_numberOf_2 n x1 x2 x3 M = some res → Scr M res.2 := by
  intro n
  induction n with
  | zero => intro x1 x2 x3 M hf; cases hf
  | succ n ih =>
    intro x1 x2 x3 M hf
    replace hf := (fX9_numberOf_2.eq_2 ..).symm.trans hf
    rcases ea_if_s hf with ⟨_, hf⟩ | ⟨_, hf⟩
    · exact scr_endi hf Scr.rf
    · obtain ⟨_, hf⟩ := ea_ck_s hf
      rcases ea_if_s hf with ⟨_, hf⟩ | ⟨_, hf⟩
      · obtain ⟨_, hf⟩ := ea_ck_s hf
        rcases ea_if_s hf with ⟨_, hf⟩ | ⟨_, hf⟩
        · exact scr_endi hf Scr.rf
        · exact Scr.trans Scr.rf (sX9_numberOf_32 ih _ _ _ _ hf)
      · exact Scr.trans Scr.rf (sX9_numberOf_32 ih _ _ _ _ hf)
theorem sX9_numberOf_0 {res : Int32 × eM} : ∀ (x1 : Int32) (x2 : Int32) (M : eM), fX9_numberOf_0 x1 x2 M = some res → Scr M res.2 := by
  intro x1 x2 M hf
  replace hf := (fX9_numberOf_0.eq_1 ..).symm.trans hf
  exact Scr.trans Scr.rf (sX9_numberOf_2 ea_N _ _ _ _ hf)
theorem sX9_numberOf {res : Int32 × eM} {x1 : Int32} {x2 : Int32} {M : eM} (hf : fX9_numberOf x1 x2 M = some res) : Scr M res.2 := sX9_numberOf_0 _ _ _ hf
theorem sX10_drawThread_114 {res : Int32 × eM} : ∀ (x3 : Int32) (t0 : Int32) (t1 : Int32) (M : eM), fX10_drawThread_114 x3 t0 t1 M = some res → Scr M res.2 := by
  intro x3 t0 t1 M hf
  replace hf := (fX10_drawThread_114.eq_1 ..).symm.trans hf
  obtain ⟨r2, M3, he, hf⟩ := ea_ci_s hf
  have hs := Scr.trans Scr.rf (sX0_draw he)
  obtain ⟨r5, M6, he, hf⟩ := ea_ci_s hf
  have hs := Scr.trans hs (sX9_rowOf he)
  obtain ⟨r8, M9, he, hf⟩ := ea_ci_s hf
  have hs := Scr.trans hs (sX9_numberOf he)
  exact scr_endi hf hs
theorem sX10_drawThread_71 {res : Int32 × eM} : ∀ (x1 : Int32) (x2 : Int32) (x3 : Int32) (t0 : Int32) (M : eM), fX10_drawThread_71 x1 x2 x3 t0 M = some res → Scr M res.2 := by
  intro x1 x2 x3 t0 M hf
  replace hf := (fX10_drawThread_71.eq_1 ..).symm.trans hf
  rcases ea_if_s hf with ⟨_, hf⟩ | ⟨_, hf⟩
  · obtain ⟨r7, M8, he, hf⟩ := ea_ci_s hf
    have hs := Scr.trans Scr.rf (sX9_numberOf he)
    exact scr_endi hf hs
  · obtain ⟨r3, M4, he, hf⟩ := ea_ci_s hf
    have hs := Scr.trans Scr.rf (sX0_draw he)
    rcases ea_if_s hf with ⟨_, hf⟩ | ⟨_, hf⟩
    · exact Scr.trans hs (sX10_drawThread_114 _ _ _ _ hf)
    · exact Scr.trans hs (sX10_drawThread_114 _ _ _ _ hf)
theorem sX10_drawThread_70 {res : Int32 × eM} : ∀ (x1 : Int32) (x2 : Int32) (x3 : Int32) (M : eM), fX10_drawThread_70 x1 x2 x3 M = some res → Scr M res.2 := by
  intro x1 x2 x3 M hf
  replace hf := (fX10_drawThread_70.eq_1 ..).symm.trans hf
  exact Scr.trans Scr.rf (sX10_drawThread_71 _ _ _ _ _ hf)
theorem sX10_drawThread_0 {res : Int32 × eM} : ∀ (M : eM), fX10_drawThread_0 M = some res → Scr M res.2 := by
  intro M hf
  replace hf := (fX10_drawThread_0.eq_1 ..).symm.trans hf
  obtain ⟨_, hf⟩ := ea_ck_s hf
  obtain ⟨r3, M4, he, hf⟩ := ea_ci_s hf
  have hs := Scr.trans Scr.rf (sX0_draw he)
  obtain ⟨r6, M7, he, hf⟩ := ea_ci_s hf
  have hs := Scr.trans hs (sX0_draw he)
  obtain ⟨r9, M10, he, hf⟩ := ea_ci_s hf
  have hs := Scr.trans hs (sX9_rowOf he)
  obtain ⟨r12, M13, he, hf⟩ := ea_ci_s hf
  have hs := Scr.trans hs (sX0_draw he)
  rcases ea_if_s hf with ⟨_, hf⟩ | ⟨_, hf⟩
  · rcases ea_if_s hf with ⟨_, hf⟩ | ⟨_, hf⟩
    · exact Scr.trans hs (sX10_drawThread_70 _ _ _ _ hf)
    · obtain ⟨_, hf⟩ := ea_ck_s hf
      rcases ea_if_s hf with ⟨_, hf⟩ | ⟨_, hf⟩
      · exact Scr.trans hs (sX10_drawThread_71 _ _ _ _ _ hf)
      · exact Scr.trans hs (sX10_drawThread_70 _ _ _ _ hf)
  · exact Scr.trans hs (sX10_drawThread_70 _ _ _ _ hf)
theorem sX10_drawThread {res : Int32 × eM} {M : eM} (hf : fX10_drawThread M = some res) : Scr M res.2 := sX10_drawThread_0  _ hf
theorem sX10_fault_0 {res : Int32 × eM} : ∀ (x1 : Int32) (M : eM), fX10_fault_0 x1 M = some res → Scr M res.2 := by
  intro x1 M hf
  replace hf := (fX10_fault_0.eq_1 ..).symm.trans hf
  rcases ea_if_s hf with ⟨_, hf⟩ | ⟨_, hf⟩
  · exact scr_endi hf Scr.rf
  · rcases ea_if_s hf with ⟨_, hf⟩ | ⟨_, hf⟩
    · exact scr_endi hf Scr.rf
    · exact scr_endi hf Scr.rf
theorem sX10_fault {res : Int32 × eM} {x1 : Int32} {M : eM} (hf : fX10_fault x1 M = some res) : Scr M res.2 := sX10_fault_0 _ _ hf
theorem sX10_fit_0 {res : Int32 × eM} : ∀ (x1 : Int32) (x2 : Int32) (x3 : Int32) (x4 : Int32) (M : eM), fX10_fit_0 x1 x2 x3 x4 M = some res → Scr M res.2 := by
  intro x1 x2 x3 x4 M hf
  replace hf := (fX10_fit_0.eq_1 ..).symm.trans hf
  obtain ⟨r2, M3, he, hf⟩ := ea_ci_s hf
  have hs := Scr.trans Scr.rf (sX10_mayFit he)
  rcases ea_if_s hf with ⟨_, hf⟩ | ⟨_, hf⟩
  · exact scr_endi hf hs
  · obtain ⟨r6, M7, he, hf⟩ := ea_ci_s hf
    have hs := Scr.trans hs (sX10_isWithin he)
    rcases ea_if_s hf with ⟨_, hf⟩ | ⟨_, hf⟩
    · exact scr_endi hf hs
    · obtain ⟨M10, he, hf⟩ := ea_cv_s hf
      have hs := Scr.trans hs (sX3_find (by decide) he)
      rcases ea_if_s hf with ⟨_, hf⟩ | ⟨_, hf⟩
      · exact scr_endi hf hs
      · rcases ea_if_s hf with ⟨_, hf⟩ | ⟨_, hf⟩
        · exact scr_endi hf hs
        · rcases ea_if_s hf with ⟨_, hf⟩ | ⟨_, hf⟩
          · exact scr_endi hf hs
          · obtain ⟨r15, M16, he, hf⟩ := ea_ci_s hf
            have hs := Scr.trans hs (sX3_pairPart (by decide) he)
            exact scr_endi hf hs
theorem sX10_fit {res : Int32 × eM} {x1 : Int32} {x2 : Int32} {x3 : Int32} {x4 : Int32} {M : eM} (hf : fX10_fit x1 x2 x3 x4 M = some res) : Scr M res.2 := sX10_fit_0 _ _ _ _ _ hf
theorem sX10_isSide_9 {res : Int32 × eM} : ∀ (M : eM), fX10_isSide_9 M = some res → Scr M res.2 := by
  intro M hf
  replace hf := (fX10_isSide_9.eq_1 ..).symm.trans hf
  exact scr_endi hf Scr.rf
theorem sX10_isSide_0 {res : Int32 × eM} : ∀ (x0 : Int32) (M : eM), fX10_isSide_0 x0 M = some res → Scr M res.2 := by
  intro x0 M hf
  replace hf := (fX10_isSide_0.eq_1 ..).symm.trans hf
  rcases ea_if_s hf with ⟨_, hf⟩ | ⟨_, hf⟩
  · exact Scr.trans Scr.rf (sX10_isSide_9 _ hf)
  · rcases ea_if_s hf with ⟨_, hf⟩ | ⟨_, hf⟩
    · exact Scr.trans Scr.rf (sX10_isSide_9 _ hf)
    · exact scr_endi hf Scr.rf
theorem sX10_isSide {res : Int32 × eM} {x0 : Int32} {M : eM} (hf : fX10_isSide x0 M = some res) : Scr M res.2 := sX10_isSide_0 _ _ hf
theorem sX10_grey_0 {res : Int32 × eM} : ∀ (x1 : Int32) (x2 : Int32) (x3 : Int32) (x4 : Int32) (x5 : Int32) (M : eM), fX10_grey_0 x1 x2 x3 x4 x5 M = some res → Scr M res.2 := by
  intro x1 x2 x3 x4 x5 M hf
  replace hf := (fX10_grey_0.eq_1 ..).symm.trans hf
  obtain ⟨r2, M3, he, hf⟩ := ea_ci_s hf
  have hs := Scr.trans Scr.rf (sX10_mayFit he)
  rcases ea_if_s hf with ⟨_, hf⟩ | ⟨_, hf⟩
  · exact scr_endi hf hs
  · obtain ⟨r6, M7, he, hf⟩ := ea_ci_s hf
    have hs := Scr.trans hs (sX10_isWithin he)
    rcases ea_if_s hf with ⟨_, hf⟩ | ⟨_, hf⟩
    · exact scr_endi hf hs
    · obtain ⟨r10, M11, he, hf⟩ := ea_ci_s hf
      have hs := Scr.trans hs (sX10_isColour he)
      rcases ea_if_s hf with ⟨_, hf⟩ | ⟨_, hf⟩
      · exact scr_endi hf hs
      · obtain ⟨M14, he, hf⟩ := ea_cv_s hf
        have hs := Scr.trans hs (sX3_find (by decide) he)
        obtain ⟨M16, he, hf⟩ := ea_cv_s hf
        have hs := Scr.trans hs (sX3_measureSpan (by decide) he)
        obtain ⟨r18, M19, he, hf⟩ := ea_ci_s hf
        have hs := Scr.trans hs (sX3_greyShade (by decide) he)
        exact scr_endi hf hs
theorem sX10_grey {res : Int32 × eM} {x1 : Int32} {x2 : Int32} {x3 : Int32} {x4 : Int32} {x5 : Int32} {M : eM} (hf : fX10_grey x1 x2 x3 x4 x5 M = some res) : Scr M res.2 := sX10_grey_0 _ _ _ _ _ _ hf
theorem sX10_hours_52 {res : Int32 × eM} : ∀ (x1 : Int32) (x2 : Int32) (x3 : Int32) (x4 : Int32) (t0 : Int32) (M : eM), fX10_hours_52 x1 x2 x3 x4 t0 M = some res → Scr M res.2 := by
  intro x1 x2 x3 x4 t0 M hf
  replace hf := (fX10_hours_52.eq_1 ..).symm.trans hf
  rcases ea_if_s hf with ⟨_, hf⟩ | ⟨_, hf⟩
  · exact scr_endi hf Scr.rf
  · obtain ⟨_, hf⟩ := ea_ck_s hf
    obtain ⟨r4, M5, he, hf⟩ := ea_ci_s hf
    have hs := Scr.trans Scr.rf (sX1_hoursOf he)
    exact scr_endi hf hs
theorem sX10_hours_51 {res : Int32 × eM} : ∀ (x1 : Int32) (x2 : Int32) (x3 : Int32) (x4 : Int32) (M : eM), fX10_hours_51 x1 x2 x3 x4 M = some res → Scr M res.2 := by
  intro x1 x2 x3 x4 M hf
  replace hf := (fX10_hours_51.eq_1 ..).symm.trans hf
  exact Scr.trans Scr.rf (sX10_hours_52 _ _ _ _ _ _ hf)
theorem sX10_hours_0 {res : Int32 × eM} : ∀ (x1 : Int32) (x2 : Int32) (x3 : Int32) (x4 : Int32) (M : eM), fX10_hours_0 x1 x2 x3 x4 M = some res → Scr M res.2 := by
  intro x1 x2 x3 x4 M hf
  replace hf := (fX10_hours_0.eq_1 ..).symm.trans hf
  obtain ⟨r2, M3, he, hf⟩ := ea_ci_s hf
  have hs := Scr.trans Scr.rf (sX10_isStory he)
  rcases ea_if_s hf with ⟨_, hf⟩ | ⟨_, hf⟩
  · exact Scr.trans hs (sX10_hours_51 _ _ _ _ _ hf)
  · obtain ⟨_, hf⟩ := ea_ck_s hf
    obtain ⟨r7, M8, he, hf⟩ := ea_ci_s hf
    have hs := Scr.trans hs (sX10_isWithin he)
    rcases ea_if_s hf with ⟨_, hf⟩ | ⟨_, hf⟩
    · exact Scr.trans hs (sX10_hours_51 _ _ _ _ _ hf)
    · obtain ⟨r11, M12, he, hf⟩ := ea_ci_s hf
      have hs := Scr.trans hs (sX10_isWithin he)
      rcases ea_if_s hf with ⟨_, hf⟩ | ⟨_, hf⟩
      · exact Scr.trans hs (sX10_hours_51 _ _ _ _ _ hf)
      · obtain ⟨r15, M16, he, hf⟩ := ea_ci_s hf
        have hs := Scr.trans hs (sX10_isSide he)
        rcases ea_if_s hf with ⟨_, hf⟩ | ⟨_, hf⟩
        · exact Scr.trans hs (sX10_hours_51 _ _ _ _ _ hf)
        · exact Scr.trans hs (sX10_hours_52 _ _ _ _ _ _ hf)
theorem sX10_hours {res : Int32 × eM} {x1 : Int32} {x2 : Int32} {x3 : Int32} {x4 : Int32} {M : eM} (hf : fX10_hours x1 x2 x3 x4 M = some res) : Scr M res.2 := sX10_hours_0 _ _ _ _ _ hf
theorem sX10_isPast_46 {res : Int32 × eM} {k6 : Int32 → Int32 → Int32 → Int32 → Int32 → Int32 → eM → Option (Int32 × eM)} (hk6 : ∀ (x1 : Int32) (x2 : Int32) (x3 : Int32) (x4 : Int32) (x5 : Int32) (x6 : Int32) (M : eM), k6 x1 x2 x3 x4 x5 x6 M = some res → Scr M res.2) : ∀ (x1 : Int32) (x2 : Int32) (x3 : Int32) (x4 : Int32) (x6 : Int32) (t0 : Int32) (t1 : Int32) (M : eM), fX10_isPast_46 k6 x1 x2 x3 x4 x6 t0 t1 M = some res → Scr M res.2 := by
  intro x1 x2 x3 x4 x6 t0 t1 M hf
  replace hf := (fX10_isPast_46.eq_1 ..).symm.trans hf
  exact Scr.trans Scr.rf (hk6 _ _ _ _ _ _ _ hf)
theorem sX10_isPast_6 {res : Int32 × eM} {k55 : Int32 → Int32 → eM → Option (Int32 × eM)} (hk55 : ∀ (x3 : Int32) (x5 : Int32) (M : eM), k55 x3 x5 M = some res → Scr M res.2) : ∀ (n : Nat) (x1 : Int32) (x2 : Int32) (x3 : Int32) (x4 : Int32) (x5 : Int32) (x6 : Int32) (M : eM), fX10_isPast_6 k55 n x1 x2 x3 x4 x5 x6 M = some res → Scr M res.2 := by
  intro n
  induction n with
  | zero => intro x1 x2 x3 x4 x5 x6 M hf; cases hf
  | succ n ih =>
    intro x1 x2 x3 x4 x5 x6 M hf
    replace hf := (fX10_isPast_6.eq_2 ..).symm.trans hf
    rcases ea_if_s hf with ⟨_, hf⟩ | ⟨_, hf⟩
    · exact Scr.trans Scr.rf (hk55 _ _ _ hf)
    · obtain ⟨r3, M4, he, hf⟩ := ea_ci_s hf
      have hs := Scr.trans Scr.rf (sX9_shadeOf he)
      obtain ⟨r6, M7, he, hf⟩ := ea_ci_s hf
      have hs := Scr.trans hs (sX8_lookShade he)
      rcases ea_if_s hf with ⟨_, hf⟩ | ⟨_, hf⟩
      · exact Scr.trans hs (sX10_isPast_46 ih _ _ _ _ _ _ _ _ hf)
      · exact Scr.trans hs (sX10_isPast_46 ih _ _ _ _ _ _ _ _ hf)
theorem sX10_isPast_55 {res : Int32 × eM} : ∀ (x3 : Int32) (x5 : Int32) (M : eM), fX10_isPast_55 x3 x5 M = some res → Scr M res.2 := by
  intro x3 x5 M hf
  replace hf := (fX10_isPast_55.eq_1 ..).symm.trans hf
  rcases ea_if_s hf with ⟨_, hf⟩ | ⟨_, hf⟩
  · rcases ea_if_s hf with ⟨_, hf⟩ | ⟨_, hf⟩
    · exact scr_endi hf Scr.rf
    · exact scr_endi hf Scr.rf
  · rcases ea_if_s hf with ⟨_, hf⟩ | ⟨_, hf⟩
    · exact scr_endi hf Scr.rf
    · exact scr_endi hf Scr.rf
theorem sX10_isPast_0 {res : Int32 × eM} : ∀ (x1 : Int32) (x2 : Int32) (x3 : Int32) (x4 : Int32) (M : eM), fX10_isPast_0 x1 x2 x3 x4 M = some res → Scr M res.2 := by
  intro x1 x2 x3 x4 M hf
  replace hf := (fX10_isPast_0.eq_1 ..).symm.trans hf
  exact Scr.trans Scr.rf (sX10_isPast_6 (sX10_isPast_55) ea_N _ _ _ _ _ _ _ hf)
theorem sX10_isPast {res : Int32 × eM} {x1 : Int32} {x2 : Int32} {x3 : Int32} {x4 : Int32} {M : eM} (hf : fX10_isPast x1 x2 x3 x4 M = some res) : Scr M res.2 := sX10_isPast_0 _ _ _ _ _ hf
