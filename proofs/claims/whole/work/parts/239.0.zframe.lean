def isZ (c : Nat) (k : Nat) : Bool := c == 52 || c == 62
/-- the palettes stay -/
def ScZ (M M' : eM) : Prop := ∀ c k, isZ c k = true → M'.1 c k = M.1 c k
theorem ScZ.rf {M : eM} : ScZ M M := fun _ _ _ => rfl
theorem ScZ.trans {M M1 M2 : eM} (h1 : ScZ M M1) (h2 : ScZ M1 M2) : ScZ M M2 := fun c k h => (h2 c k h).trans (h1 c k h)
theorem ScZ.pI {M M1 : eM} (h : ScZ M M1) {c k : Nat} {x : Int32} (hi : isZ c k = false) : ScZ M (ea_pI M1 c k x) := by
  intro a j ha
  rw [ea_pI_ne]
  · exact h a j ha
  · refine Or.inl (fun e => ?_)
    subst e
    rw [show isZ a j = isZ a k from rfl, hi] at ha
    cases ha
theorem ScZ.pL {M M1 : eM} (h : ScZ M M1) {c k : Nat} {x : Int64} : ScZ M (ea_pL M1 c k x) := fun a j ha => h a j ha
theorem scz_endi {M M1 : eM} {r : Int32} {res : Int32 × eM} (h : some (r, M1) = some res) (hs : ScZ M M1) : ScZ M res.2 := by cases h; exact hs
theorem scz_endv {M M1 res : eM} (h : some M1 = some res) (hs : ScZ M M1) : ScZ M res := by cases h; exact hs
theorem zX10_isWithin_0 {res : Int32 × eM} : ∀ (x0 : Int32) (x1 : Int32) (x2 : Int32) (M : eM), fX10_isWithin_0 x0 x1 x2 M = some res → ScZ M res.2 := by
  intro x0 x1 x2 M hf
  replace hf := (fX10_isWithin_0.eq_1 ..).symm.trans hf
  rcases ea_if_s hf with ⟨_, hf⟩ | ⟨_, hf⟩
  · exact scz_endi hf ScZ.rf
  · rcases ea_if_s hf with ⟨_, hf⟩ | ⟨_, hf⟩
    · exact scz_endi hf ScZ.rf
    · exact scz_endi hf ScZ.rf
theorem zX10_isWithin {res : Int32 × eM} {x0 : Int32} {x1 : Int32} {x2 : Int32} {M : eM} (hf : fX10_isWithin x0 x1 x2 M = some res) : ScZ M res.2 := zX10_isWithin_0 _ _ _ _ hf
theorem zX10_areShades_0 {res : Int32 × eM} : ∀ (x0 : Int32) (x1 : Int32) (x2 : Int32) (M : eM), fX10_areShades_0 x0 x1 x2 M = some res → ScZ M res.2 := by
  intro x0 x1 x2 M hf
  replace hf := (fX10_areShades_0.eq_1 ..).symm.trans hf
  obtain ⟨r2, M3, he, hf⟩ := ea_ci_s hf
  have hs := ScZ.trans ScZ.rf (zX10_isWithin he)
  rcases ea_if_s hf with ⟨_, hf⟩ | ⟨_, hf⟩
  · exact scz_endi hf hs
  · obtain ⟨r6, M7, he, hf⟩ := ea_ci_s hf
    have hs := ScZ.trans hs (zX10_isWithin he)
    rcases ea_if_s hf with ⟨_, hf⟩ | ⟨_, hf⟩
    · exact scz_endi hf hs
    · obtain ⟨r10, M11, he, hf⟩ := ea_ci_s hf
      have hs := ScZ.trans hs (zX10_isWithin he)
      rcases ea_if_s hf with ⟨_, hf⟩ | ⟨_, hf⟩
      · exact scz_endi hf hs
      · exact scz_endi hf hs
theorem zX10_areShades {res : Int32 × eM} {x0 : Int32} {x1 : Int32} {x2 : Int32} {M : eM} (hf : fX10_areShades x0 x1 x2 M = some res) : ScZ M res.2 := zX10_areShades_0 _ _ _ _ hf
theorem zX1_cells_0 {res : Int32 × eM} {a0 : Nat} : ∀ (M : eM), fX1_cells_0 a0 M = some res → ScZ M res.2 := by
  intro M hf
  replace hf := (fX1_cells_0.eq_1 ..).symm.trans hf
  exact scz_endi hf ScZ.rf
theorem zX1_cells {res : Int32 × eM} {a0 : Nat} {M : eM} (hf : fX1_cells a0 M = some res) : ScZ M res.2 := zX1_cells_0  _ hf
theorem zX10_isCell_0 {res : Int32 × eM} : ∀ (x1 : Int32) (M : eM), fX10_isCell_0 x1 M = some res → ScZ M res.2 := by
  intro x1 M hf
  replace hf := (fX10_isCell_0.eq_1 ..).symm.trans hf
  obtain ⟨_, hf⟩ := ea_ck_s hf
  obtain ⟨r3, M4, he, hf⟩ := ea_ci_s hf
  have hs := ScZ.trans ScZ.rf (zX1_cells he)
  obtain ⟨r6, M7, he, hf⟩ := ea_ci_s hf
  have hs := ScZ.trans hs (zX10_isWithin he)
  obtain ⟨_, hf⟩ := ea_ck_s hf
  exact scz_endi hf hs
theorem zX10_isCell {res : Int32 × eM} {x1 : Int32} {M : eM} (hf : fX10_isCell x1 M = some res) : ScZ M res.2 := zX10_isCell_0 _ _ hf
theorem zX10_mayTell_0 {res : Int32 × eM} : ∀ (x1 : Int32) (M : eM), fX10_mayTell_0 x1 M = some res → ScZ M res.2 := by
  intro x1 M hf
  replace hf := (fX10_mayTell_0.eq_1 ..).symm.trans hf
  obtain ⟨r2, M3, he, hf⟩ := ea_ci_s hf
  have hs := ScZ.trans ScZ.rf (zX10_isWithin he)
  obtain ⟨_, hf⟩ := ea_ck_s hf
  exact scz_endi hf hs
theorem zX10_mayTell {res : Int32 × eM} {x1 : Int32} {M : eM} (hf : fX10_mayTell x1 M = some res) : ScZ M res.2 := zX10_mayTell_0 _ _ hf
theorem zX8_putEntry_0 {res : eM} {a0 : Nat} {a1 : Nat} (ha0 : a0 = 30) (ha1 : ∀ k, isZ a1 k = false) : ∀ (x2 : Int32) (x3 : Int32) (x4 : Int32) (x5 : Int32) (M : eM), fX8_putEntry_0 a0 a1 x2 x3 x4 x5 M = some res → ScZ M res := by
  intro x2 x3 x4 x5 M hf
  replace hf := (fX8_putEntry_0.eq_1 ..).symm.trans hf
  obtain ⟨_, hf⟩ := ea_ck_s hf
  obtain ⟨_, hf⟩ := ea_ck_s hf
  obtain ⟨_, hf⟩ := ea_ck_s hf
  exact scz_endv hf ((((ScZ.rf.pI (ha1 _)).pI (ha1 _)).pI (ha1 _)).pI (by subst ha0; rfl))
theorem zX8_putEntry {res : eM} {a0 : Nat} {a1 : Nat} {x2 : Int32} {x3 : Int32} {x4 : Int32} {x5 : Int32} (ha0 : a0 = 30) (ha1 : ∀ k, isZ a1 k = false) {M : eM} (hf : fX8_putEntry a0 a1 x2 x3 x4 x5 M = some res) : ScZ M res := zX8_putEntry_0 ha0 ha1 _ _ _ _ _ hf
theorem zX8_putShades_0 {res : eM} {a0 : Nat} (ha0 : ∀ k, isZ a0 k = false) : ∀ (x1 : Int32) (x2 : Int32) (x3 : Int32) (x4 : Int32) (M : eM), fX8_putShades_0 a0 x1 x2 x3 x4 M = some res → ScZ M res := by
  intro x1 x2 x3 x4 M hf
  replace hf := (fX8_putShades_0.eq_1 ..).symm.trans hf
  obtain ⟨_, hf⟩ := ea_ck_s hf
  obtain ⟨_, hf⟩ := ea_ck_s hf
  obtain ⟨_, hf⟩ := ea_ck_s hf
  exact scz_endv hf (((ScZ.rf.pI (ha0 _)).pI (ha0 _)).pI (ha0 _))
theorem zX8_putShades {res : eM} {a0 : Nat} {x1 : Int32} {x2 : Int32} {x3 : Int32} {x4 : Int32} (ha0 : ∀ k, isZ a0 k = false) {M : eM} (hf : fX8_putShades a0 x1 x2 x3 x4 M = some res) : ScZ M res := zX8_putShades_0 ha0 _ _ _ _ _ hf
theorem zX8_addTried_0 {res : eM} {a0 : Nat} (ha0 : a0 = 30) : ∀ (x1 : Int32) (x2 : Int32) (x3 : Int32) (x4 : Int32) (x5 : Int32) (x6 : Int32) (M : eM), fX8_addTried_0 a0 x1 x2 x3 x4 x5 x6 M = some res → ScZ M res := by
  intro x1 x2 x3 x4 x5 x6 M hf
  replace hf := (fX8_addTried_0.eq_1 ..).symm.trans hf
  rcases ea_if_s hf with ⟨_, hf⟩ | ⟨_, hf⟩
  · exact scz_endv hf ScZ.rf
  · obtain ⟨M3, he, hf⟩ := ea_cv_s hf
    have hs := ScZ.trans ScZ.rf (zX8_putEntry ha0 (by subst ha0; exact fun _ => rfl) he)
    obtain ⟨M5, he, hf⟩ := ea_cv_s hf
    have hs := ScZ.trans hs (zX8_putShades (by subst ha0; exact fun _ => rfl) he)
    exact scz_endv hf (hs.pI (by subst ha0; rfl))
theorem zX8_addTried {res : eM} {a0 : Nat} {x1 : Int32} {x2 : Int32} {x3 : Int32} {x4 : Int32} {x5 : Int32} {x6 : Int32} (ha0 : a0 = 30) {M : eM} (hf : fX8_addTried a0 x1 x2 x3 x4 x5 x6 M = some res) : ScZ M res := zX8_addTried_0 ha0 _ _ _ _ _ _ _ hf
theorem zX10_attempt_0 {res : Int32 × eM} : ∀ (x1 : Int32) (x2 : Int32) (x3 : Int32) (x4 : Int32) (x5 : Int32) (x6 : Int32) (M : eM), fX10_attempt_0 x1 x2 x3 x4 x5 x6 M = some res → ScZ M res.2 := by
  intro x1 x2 x3 x4 x5 x6 M hf
  replace hf := (fX10_attempt_0.eq_1 ..).symm.trans hf
  obtain ⟨r2, M3, he, hf⟩ := ea_ci_s hf
  have hs := ScZ.trans ScZ.rf (zX10_mayTell he)
  rcases ea_if_s hf with ⟨_, hf⟩ | ⟨_, hf⟩
  · exact scz_endi hf hs
  · obtain ⟨r6, M7, he, hf⟩ := ea_ci_s hf
    have hs := ScZ.trans hs (zX10_isCell he)
    rcases ea_if_s hf with ⟨_, hf⟩ | ⟨_, hf⟩
    · exact scz_endi hf hs
    · obtain ⟨r10, M11, he, hf⟩ := ea_ci_s hf
      have hs := ScZ.trans hs (zX10_isWithin he)
      rcases ea_if_s hf with ⟨_, hf⟩ | ⟨_, hf⟩
      · exact scz_endi hf hs
      · obtain ⟨r14, M15, he, hf⟩ := ea_ci_s hf
        have hs := ScZ.trans hs (zX10_areShades he)
        rcases ea_if_s hf with ⟨_, hf⟩ | ⟨_, hf⟩
        · exact scz_endi hf hs
        · rcases ea_if_s hf with ⟨_, hf⟩ | ⟨_, hf⟩
          · obtain ⟨M19, he, hf⟩ := ea_cv_s hf
            have hs := ScZ.trans hs (zX8_addTried rfl he)
            exact scz_endi hf hs
          · exact scz_endi hf hs
theorem zX10_attempt {res : Int32 × eM} {x1 : Int32} {x2 : Int32} {x3 : Int32} {x4 : Int32} {x5 : Int32} {x6 : Int32} {M : eM} (hf : fX10_attempt x1 x2 x3 x4 x5 x6 M = some res) : ScZ M res.2 := zX10_attempt_0 _ _ _ _ _ _ _ hf
theorem zX10_isStory_0 {res : Int32 × eM} : ∀ (x1 : Int32) (M : eM), fX10_isStory_0 x1 M = some res → ScZ M res.2 := by
  intro x1 M hf
  replace hf := (fX10_isStory_0.eq_1 ..).symm.trans hf
  obtain ⟨_, hf⟩ := ea_ck_s hf
  obtain ⟨r3, M4, he, hf⟩ := ea_ci_s hf
  have hs := ScZ.trans ScZ.rf (zX10_isWithin he)
  obtain ⟨_, hf⟩ := ea_ck_s hf
  exact scz_endi hf hs
theorem zX10_isStory {res : Int32 × eM} {x1 : Int32} {M : eM} (hf : fX10_isStory x1 M = some res) : ScZ M res.2 := zX10_isStory_0 _ _ hf
theorem zX1_halved_11 {res : Int32 × eM} : ∀ (x0 : Int32) (t0 : Int32) (M : eM), fX1_halved_11 x0 t0 M = some res → ScZ M res.2 := by
  intro x0 t0 M hf
  replace hf := (fX1_halved_11.eq_1 ..).symm.trans hf
  rcases ea_if_s hf with ⟨_, hf⟩ | ⟨_, hf⟩
  · exact scz_endi hf ScZ.rf
  · exact scz_endi hf ScZ.rf
theorem zX1_halved_0 {res : Int32 × eM} : ∀ (x0 : Int32) (x1 : Int32) (x2 : Int32) (M : eM), fX1_halved_0 x0 x1 x2 M = some res → ScZ M res.2 := by
  intro x0 x1 x2 M hf
  replace hf := (fX1_halved_0.eq_1 ..).symm.trans hf
  rcases ea_if_s hf with ⟨_, hf⟩ | ⟨_, hf⟩
  · exact ScZ.trans ScZ.rf (zX1_halved_11 _ _ _ hf)
  · obtain ⟨_, hf⟩ := ea_ck_s hf
    exact ScZ.trans ScZ.rf (zX1_halved_11 _ _ _ hf)
theorem zX1_halved {res : Int32 × eM} {x0 : Int32} {x1 : Int32} {x2 : Int32} {M : eM} (hf : fX1_halved x0 x1 x2 M = some res) : ScZ M res.2 := zX1_halved_0 _ _ _ _ hf
theorem zX1_strengthOf_0 {res : Int32 × eM} {a0 : Nat} : ∀ (x1 : Int32) (x2 : Int32) (M : eM), fX1_strengthOf_0 a0 x1 x2 M = some res → ScZ M res.2 := by
  intro x1 x2 M hf
  replace hf := (fX1_strengthOf_0.eq_1 ..).symm.trans hf
  obtain ⟨_, hf⟩ := ea_ck_s hf
  obtain ⟨y2, _, hf⟩ := ea_lt_s hf
  obtain ⟨_, hf⟩ := ea_ck_s hf
  obtain ⟨r6, M7, he, hf⟩ := ea_ci_s hf
  have hs := ScZ.trans ScZ.rf (zX1_halved he)
  obtain ⟨_, hf⟩ := ea_ck_s hf
  obtain ⟨r10, M11, he, hf⟩ := ea_ci_s hf
  have hs := ScZ.trans hs (zX1_halved he)
  exact scz_endi hf hs
theorem zX1_strengthOf {res : Int32 × eM} {a0 : Nat} {x1 : Int32} {x2 : Int32} {M : eM} (hf : fX1_strengthOf a0 x1 x2 M = some res) : ScZ M res.2 := zX1_strengthOf_0 _ _ _ hf
theorem zX1_takesOf_0 {res : Int32 × eM} {a0 : Nat} : ∀ (x1 : Int32) (x2 : Int32) (M : eM), fX1_takesOf_0 a0 x1 x2 M = some res → ScZ M res.2 := by
  intro x1 x2 M hf
  replace hf := (fX1_takesOf_0.eq_1 ..).symm.trans hf
  obtain ⟨_, hf⟩ := ea_ck_s hf
  exact scz_endi hf ScZ.rf
theorem zX1_takesOf {res : Int32 × eM} {a0 : Nat} {x1 : Int32} {x2 : Int32} {M : eM} (hf : fX1_takesOf a0 x1 x2 M = some res) : ScZ M res.2 := zX1_takesOf_0 _ _ _ hf
theorem zX9_takenBy_0 {res : Int32 × eM} : ∀ (x1 : Int32) (x2 : Int32) (x3 : Int32) (M : eM), fX9_takenBy_0 x1 x2 x3 M = some res → ScZ M res.2 := by
  intro x1 x2 x3 M hf
  replace hf := (fX9_takenBy_0.eq_1 ..).symm.trans hf
  rcases ea_if_s hf with ⟨_, hf⟩ | ⟨_, hf⟩
  · obtain ⟨_, hf⟩ := ea_ck_s hf
    obtain ⟨r4, M5, he, hf⟩ := ea_ci_s hf
    have hs := ScZ.trans ScZ.rf (zX1_takesOf he)
    obtain ⟨_, hf⟩ := ea_ck_s hf
    obtain ⟨r8, M9, he, hf⟩ := ea_ci_s hf
    have hs := ScZ.trans hs (zX1_strengthOf he)
    exact scz_endi hf hs
  · exact scz_endi hf ScZ.rf
theorem zX9_takenBy {res : Int32 × eM} {x1 : Int32} {x2 : Int32} {x3 : Int32} {M : eM} (hf : fX9_takenBy x1 x2 x3 M = some res) : ScZ M res.2 := zX9_takenBy_0 _ _ _ _ hf
theorem zX9_shadeOf_0 {res : Int32 × eM} : ∀ (x1 : Int32) (x2 : Int32) (x3 : Int32) (M : eM), fX9_shadeOf_0 x1 x2 x3 M = some res → ScZ M res.2 := by
  intro x1 x2 x3 M hf
  replace hf := (fX9_shadeOf_0.eq_1 ..).symm.trans hf
  obtain ⟨_, hf⟩ := ea_ck_s hf
  obtain ⟨r3, M4, he, hf⟩ := ea_ci_s hf
  have hs := ScZ.trans ScZ.rf (zX9_takenBy he)
  obtain ⟨_, hf⟩ := ea_ck_s hf
  obtain ⟨r7, M8, he, hf⟩ := ea_ci_s hf
  have hs := ScZ.trans hs (zX9_takenBy he)
  exact scz_endi hf hs
theorem zX9_shadeOf {res : Int32 × eM} {x1 : Int32} {x2 : Int32} {x3 : Int32} {M : eM} (hf : fX9_shadeOf x1 x2 x3 M = some res) : ScZ M res.2 := zX9_shadeOf_0 _ _ _ _ hf
theorem zX1_hangPlace_0 {res : Int32 × eM} : ∀ (x0 : Int32) (x1 : Int32) (M : eM), fX1_hangPlace_0 x0 x1 M = some res → ScZ M res.2 := by
  intro x0 x1 M hf
  replace hf := (fX1_hangPlace_0.eq_1 ..).symm.trans hf
  exact scz_endi hf ScZ.rf
theorem zX1_hangPlace {res : Int32 × eM} {x0 : Int32} {x1 : Int32} {M : eM} (hf : fX1_hangPlace x0 x1 M = some res) : ScZ M res.2 := zX1_hangPlace_0 _ _ _ hf
theorem zX1_lightAt_0 {res : Int32 × eM} {a0 : Nat} : ∀ (x1 : Int32) (x2 : Int32) (x3 : Int32) (M : eM), fX1_lightAt_0 a0 x1 x2 x3 M = some res → ScZ M res.2 := by
  intro x1 x2 x3 M hf
  replace hf := (fX1_lightAt_0.eq_1 ..).symm.trans hf
  rcases ea_if_s hf with ⟨_, hf⟩ | ⟨_, hf⟩
  · exact scz_endi hf ScZ.rf
  · obtain ⟨_, hf⟩ := ea_ck_s hf
    exact scz_endi hf ScZ.rf
theorem zX1_lightAt {res : Int32 × eM} {a0 : Nat} {x1 : Int32} {x2 : Int32} {x3 : Int32} {M : eM} (hf : fX1_lightAt a0 x1 x2 x3 M = some res) : ScZ M res.2 := zX1_lightAt_0 _ _ _ _ hf
theorem zX1_hoursOf_110 {res : Int32 × eM} {a0 : Nat} {k9 : Int32 → Int32 → Int32 → Int32 → Int32 → Int32 → Int32 → eM → Option (Int32 × eM)} (hk9 : ∀ (x1 : Int32) (x2 : Int32) (x3 : Int32) (x4 : Int32) (x5 : Int32) (x6 : Int32) (x7 : Int32) (M : eM), k9 x1 x2 x3 x4 x5 x6 x7 M = some res → ScZ M res.2) : ∀ (x1 : Int32) (x2 : Int32) (x3 : Int32) (x4 : Int32) (x7 : Int32) (x9 : Int32) (t0 : Int32) (t1 : Int32) (M : eM), fX1_hoursOf_110 k9 a0 x1 x2 x3 x4 x7 x9 t0 t1 M = some res → ScZ M res.2 := by
  intro x1 x2 x3 x4 x7 x9 t0 t1 M hf
  replace hf := (fX1_hoursOf_110.eq_1 ..).symm.trans hf
  exact ScZ.trans ScZ.rf (hk9 _ _ _ _ _ _ _ _ hf)
theorem zX1_hoursOf_9 {res : Int32 × eM} {a0 : Nat} : ∀ (n : Nat) (x1 : Int32) (x2 : Int32) (x3 : Int32) (x4 : Int32) (x5 : Int32) (x6 : Int32) (x7 : Int32) (M : eM), fX1_hoursOf_9 a0 n x1 x2 x3 x4 x5 x6 x7 M = some res → ScZ M res.2 := by
  intro n
  induction n with
  | zero => intro x1 x2 x3 x4 x5 x6 x7 M hf; cases hf
  | succ n ih =>
    intro x1 x2 x3 x4 x5 x6 x7 M hf
    replace hf := (fX1_hoursOf_9.eq_2 ..).symm.trans hf
    obtain ⟨_, hf⟩ := ea_ck_s hf
    rcases ea_if_s hf with ⟨_, hf⟩ | ⟨_, hf⟩
    · exact scz_endi hf ScZ.rf
    · obtain ⟨r4, M5, he, hf⟩ := ea_ci_s hf
      have hs := ScZ.trans ScZ.rf (zX1_hangPlace he)
      obtain ⟨_, hf⟩ := ea_ck_s hf
      obtain ⟨y7, _, hf⟩ := ea_lt_s hf
      obtain ⟨y9, _, hf⟩ := ea_lt_s hf
      obtain ⟨_, hf⟩ := ea_ck_s hf
      obtain ⟨_, hf⟩ := ea_ck_s hf
      obtain ⟨r14, M15, he, hf⟩ := ea_ci_s hf
      have hs := ScZ.trans hs (zX1_lightAt he)
      rcases ea_if_s hf with ⟨_, hf⟩ | ⟨_, hf⟩
      · exact ScZ.trans hs (zX1_hoursOf_110 ih _ _ _ _ _ _ _ _ _ hf)
      · obtain ⟨_, hf⟩ := ea_ck_s hf
        exact ScZ.trans hs (zX1_hoursOf_110 ih _ _ _ _ _ _ _ _ _ hf)
theorem zX1_hoursOf_0 {res : Int32 × eM} {a0 : Nat} : ∀ (x1 : Int32) (x2 : Int32) (x3 : Int32) (x4 : Int32) (M : eM), fX1_hoursOf_0 a0 x1 x2 x3 x4 M = some res → ScZ M res.2 := by
  intro x1 x2 x3 x4 M hf
  replace hf := (fX1_hoursOf_0.eq_1 ..).symm.trans hf
  exact ScZ.trans ScZ.rf (zX1_hoursOf_9 ea_N _ _ _ _ _ _ _ _ hf)
theorem zX1_hoursOf {res : Int32 × eM} {a0 : Nat} {x1 : Int32} {x2 : Int32} {x3 : Int32} {x4 : Int32} {M : eM} (hf : fX1_hoursOf a0 x1 x2 x3 x4 M = some res) : ScZ M res.2 := zX1_hoursOf_0 _ _ _ _ _ hf
theorem zX8_lookShade_0 {res : Int32 × eM} {a0 : Nat} (ha0 : a0 = 30) : ∀ (x1 : Int32) (x2 : Int32) (M : eM), fX8_lookShade_0 a0 x1 x2 M = some res → ScZ M res.2 := by
  intro x1 x2 M hf
  replace hf := (fX8_lookShade_0.eq_1 ..).symm.trans hf
  rcases ea_if_s hf with ⟨_, hf⟩ | ⟨_, hf⟩
  · exact scz_endi hf ScZ.rf
  · rcases ea_if_s hf with ⟨_, hf⟩ | ⟨_, hf⟩
    · exact scz_endi hf ScZ.rf
    · obtain ⟨_, hf⟩ := ea_ck_s hf
      exact scz_endi hf ScZ.rf
theorem zX8_lookShade {res : Int32 × eM} {a0 : Nat} {x1 : Int32} {x2 : Int32} (ha0 : a0 = 30) {M : eM} (hf : fX8_lookShade a0 x1 x2 M = some res) : ScZ M res.2 := zX8_lookShade_0 ha0 _ _ _ hf
theorem zX8_isSeen_0 {res : Int32 × eM} {a0 : Nat} (ha0 : a0 = 30) : ∀ (x1 : Int32) (M : eM), fX8_isSeen_0 a0 x1 M = some res → ScZ M res.2 := by
  intro x1 M hf
  replace hf := (fX8_isSeen_0.eq_1 ..).symm.trans hf
  obtain ⟨r2, M3, he, hf⟩ := ea_ci_s hf
  have hs := ScZ.trans ScZ.rf (zX8_lookShade ha0 he)
  rcases ea_if_s hf with ⟨_, hf⟩ | ⟨_, hf⟩
  · exact scz_endi hf hs
  · exact scz_endi hf hs
theorem zX8_isSeen {res : Int32 × eM} {a0 : Nat} {x1 : Int32} (ha0 : a0 = 30) {M : eM} (hf : fX8_isSeen a0 x1 M = some res) : ScZ M res.2 := zX8_isSeen_0 ha0 _ _ hf
theorem zX8_latestLook_60 {res : Int32 × eM} {a0 : Nat} (ha0 : a0 = 30) {k8 : Int32 → Int32 → Int32 → Int32 → eM → Option (Int32 × eM)} (hk8 : ∀ (x1 : Int32) (x2 : Int32) (x3 : Int32) (x4 : Int32) (M : eM), k8 x1 x2 x3 x4 M = some res → ScZ M res.2) : ∀ (x1 : Int32) (x2 : Int32) (x3 : Int32) (x4 : Int32) (M : eM), fX8_latestLook_60 k8 a0 x1 x2 x3 x4 M = some res → ScZ M res.2 := by
  intro x1 x2 x3 x4 M hf
  replace hf := (fX8_latestLook_60.eq_1 ..).symm.trans hf
  exact ScZ.trans ScZ.rf (hk8 _ _ _ _ _ hf)
theorem zX8_latestLook_8 {res : Int32 × eM} {a0 : Nat} (ha0 : a0 = 30) : ∀ (n : Nat) (x1 : Int32) (x2 : Int32) (x3 : Int32) (x4 : Int32) (M : eM), fX8_latestLook_8 a0 n x1 x2 x3 x4 M = some res → ScZ M res.2 := by
  intro n
  induction n with
  | zero => intro x1 x2 x3 x4 M hf; cases hf
  | succ n ih =>
    intro x1 x2 x3 x4 M hf
    replace hf := (fX8_latestLook_8.eq_2 ..).symm.trans hf
    rcases ea_if_s hf with ⟨_, hf⟩ | ⟨_, hf⟩
    · exact scz_endi hf ScZ.rf
    · obtain ⟨_, hf⟩ := ea_ck_s hf
      rcases ea_if_s hf with ⟨_, hf⟩ | ⟨_, hf⟩
      · exact ScZ.trans ScZ.rf (zX8_latestLook_60 ha0 ih _ _ _ _ _ hf)
      · obtain ⟨_, hf⟩ := ea_ck_s hf
        rcases ea_if_s hf with ⟨_, hf⟩ | ⟨_, hf⟩
        · obtain ⟨_, hf⟩ := ea_ck_s hf
          rcases ea_if_s hf with ⟨_, hf⟩ | ⟨_, hf⟩
          · exact scz_endi hf ScZ.rf
          · exact ScZ.trans ScZ.rf (zX8_latestLook_60 ha0 ih _ _ _ _ _ hf)
        · exact ScZ.trans ScZ.rf (zX8_latestLook_60 ha0 ih _ _ _ _ _ hf)
theorem zX8_latestLook_0 {res : Int32 × eM} {a0 : Nat} (ha0 : a0 = 30) : ∀ (x1 : Int32) (x2 : Int32) (x3 : Int32) (M : eM), fX8_latestLook_0 a0 x1 x2 x3 M = some res → ScZ M res.2 := by
  intro x1 x2 x3 M hf
  replace hf := (fX8_latestLook_0.eq_1 ..).symm.trans hf
  exact ScZ.trans ScZ.rf (zX8_latestLook_8 ha0 ea_N _ _ _ _ _ hf)
theorem zX8_latestLook {res : Int32 × eM} {a0 : Nat} {x1 : Int32} {x2 : Int32} {x3 : Int32} (ha0 : a0 = 30) {M : eM} (hf : fX8_latestLook a0 x1 x2 x3 M = some res) : ScZ M res.2 := zX8_latestLook_0 ha0 _ _ _ _ hf
theorem zX9_rowOf_0 {res : Int32 × eM} : ∀ (x0 : Int32) (x1 : Int32) (M : eM), fX9_rowOf_0 x0 x1 M = some res → ScZ M res.2 := by
  intro x0 x1 M hf
  replace hf := (fX9_rowOf_0.eq_1 ..).symm.trans hf
  exact scz_endi hf ScZ.rf
theorem zX9_rowOf {res : Int32 × eM} {x0 : Int32} {x1 : Int32} {M : eM} (hf : fX9_rowOf x0 x1 M = some res) : ScZ M res.2 := zX9_rowOf_0 _ _ _ hf
theorem zX10_isStep_0 {res : Int32 × eM} : ∀ (x0 : Int32) (M : eM), fX10_isStep_0 x0 M = some res → ScZ M res.2 := by
  intro x0 M hf
  replace hf := (fX10_isStep_0.eq_1 ..).symm.trans hf
  obtain ⟨r2, M3, he, hf⟩ := ea_ci_s hf
  have hs := ScZ.trans ScZ.rf (zX10_isWithin he)
  obtain ⟨_, hf⟩ := ea_ck_s hf
  exact scz_endi hf hs
theorem zX10_isStep {res : Int32 × eM} {x0 : Int32} {M : eM} (hf : fX10_isStep x0 M = some res) : ScZ M res.2 := zX10_isStep_0 _ _ hf
theorem zX10_isColour_0 {res : Int32 × eM} : ∀ (x0 : Int32) (M : eM), fX10_isColour_0 x0 M = some res → ScZ M res.2 := by
  intro x0 M hf
  replace hf := (fX10_isColour_0.eq_1 ..).symm.trans hf
  obtain ⟨r2, M3, he, hf⟩ := ea_ci_s hf
  have hs := ScZ.trans ScZ.rf (zX10_isWithin he)
  obtain ⟨_, hf⟩ := ea_ck_s hf
  exact scz_endi hf hs
theorem zX10_isColour {res : Int32 × eM} {x0 : Int32} {M : eM} (hf : fX10_isColour x0 M = some res) : ScZ M res.2 := zX10_isColour_0 _ _ hf
theorem zX10_isThread_0 {res : Int32 × eM} : ∀ (x1 : Int32) (M : eM), fX10_isThread_0 x1 M = some res → ScZ M res.2 := by
  intro x1 M hf
  replace hf := (fX10_isThread_0.eq_1 ..).symm.trans hf
  obtain ⟨r2, M3, he, hf⟩ := ea_ci_s hf
  have hs := ScZ.trans ScZ.rf (zX10_isWithin he)
  obtain ⟨_, hf⟩ := ea_ck_s hf
  exact scz_endi hf hs
theorem zX10_isThread {res : Int32 × eM} {x1 : Int32} {M : eM} (hf : fX10_isThread x1 M = some res) : ScZ M res.2 := zX10_isThread_0 _ _ hf
theorem zX10_colour_30 {res : Int32 × eM} : ∀ (x1 : Int32) (x2 : Int32) (x3 : Int32) (t0 : Int32) (M : eM), fX10_colour_30 x1 x2 x3 t0 M = some res → ScZ M res.2 := by
  intro x1 x2 x3 t0 M hf
  replace hf := (fX10_colour_30.eq_1 ..).symm.trans hf
  rcases ea_if_s hf with ⟨_, hf⟩ | ⟨_, hf⟩
  · exact scz_endi hf ScZ.rf
  · obtain ⟨r3, M4, he, hf⟩ := ea_ci_s hf
    have hs := ScZ.trans ScZ.rf (zX9_shadeOf he)
    exact scz_endi hf hs
theorem zX10_colour_29 {res : Int32 × eM} : ∀ (x1 : Int32) (x2 : Int32) (x3 : Int32) (M : eM), fX10_colour_29 x1 x2 x3 M = some res → ScZ M res.2 := by
  intro x1 x2 x3 M hf
  replace hf := (fX10_colour_29.eq_1 ..).symm.trans hf
  exact ScZ.trans ScZ.rf (zX10_colour_30 _ _ _ _ _ hf)
theorem zX10_colour_0 {res : Int32 × eM} : ∀ (x1 : Int32) (x2 : Int32) (x3 : Int32) (M : eM), fX10_colour_0 x1 x2 x3 M = some res → ScZ M res.2 := by
  intro x1 x2 x3 M hf
  replace hf := (fX10_colour_0.eq_1 ..).symm.trans hf
  obtain ⟨r2, M3, he, hf⟩ := ea_ci_s hf
  have hs := ScZ.trans ScZ.rf (zX10_isThread he)
  rcases ea_if_s hf with ⟨_, hf⟩ | ⟨_, hf⟩
  · exact ScZ.trans hs (zX10_colour_29 _ _ _ _ hf)
  · obtain ⟨r6, M7, he, hf⟩ := ea_ci_s hf
    have hs := ScZ.trans hs (zX10_isWithin he)
    rcases ea_if_s hf with ⟨_, hf⟩ | ⟨_, hf⟩
    · exact ScZ.trans hs (zX10_colour_29 _ _ _ _ hf)
    · obtain ⟨r10, M11, he, hf⟩ := ea_ci_s hf
      have hs := ScZ.trans hs (zX10_isColour he)
      rcases ea_if_s hf with ⟨_, hf⟩ | ⟨_, hf⟩
      · exact ScZ.trans hs (zX10_colour_29 _ _ _ _ hf)
      · exact ScZ.trans hs (zX10_colour_30 _ _ _ _ _ hf)
theorem zX10_colour {res : Int32 × eM} {x1 : Int32} {x2 : Int32} {x3 : Int32} {M : eM} (hf : fX10_colour x1 x2 x3 M = some res) : ScZ M res.2 := zX10_colour_0 _ _ _ _ hf
theorem zX10_count_0 {res : Int32 × eM} : ∀ (x1 : Int32) (M : eM), fX10_count_0 x1 M = some res → ScZ M res.2 := by
  intro x1 M hf
  replace hf := (fX10_count_0.eq_1 ..).symm.trans hf
  rcases ea_if_s hf with ⟨_, hf⟩ | ⟨_, hf⟩
  · obtain ⟨_, hf⟩ := ea_ck_s hf
    exact scz_endi hf ScZ.rf
  · rcases ea_if_s hf with ⟨_, hf⟩ | ⟨_, hf⟩
    · exact scz_endi hf ScZ.rf
    · rcases ea_if_s hf with ⟨_, hf⟩ | ⟨_, hf⟩
      · exact scz_endi hf ScZ.rf
      · rcases ea_if_s hf with ⟨_, hf⟩ | ⟨_, hf⟩
        · exact scz_endi hf ScZ.rf
        · rcases ea_if_s hf with ⟨_, hf⟩ | ⟨_, hf⟩
          · exact scz_endi hf ScZ.rf
          · rcases ea_if_s hf with ⟨_, hf⟩ | ⟨_, hf⟩
            · exact scz_endi hf ScZ.rf
            · exact scz_endi hf ScZ.rf
theorem zX10_count {res : Int32 × eM} {x1 : Int32} {M : eM} (hf : fX10_count x1 M = some res) : ScZ M res.2 := zX10_count_0 _ _ hf
theorem zX9_numberOf_32 {res : Int32 × eM} {k2 : Int32 → Int32 → Int32 → eM → Option (Int32 × eM)} (hk2 : ∀ (x1 : Int32) (x2 : Int32) (x3 : Int32) (M : eM), k2 x1 x2 x3 M = some res → ScZ M res.2) : ∀ (x1 : Int32) (x2 : Int32) (x3 : Int32) (M : eM), fX9_numberOf_32 k2 x1 x2 x3 M = some res → ScZ M res.2 := by
  intro x1 x2 x3 M hf
  replace hf := (fX9_numberOf_32.eq_1 ..).symm.trans hf
  exact ScZ.trans ScZ.rf (hk2 _ _ _ _ hf)
theorem zX9_numberOf_2 {res : Int32 × eM} : ∀ (n : Nat) (x1 : Int32) (x2 : Int32) (x3 : Int32) (M : eM), fX9_numberOf_2 n x1 x2 x3 M = some res → ScZ M res.2 := by
  intro n
  induction n with
  | zero => intro x1 x2 x3 M hf; cases hf
  | succ n ih =>
    intro x1 x2 x3 M hf
    replace hf := (fX9_numberOf_2.eq_2 ..).symm.trans hf
    rcases ea_if_s hf with ⟨_, hf⟩ | ⟨_, hf⟩
    · exact scz_endi hf ScZ.rf
    · obtain ⟨_, hf⟩ := ea_ck_s hf
      rcases ea_if_s hf with ⟨_, hf⟩ | ⟨_, hf⟩
      · obtain ⟨_, hf⟩ := ea_ck_s hf
        rcases ea_if_s hf with ⟨_, hf⟩ | ⟨_, hf⟩
        · exact scz_endi hf ScZ.rf
        · exact ScZ.trans ScZ.rf (zX9_numberOf_32 ih _ _ _ _ hf)
      · exact ScZ.trans ScZ.rf (zX9_numberOf_32 ih _ _ _ _ hf)
theorem zX9_numberOf_0 {res : Int32 × eM} : ∀ (x1 : Int32) (x2 : Int32) (M : eM), fX9_numberOf_0 x1 x2 M = some res → ScZ M res.2 := by
  intro x1 x2 M hf
  replace hf := (fX9_numberOf_0.eq_1 ..).symm.trans hf
  exact ScZ.trans ScZ.rf (zX9_numberOf_2 ea_N _ _ _ _ hf)
theorem zX9_numberOf {res : Int32 × eM} {x1 : Int32} {x2 : Int32} {M : eM} (hf : fX9_numberOf x1 x2 M = some res) : ScZ M res.2 := zX9_numberOf_0 _ _ _ hf
theorem zX10_end_0 {res : Int32 × eM} : ∀ (x1 : Int32) (M : eM), fX10_end_0 x1 M = some res → ScZ M res.2 := by
  intro x1 M hf
  replace hf := (fX10_end_0.eq_1 ..).symm.trans hf
  rcases ea_if_s hf with ⟨_, hf⟩ | ⟨_, hf⟩
  · exact scz_endi hf ScZ.rf
  · rcases ea_if_s hf with ⟨_, hf⟩ | ⟨_, hf⟩
    · exact scz_endi hf (ScZ.rf.pI rfl)
    · exact scz_endi hf ScZ.rf
theorem zX10_end {res : Int32 × eM} {x1 : Int32} {M : eM} (hf : fX10_end x1 M = some res) : ScZ M res.2 := zX10_end_0 _ _ hf
theorem zX10_fault_0 {res : Int32 × eM} : ∀ (x1 : Int32) (M : eM), fX10_fault_0 x1 M = some res → ScZ M res.2 := by
  intro x1 M hf
  replace hf := (fX10_fault_0.eq_1 ..).symm.trans hf
  rcases ea_if_s hf with ⟨_, hf⟩ | ⟨_, hf⟩
  · exact scz_endi hf ScZ.rf
  · rcases ea_if_s hf with ⟨_, hf⟩ | ⟨_, hf⟩
    · exact scz_endi hf ScZ.rf
    · exact scz_endi hf ScZ.rf
theorem zX10_fault {res : Int32 × eM} {x1 : Int32} {M : eM} (hf : fX10_fault x1 M = some res) : ScZ M res.2 := zX10_fault_0 _ _ hf
theorem zX7_addFour_3 {res : eM} : ∀ (n : Nat) (x1 : Int32) (x2 : Int32) (M : eM), fX7_addFour_3 n x1 x2 M = some res → ScZ M res := by
  intro n
  induction n with
  | zero => intro x1 x2 M hf; cases hf
  | succ n ih =>
    intro x1 x2 M hf
    replace hf := (fX7_addFour_3.eq_2 ..).symm.trans hf
    rcases ea_if_s hf with ⟨_, hf⟩ | ⟨_, hf⟩
    · exact scz_endv hf ScZ.rf
    · rcases ea_if_s hf with ⟨_, hf⟩ | ⟨_, hf⟩
      · exact scz_endv hf ScZ.rf
      · obtain ⟨_, hf⟩ := ea_ck_s hf
        exact ScZ.trans ((ScZ.rf.pI rfl).pI rfl) (ih _ _ _ hf)
theorem zX7_addFour_0 {res : eM} : ∀ (x1 : Int32) (M : eM), fX7_addFour_0 x1 M = some res → ScZ M res := by
  intro x1 M hf
  replace hf := (fX7_addFour_0.eq_1 ..).symm.trans hf
  exact ScZ.trans ScZ.rf (zX7_addFour_3 ea_N _ _ _ hf)
theorem zX7_addFour {res : eM} {x1 : Int32} {M : eM} (hf : fX7_addFour x1 M = some res) : ScZ M res := zX7_addFour_0 _ _ hf
theorem zX10_feed_0 {res : Int32 × eM} : ∀ (x1 : Int32) (x2 : Int32) (x3 : Int32) (x4 : Int32) (x5 : Int32) (M : eM), fX10_feed_0 x1 x2 x3 x4 x5 M = some res → ScZ M res.2 := by
  intro x1 x2 x3 x4 x5 M hf
  replace hf := (fX10_feed_0.eq_1 ..).symm.trans hf
  rcases ea_if_s hf with ⟨_, hf⟩ | ⟨_, hf⟩
  · obtain ⟨M3, he, hf⟩ := ea_cv_s hf
    have hs := ScZ.trans ScZ.rf (zX7_addFour he)
    obtain ⟨M5, he, hf⟩ := ea_cv_s hf
    have hs := ScZ.trans hs (zX7_addFour he)
    obtain ⟨M7, he, hf⟩ := ea_cv_s hf
    have hs := ScZ.trans hs (zX7_addFour he)
    obtain ⟨M9, he, hf⟩ := ea_cv_s hf
    have hs := ScZ.trans hs (zX7_addFour he)
    obtain ⟨M11, he, hf⟩ := ea_cv_s hf
    have hs := ScZ.trans hs (zX7_addFour he)
    exact scz_endi hf hs
  · exact scz_endi hf ScZ.rf
theorem zX10_feed {res : Int32 × eM} {x1 : Int32} {x2 : Int32} {x3 : Int32} {x4 : Int32} {x5 : Int32} {M : eM} (hf : fX10_feed x1 x2 x3 x4 x5 M = some res) : ScZ M res.2 := zX10_feed_0 _ _ _ _ _ _ hf
theorem zX10_isSide_9 {res : Int32 × eM} : ∀ (M : eM), fX10_isSide_9 M = some res → ScZ M res.2 := by
  intro M hf
  replace hf := (fX10_isSide_9.eq_1 ..).symm.trans hf
  exact scz_endi hf ScZ.rf
theorem zX10_isSide_0 {res : Int32 × eM} : ∀ (x0 : Int32) (M : eM), fX10_isSide_0 x0 M = some res → ScZ M res.2 := by
  intro x0 M hf
  replace hf := (fX10_isSide_0.eq_1 ..).symm.trans hf
  rcases ea_if_s hf with ⟨_, hf⟩ | ⟨_, hf⟩
  · exact ScZ.trans ScZ.rf (zX10_isSide_9 _ hf)
  · rcases ea_if_s hf with ⟨_, hf⟩ | ⟨_, hf⟩
    · exact ScZ.trans ScZ.rf (zX10_isSide_9 _ hf)
    · exact scz_endi hf ScZ.rf
theorem zX10_isSide {res : Int32 × eM} {x0 : Int32} {M : eM} (hf : fX10_isSide x0 M = some res) : ScZ M res.2 := zX10_isSide_0 _ _ hf
theorem zX8_addLook_0 {res : eM} {a0 : Nat} (ha0 : a0 = 30) : ∀ (x1 : Int32) (x2 : Int32) (x3 : Int32) (x4 : Int32) (x5 : Int32) (x6 : Int32) (M : eM), fX8_addLook_0 a0 x1 x2 x3 x4 x5 x6 M = some res → ScZ M res := by
  intro x1 x2 x3 x4 x5 x6 M hf
  replace hf := (fX8_addLook_0.eq_1 ..).symm.trans hf
  rcases ea_if_s hf with ⟨_, hf⟩ | ⟨_, hf⟩
  · exact scz_endv hf ScZ.rf
  · obtain ⟨M3, he, hf⟩ := ea_cv_s hf
    have hs := ScZ.trans ScZ.rf (zX8_putEntry ha0 (by subst ha0; exact fun _ => rfl) he)
    obtain ⟨M5, he, hf⟩ := ea_cv_s hf
    have hs := ScZ.trans hs (zX8_putShades (by subst ha0; exact fun _ => rfl) he)
    exact scz_endv hf (hs.pI (by subst ha0; rfl))
theorem zX8_addLook {res : eM} {a0 : Nat} {x1 : Int32} {x2 : Int32} {x3 : Int32} {x4 : Int32} {x5 : Int32} {x6 : Int32} (ha0 : a0 = 30) {M : eM} (hf : fX8_addLook a0 x1 x2 x3 x4 x5 x6 M = some res) : ScZ M res := zX8_addLook_0 ha0 _ _ _ _ _ _ _ hf
theorem zX10_gone_0 {res : Int32 × eM} : ∀ (x1 : Int32) (x2 : Int32) (x3 : Int32) (M : eM), fX10_gone_0 x1 x2 x3 M = some res → ScZ M res.2 := by
  intro x1 x2 x3 M hf
  replace hf := (fX10_gone_0.eq_1 ..).symm.trans hf
  obtain ⟨r2, M3, he, hf⟩ := ea_ci_s hf
  have hs := ScZ.trans ScZ.rf (zX10_mayTell he)
  rcases ea_if_s hf with ⟨_, hf⟩ | ⟨_, hf⟩
  · exact scz_endi hf hs
  · obtain ⟨r6, M7, he, hf⟩ := ea_ci_s hf
    have hs := ScZ.trans hs (zX10_isCell he)
    rcases ea_if_s hf with ⟨_, hf⟩ | ⟨_, hf⟩
    · exact scz_endi hf hs
    · obtain ⟨r10, M11, he, hf⟩ := ea_ci_s hf
      have hs := ScZ.trans hs (zX10_isSide he)
      rcases ea_if_s hf with ⟨_, hf⟩ | ⟨_, hf⟩
      · exact scz_endi hf hs
      · rcases ea_if_s hf with ⟨_, hf⟩ | ⟨_, hf⟩
        · obtain ⟨M15, he, hf⟩ := ea_cv_s hf
          have hs := ScZ.trans hs (zX8_addLook rfl he)
          exact scz_endi hf hs
        · exact scz_endi hf hs
theorem zX10_gone {res : Int32 × eM} {x1 : Int32} {x2 : Int32} {x3 : Int32} {M : eM} (hf : fX10_gone x1 x2 x3 M = some res) : ScZ M res.2 := zX10_gone_0 _ _ _ _ hf
theorem zX10_hours_52 {res : Int32 × eM} : ∀ (x1 : Int32) (x2 : Int32) (x3 : Int32) (x4 : Int32) (t0 : Int32) (M : eM), fX10_hours_52 x1 x2 x3 x4 t0 M = some res → ScZ M res.2 := by
  intro x1 x2 x3 x4 t0 M hf
  replace hf := (fX10_hours_52.eq_1 ..).symm.trans hf
  rcases ea_if_s hf with ⟨_, hf⟩ | ⟨_, hf⟩
  · exact scz_endi hf ScZ.rf
  · obtain ⟨_, hf⟩ := ea_ck_s hf
    obtain ⟨r4, M5, he, hf⟩ := ea_ci_s hf
    have hs := ScZ.trans ScZ.rf (zX1_hoursOf he)
    exact scz_endi hf hs
theorem zX10_hours_51 {res : Int32 × eM} : ∀ (x1 : Int32) (x2 : Int32) (x3 : Int32) (x4 : Int32) (M : eM), fX10_hours_51 x1 x2 x3 x4 M = some res → ScZ M res.2 := by
  intro x1 x2 x3 x4 M hf
  replace hf := (fX10_hours_51.eq_1 ..).symm.trans hf
  exact ScZ.trans ScZ.rf (zX10_hours_52 _ _ _ _ _ _ hf)
theorem zX10_hours_0 {res : Int32 × eM} : ∀ (x1 : Int32) (x2 : Int32) (x3 : Int32) (x4 : Int32) (M : eM), fX10_hours_0 x1 x2 x3 x4 M = some res → ScZ M res.2 := by
  intro x1 x2 x3 x4 M hf
  replace hf := (fX10_hours_0.eq_1 ..).symm.trans hf
  obtain ⟨r2, M3, he, hf⟩ := ea_ci_s hf
  have hs := ScZ.trans ScZ.rf (zX10_isStory he)
  rcases ea_if_s hf with ⟨_, hf⟩ | ⟨_, hf⟩
  · exact ScZ.trans hs (zX10_hours_51 _ _ _ _ _ hf)
  · obtain ⟨_, hf⟩ := ea_ck_s hf
    obtain ⟨r7, M8, he, hf⟩ := ea_ci_s hf
    have hs := ScZ.trans hs (zX10_isWithin he)
    rcases ea_if_s hf with ⟨_, hf⟩ | ⟨_, hf⟩
    · exact ScZ.trans hs (zX10_hours_51 _ _ _ _ _ hf)
    · obtain ⟨r11, M12, he, hf⟩ := ea_ci_s hf
      have hs := ScZ.trans hs (zX10_isWithin he)
      rcases ea_if_s hf with ⟨_, hf⟩ | ⟨_, hf⟩
      · exact ScZ.trans hs (zX10_hours_51 _ _ _ _ _ hf)
      · obtain ⟨r15, M16, he, hf⟩ := ea_ci_s hf
        have hs := ScZ.trans hs (zX10_isSide he)
        rcases ea_if_s hf with ⟨_, hf⟩ | ⟨_, hf⟩
        · exact ScZ.trans hs (zX10_hours_51 _ _ _ _ _ hf)
        · exact ScZ.trans hs (zX10_hours_52 _ _ _ _ _ _ hf)
theorem zX10_hours {res : Int32 × eM} {x1 : Int32} {x2 : Int32} {x3 : Int32} {x4 : Int32} {M : eM} (hf : fX10_hours x1 x2 x3 x4 M = some res) : ScZ M res.2 := zX10_hours_0 _ _ _ _ _ hf
theorem zX10_isPast_46 {res : Int32 × eM} {k6 : Int32 → Int32 → Int32 → Int32 → Int32 → Int32 → eM → Option (Int32 × eM)} (hk6 : ∀ (x1 : Int32) (x2 : Int32) (x3 : Int32) (x4 : Int32) (x5 : Int32) (x6 : Int32) (M : eM), k6 x1 x2 x3 x4 x5 x6 M = some res → ScZ M res.2) : ∀ (x1 : Int32) (x2 : Int32) (x3 : Int32) (x4 : Int32) (x6 : Int32) (t0 : Int32) (t1 : Int32) (M : eM), fX10_isPast_46 k6 x1 x2 x3 x4 x6 t0 t1 M = some res → ScZ M res.2 := by
  intro x1 x2 x3 x4 x6 t0 t1 M hf
  replace hf := (fX10_isPast_46.eq_1 ..).symm.trans hf
  exact ScZ.trans ScZ.rf (hk6 _ _ _ _ _ _ _ hf)
theorem zX10_isPast_6 {res : Int32 × eM} {k55 : Int32 → Int32 → eM → Option (Int32 × eM)} (hk55 : ∀ (x3 : Int32) (x5 : Int32) (M : eM), k55 x3 x5 M = some res → ScZ M res.2) : ∀ (n : Nat) (x1 : Int32) (x2 : Int32) (x3 : Int32) (x4 : Int32) (x5 : Int32) (x6 : Int32) (M : eM), fX10_isPast_6 k55 n x1 x2 x3 x4 x5 x6 M = some res → ScZ M res.2 := by
  intro n
  induction n with
  | zero => intro x1 x2 x3 x4 x5 x6 M hf; cases hf
  | succ n ih =>
    intro x1 x2 x3 x4 x5 x6 M hf
    replace hf := (fX10_isPast_6.eq_2 ..).symm.trans hf
    rcases ea_if_s hf with ⟨_, hf⟩ | ⟨_, hf⟩
    · exact ScZ.trans ScZ.rf (hk55 _ _ _ hf)
    · obtain ⟨r3, M4, he, hf⟩ := ea_ci_s hf
      have hs := ScZ.trans ScZ.rf (zX9_shadeOf he)
      obtain ⟨r6, M7, he, hf⟩ := ea_ci_s hf
      have hs := ScZ.trans hs (zX8_lookShade rfl he)
      rcases ea_if_s hf with ⟨_, hf⟩ | ⟨_, hf⟩
      · exact ScZ.trans hs (zX10_isPast_46 ih _ _ _ _ _ _ _ _ hf)
      · exact ScZ.trans hs (zX10_isPast_46 ih _ _ _ _ _ _ _ _ hf)
theorem zX10_isPast_55 {res : Int32 × eM} : ∀ (x3 : Int32) (x5 : Int32) (M : eM), fX10_isPast_55 x3 x5 M = some res → ScZ M res.2 := by
  intro x3 x5 M hf
  replace hf := (fX10_isPast_55.eq_1 ..).symm.trans hf
  rcases ea_if_s hf with ⟨_, hf⟩ | ⟨_, hf⟩
  · rcases ea_if_s hf with ⟨_, hf⟩ | ⟨_, hf⟩
    · exact scz_endi hf ScZ.rf
    · exact scz_endi hf ScZ.rf
  · rcases ea_if_s hf with ⟨_, hf⟩ | ⟨_, hf⟩
    · exact scz_endi hf ScZ.rf
    · exact scz_endi hf ScZ.rf
theorem zX10_isPast_0 {res : Int32 × eM} : ∀ (x1 : Int32) (x2 : Int32) (x3 : Int32) (x4 : Int32) (M : eM), fX10_isPast_0 x1 x2 x3 x4 M = some res → ScZ M res.2 := by
  intro x1 x2 x3 x4 M hf
  replace hf := (fX10_isPast_0.eq_1 ..).symm.trans hf
  exact ScZ.trans ScZ.rf (zX10_isPast_6 (zX10_isPast_55) ea_N _ _ _ _ _ _ _ hf)
theorem zX10_isPast {res : Int32 × eM} {x1 : Int32} {x2 : Int32} {x3 : Int32} {x4 : Int32} {M : eM} (hf : fX10_isPast x1 x2 x3 x4 M = some res) : ScZ M res.2 := zX10_isPast_0 _ _ _ _ _ hf
theorem zX10_hoursPast_59 {res : Int32 × eM} {k11 : Int32 → Int32 → Int32 → Int32 → Int32 → Int32 → eM → Option (Int32 × eM)} (hk11 : ∀ (x1 : Int32) (x2 : Int32) (x3 : Int32) (x4 : Int32) (x5 : Int32) (x6 : Int32) (M : eM), k11 x1 x2 x3 x4 x5 x6 M = some res → ScZ M res.2) : ∀ (x1 : Int32) (x2 : Int32) (x3 : Int32) (x4 : Int32) (x5 : Int32) (x6 : Int32) (M : eM), fX10_hoursPast_59 k11 x1 x2 x3 x4 x5 x6 M = some res → ScZ M res.2 := by
  intro x1 x2 x3 x4 x5 x6 M hf
  replace hf := (fX10_hoursPast_59.eq_1 ..).symm.trans hf
  exact ScZ.trans ScZ.rf (hk11 _ _ _ _ _ _ _ hf)
theorem zX10_hoursPast_11 {res : Int32 × eM} : ∀ (n : Nat) (x1 : Int32) (x2 : Int32) (x3 : Int32) (x4 : Int32) (x5 : Int32) (x6 : Int32) (M : eM), fX10_hoursPast_11 n x1 x2 x3 x4 x5 x6 M = some res → ScZ M res.2 := by
  intro n
  induction n with
  | zero => intro x1 x2 x3 x4 x5 x6 M hf; cases hf
  | succ n ih =>
    intro x1 x2 x3 x4 x5 x6 M hf
    replace hf := (fX10_hoursPast_11.eq_2 ..).symm.trans hf
    rcases ea_if_s hf with ⟨_, hf⟩ | ⟨_, hf⟩
    · exact scz_endi hf ScZ.rf
    · rcases ea_if_s hf with ⟨_, hf⟩ | ⟨_, hf⟩
      · exact scz_endi hf ScZ.rf
      · obtain ⟨r4, M5, he, hf⟩ := ea_ci_s hf
        have hs := ScZ.trans ScZ.rf (zX10_isPast he)
        rcases ea_if_s hf with ⟨_, hf⟩ | ⟨_, hf⟩
        · obtain ⟨y7, _, hf⟩ := ea_lt_s hf
          exact ScZ.trans hs (zX10_hoursPast_59 ih _ _ _ _ _ _ _ hf)
        · exact ScZ.trans hs (zX10_hoursPast_59 ih _ _ _ _ _ _ _ hf)
theorem zX10_hoursPast_0 {res : Int32 × eM} : ∀ (x1 : Int32) (x2 : Int32) (x3 : Int32) (M : eM), fX10_hoursPast_0 x1 x2 x3 M = some res → ScZ M res.2 := by
  intro x1 x2 x3 M hf
  replace hf := (fX10_hoursPast_0.eq_1 ..).symm.trans hf
  exact ScZ.trans ScZ.rf (zX10_hoursPast_11 ea_N _ _ _ _ _ _ _ hf)
theorem zX10_hoursPast {res : Int32 × eM} {x1 : Int32} {x2 : Int32} {x3 : Int32} {M : eM} (hf : fX10_hoursPast x1 x2 x3 M = some res) : ScZ M res.2 := zX10_hoursPast_0 _ _ _ _ hf
theorem zX10_isWithinSlack_16 {res : Int32 × eM} : ∀ (n : Nat) (x1 : Int32) (x2 : Int32) (x3 : Int32) (x4 : Int32) (M : eM), fX10_isWithinSlack_16 n x1 x2 x3 x4 M = some res → ScZ M res.2 := by
  intro n
  induction n with
  | zero => intro x1 x2 x3 x4 M hf; cases hf
  | succ n ih =>
    intro x1 x2 x3 x4 M hf
    replace hf := (fX10_isWithinSlack_16.eq_2 ..).symm.trans hf
    rcases ea_if_s hf with ⟨_, hf⟩ | ⟨_, hf⟩
    · exact scz_endi hf ScZ.rf
    · obtain ⟨r3, M4, he, hf⟩ := ea_ci_s hf
      have hs := ScZ.trans ScZ.rf (zX9_shadeOf he)
      obtain ⟨r6, M7, he, hf⟩ := ea_ci_s hf
      have hs := ScZ.trans hs (zX8_lookShade rfl he)
      obtain ⟨_, hf⟩ := ea_ck_s hf
      rcases ea_if_s hf with ⟨_, hf⟩ | ⟨_, hf⟩
      · exact ScZ.trans hs (ih _ _ _ _ _ hf)
      · exact scz_endi hf hs
theorem zX10_isWithinSlack_0 {res : Int32 × eM} : ∀ (x1 : Int32) (x2 : Int32) (x3 : Int32) (M : eM), fX10_isWithinSlack_0 x1 x2 x3 M = some res → ScZ M res.2 := by
  intro x1 x2 x3 M hf
  replace hf := (fX10_isWithinSlack_0.eq_1 ..).symm.trans hf
  obtain ⟨r2, M3, he, hf⟩ := ea_ci_s hf
  have hs := ScZ.trans ScZ.rf (zX10_isWithin he)
  rcases ea_if_s hf with ⟨_, hf⟩ | ⟨_, hf⟩
  · exact scz_endi hf hs
  · exact ScZ.trans hs (zX10_isWithinSlack_16 ea_N _ _ _ _ _ hf)
theorem zX10_isWithinSlack {res : Int32 × eM} {x1 : Int32} {x2 : Int32} {x3 : Int32} {M : eM} (hf : fX10_isWithinSlack x1 x2 x3 M = some res) : ScZ M res.2 := zX10_isWithinSlack_0 _ _ _ _ hf
theorem zX10_lightBack_0 {res : Int32 × eM} : ∀ (x1 : Int32) (x2 : Int32) (x3 : Int32) (x4 : Int32) (x5 : Int32) (M : eM), fX10_lightBack_0 x1 x2 x3 x4 x5 M = some res → ScZ M res.2 := by
  intro x1 x2 x3 x4 x5 M hf
  replace hf := (fX10_lightBack_0.eq_1 ..).symm.trans hf
  obtain ⟨r2, M3, he, hf⟩ := ea_ci_s hf
  have hs := ScZ.trans ScZ.rf (zX10_isCell he)
  rcases ea_if_s hf with ⟨_, hf⟩ | ⟨_, hf⟩
  · exact scz_endi hf hs
  · obtain ⟨r6, M7, he, hf⟩ := ea_ci_s hf
    have hs := ScZ.trans hs (zX10_isSide he)
    rcases ea_if_s hf with ⟨_, hf⟩ | ⟨_, hf⟩
    · exact scz_endi hf hs
    · obtain ⟨r10, M11, he, hf⟩ := ea_ci_s hf
      have hs := ScZ.trans hs (zX10_isThread he)
      rcases ea_if_s hf with ⟨_, hf⟩ | ⟨_, hf⟩
      · exact scz_endi hf hs
      · obtain ⟨r14, M15, he, hf⟩ := ea_ci_s hf
        have hs := ScZ.trans hs (zX10_isStep he)
        rcases ea_if_s hf with ⟨_, hf⟩ | ⟨_, hf⟩
        · exact scz_endi hf hs
        · obtain ⟨r18, M19, he, hf⟩ := ea_ci_s hf
          have hs := ScZ.trans hs (zX8_latestLook rfl he)
          obtain ⟨r21, M22, he, hf⟩ := ea_ci_s hf
          have hs := ScZ.trans hs (zX8_isSeen rfl he)
          rcases ea_if_s hf with ⟨_, hf⟩ | ⟨_, hf⟩
          · exact scz_endi hf hs
          · obtain ⟨_, hf⟩ := ea_ck_s hf
            obtain ⟨r26, M27, he, hf⟩ := ea_ci_s hf
            have hs := ScZ.trans hs (zX10_hoursPast he)
            obtain ⟨_, hf⟩ := ea_ck_s hf
            obtain ⟨r30, M31, he, hf⟩ := ea_ci_s hf
            have hs := ScZ.trans hs (zX10_hoursPast he)
            obtain ⟨r33, M34, he, hf⟩ := ea_ci_s hf
            have hs := ScZ.trans hs (zX10_isWithinSlack he)
            rcases ea_if_s hf with ⟨_, hf⟩ | ⟨_, hf⟩
            · exact scz_endi hf hs
            · rcases ea_if_s hf with ⟨_, hf⟩ | ⟨_, hf⟩
              · exact scz_endi hf hs
              · exact scz_endi hf hs
theorem zX10_lightBack {res : Int32 × eM} {x1 : Int32} {x2 : Int32} {x3 : Int32} {x4 : Int32} {x5 : Int32} {M : eM} (hf : fX10_lightBack x1 x2 x3 x4 x5 M = some res) : ScZ M res.2 := zX10_lightBack_0 _ _ _ _ _ _ hf
theorem zX10_look_0 {res : Int32 × eM} : ∀ (x1 : Int32) (x2 : Int32) (x3 : Int32) (x4 : Int32) (x5 : Int32) (x6 : Int32) (M : eM), fX10_look_0 x1 x2 x3 x4 x5 x6 M = some res → ScZ M res.2 := by
  intro x1 x2 x3 x4 x5 x6 M hf
  replace hf := (fX10_look_0.eq_1 ..).symm.trans hf
  obtain ⟨r2, M3, he, hf⟩ := ea_ci_s hf
  have hs := ScZ.trans ScZ.rf (zX10_mayTell he)
  rcases ea_if_s hf with ⟨_, hf⟩ | ⟨_, hf⟩
  · exact scz_endi hf hs
  · obtain ⟨r6, M7, he, hf⟩ := ea_ci_s hf
    have hs := ScZ.trans hs (zX10_isCell he)
    rcases ea_if_s hf with ⟨_, hf⟩ | ⟨_, hf⟩
    · exact scz_endi hf hs
    · obtain ⟨r10, M11, he, hf⟩ := ea_ci_s hf
      have hs := ScZ.trans hs (zX10_isSide he)
      rcases ea_if_s hf with ⟨_, hf⟩ | ⟨_, hf⟩
      · exact scz_endi hf hs
      · obtain ⟨r14, M15, he, hf⟩ := ea_ci_s hf
        have hs := ScZ.trans hs (zX10_areShades he)
        rcases ea_if_s hf with ⟨_, hf⟩ | ⟨_, hf⟩
        · exact scz_endi hf hs
        · rcases ea_if_s hf with ⟨_, hf⟩ | ⟨_, hf⟩
          · obtain ⟨M19, he, hf⟩ := ea_cv_s hf
            have hs := ScZ.trans hs (zX8_addLook rfl he)
            exact scz_endi hf hs
          · exact scz_endi hf hs
theorem zX10_look {res : Int32 × eM} {x1 : Int32} {x2 : Int32} {x3 : Int32} {x4 : Int32} {x5 : Int32} {x6 : Int32} {M : eM} (hf : fX10_look x1 x2 x3 x4 x5 x6 M = some res) : ScZ M res.2 := zX10_look_0 _ _ _ _ _ _ _ hf
theorem zX8_addRight_0 {res : eM} {a0 : Nat} (ha0 : a0 = 30) : ∀ (x1 : Int32) (x2 : Int32) (x3 : Int32) (x4 : Int32) (x5 : Int32) (M : eM), fX8_addRight_0 a0 x1 x2 x3 x4 x5 M = some res → ScZ M res := by
  intro x1 x2 x3 x4 x5 M hf
  replace hf := (fX8_addRight_0.eq_1 ..).symm.trans hf
  rcases ea_if_s hf with ⟨_, hf⟩ | ⟨_, hf⟩
  · exact scz_endv hf ScZ.rf
  · obtain ⟨M3, he, hf⟩ := ea_cv_s hf
    have hs := ScZ.trans ScZ.rf (zX8_putEntry ha0 (by subst ha0; exact fun _ => rfl) he)
    obtain ⟨M5, he, hf⟩ := ea_cv_s hf
    have hs := ScZ.trans hs (zX8_putShades (by subst ha0; exact fun _ => rfl) he)
    exact scz_endv hf (hs.pI (by subst ha0; rfl))
theorem zX8_addRight {res : eM} {a0 : Nat} {x1 : Int32} {x2 : Int32} {x3 : Int32} {x4 : Int32} {x5 : Int32} (ha0 : a0 = 30) {M : eM} (hf : fX8_addRight a0 x1 x2 x3 x4 x5 M = some res) : ScZ M res := zX8_addRight_0 ha0 _ _ _ _ _ _ hf
theorem zX8_rightsOf_33 {res : Int32 × eM} {a0 : Nat} (ha0 : a0 = 30) {k4 : Int32 → Int32 → Int32 → eM → Option (Int32 × eM)} (hk4 : ∀ (x1 : Int32) (x2 : Int32) (x3 : Int32) (M : eM), k4 x1 x2 x3 M = some res → ScZ M res.2) : ∀ (x1 : Int32) (x3 : Int32) (t0 : Int32) (t1 : Int32) (M : eM), fX8_rightsOf_33 k4 a0 x1 x3 t0 t1 M = some res → ScZ M res.2 := by
  intro x1 x3 t0 t1 M hf
  replace hf := (fX8_rightsOf_33.eq_1 ..).symm.trans hf
  exact ScZ.trans ScZ.rf (hk4 _ _ _ _ hf)
theorem zX8_rightsOf_4 {res : Int32 × eM} {a0 : Nat} (ha0 : a0 = 30) : ∀ (n : Nat) (x1 : Int32) (x2 : Int32) (x3 : Int32) (M : eM), fX8_rightsOf_4 a0 n x1 x2 x3 M = some res → ScZ M res.2 := by
  intro n
  induction n with
  | zero => intro x1 x2 x3 M hf; cases hf
  | succ n ih =>
    intro x1 x2 x3 M hf
    replace hf := (fX8_rightsOf_4.eq_2 ..).symm.trans hf
    rcases ea_if_s hf with ⟨_, hf⟩ | ⟨_, hf⟩
    · exact scz_endi hf ScZ.rf
    · obtain ⟨_, hf⟩ := ea_ck_s hf
      rcases ea_if_s hf with ⟨_, hf⟩ | ⟨_, hf⟩
      · exact ScZ.trans ScZ.rf (zX8_rightsOf_33 ha0 ih _ _ _ _ _ hf)
      · exact ScZ.trans ScZ.rf (zX8_rightsOf_33 ha0 ih _ _ _ _ _ hf)
theorem zX8_rightsOf_0 {res : Int32 × eM} {a0 : Nat} (ha0 : a0 = 30) : ∀ (x1 : Int32) (M : eM), fX8_rightsOf_0 a0 x1 M = some res → ScZ M res.2 := by
  intro x1 M hf
  replace hf := (fX8_rightsOf_0.eq_1 ..).symm.trans hf
  exact ScZ.trans ScZ.rf (zX8_rightsOf_4 ha0 ea_N _ _ _ _ hf)
theorem zX8_rightsOf {res : Int32 × eM} {a0 : Nat} {x1 : Int32} (ha0 : a0 = 30) {M : eM} (hf : fX8_rightsOf a0 x1 M = some res) : ScZ M res.2 := zX8_rightsOf_0 ha0 _ _ hf
theorem zX10_right_0 {res : Int32 × eM} : ∀ (x1 : Int32) (x2 : Int32) (x3 : Int32) (x4 : Int32) (x5 : Int32) (M : eM), fX10_right_0 x1 x2 x3 x4 x5 M = some res → ScZ M res.2 := by
  intro x1 x2 x3 x4 x5 M hf
  replace hf := (fX10_right_0.eq_1 ..).symm.trans hf
  obtain ⟨r2, M3, he, hf⟩ := ea_ci_s hf
  have hs := ScZ.trans ScZ.rf (zX10_mayTell he)
  rcases ea_if_s hf with ⟨_, hf⟩ | ⟨_, hf⟩
  · exact scz_endi hf hs
  · obtain ⟨r6, M7, he, hf⟩ := ea_ci_s hf
    have hs := ScZ.trans hs (zX10_isWithin he)
    rcases ea_if_s hf with ⟨_, hf⟩ | ⟨_, hf⟩
    · exact scz_endi hf hs
    · obtain ⟨r10, M11, he, hf⟩ := ea_ci_s hf
      have hs := ScZ.trans hs (zX10_areShades he)
      rcases ea_if_s hf with ⟨_, hf⟩ | ⟨_, hf⟩
      · exact scz_endi hf hs
      · rcases ea_if_s hf with ⟨_, hf⟩ | ⟨_, hf⟩
        · obtain ⟨M15, he, hf⟩ := ea_cv_s hf
          have hs := ScZ.trans hs (zX8_addRight rfl he)
          obtain ⟨r17, M18, he, hf⟩ := ea_ci_s hf
          have hs := ScZ.trans hs (zX8_rightsOf rfl he)
          exact scz_endi hf hs
        · exact scz_endi hf hs
theorem zX10_right {res : Int32 × eM} {x1 : Int32} {x2 : Int32} {x3 : Int32} {x4 : Int32} {x5 : Int32} {M : eM} (hf : fX10_right x1 x2 x3 x4 x5 M = some res) : ScZ M res.2 := zX10_right_0 _ _ _ _ _ _ hf
theorem zX10_shows_0 {res : Int32 × eM} : ∀ (x1 : Int32) (x2 : Int32) (x3 : Int32) (x4 : Int32) (M : eM), fX10_shows_0 x1 x2 x3 x4 M = some res → ScZ M res.2 := by
  intro x1 x2 x3 x4 M hf
  replace hf := (fX10_shows_0.eq_1 ..).symm.trans hf
  obtain ⟨r2, M3, he, hf⟩ := ea_ci_s hf
  have hs := ScZ.trans ScZ.rf (zX10_isCell he)
  rcases ea_if_s hf with ⟨_, hf⟩ | ⟨_, hf⟩
  · exact scz_endi hf hs
  · obtain ⟨r6, M7, he, hf⟩ := ea_ci_s hf
    have hs := ScZ.trans hs (zX10_isSide he)
    rcases ea_if_s hf with ⟨_, hf⟩ | ⟨_, hf⟩
    · exact scz_endi hf hs
    · obtain ⟨r10, M11, he, hf⟩ := ea_ci_s hf
      have hs := ScZ.trans hs (zX10_isStep he)
      rcases ea_if_s hf with ⟨_, hf⟩ | ⟨_, hf⟩
      · exact scz_endi hf hs
      · obtain ⟨r14, M15, he, hf⟩ := ea_ci_s hf
        have hs := ScZ.trans hs (zX10_isColour he)
        rcases ea_if_s hf with ⟨_, hf⟩ | ⟨_, hf⟩
        · exact scz_endi hf hs
        · obtain ⟨r18, M19, he, hf⟩ := ea_ci_s hf
          have hs := ScZ.trans hs (zX8_latestLook rfl he)
          obtain ⟨r21, M22, he, hf⟩ := ea_ci_s hf
          have hs := ScZ.trans hs (zX8_lookShade rfl he)
          exact scz_endi hf hs
theorem zX10_shows {res : Int32 × eM} {x1 : Int32} {x2 : Int32} {x3 : Int32} {x4 : Int32} {M : eM} (hf : fX10_shows x1 x2 x3 x4 M = some res) : ScZ M res.2 := zX10_shows_0 _ _ _ _ _ hf
theorem zX10_strength_0 {res : Int32 × eM} : ∀ (x1 : Int32) (x2 : Int32) (M : eM), fX10_strength_0 x1 x2 M = some res → ScZ M res.2 := by
  intro x1 x2 M hf
  replace hf := (fX10_strength_0.eq_1 ..).symm.trans hf
  obtain ⟨_, hf⟩ := ea_ck_s hf
  obtain ⟨r3, M4, he, hf⟩ := ea_ci_s hf
  have hs := ScZ.trans ScZ.rf (zX10_isWithin he)
  rcases ea_if_s hf with ⟨_, hf⟩ | ⟨_, hf⟩
  · exact scz_endi hf hs
  · obtain ⟨r7, M8, he, hf⟩ := ea_ci_s hf
    have hs := ScZ.trans hs (zX10_isWithin he)
    rcases ea_if_s hf with ⟨_, hf⟩ | ⟨_, hf⟩
    · exact scz_endi hf hs
    · obtain ⟨_, hf⟩ := ea_ck_s hf
      obtain ⟨r12, M13, he, hf⟩ := ea_ci_s hf
      have hs := ScZ.trans hs (zX1_strengthOf he)
      exact scz_endi hf hs
theorem zX10_strength {res : Int32 × eM} {x1 : Int32} {x2 : Int32} {M : eM} (hf : fX10_strength x1 x2 M = some res) : ScZ M res.2 := zX10_strength_0 _ _ _ hf
theorem zX10_thread_0 {res : Int32 × eM} : ∀ (x1 : Int32) (x2 : Int32) (x3 : Int32) (x4 : Int32) (M : eM), fX10_thread_0 x1 x2 x3 x4 M = some res → ScZ M res.2 := by
  intro x1 x2 x3 x4 M hf
  replace hf := (fX10_thread_0.eq_1 ..).symm.trans hf
  obtain ⟨_, hf⟩ := ea_ck_s hf
  obtain ⟨y2, _, hf⟩ := ea_lt_s hf
  obtain ⟨r5, M6, he, hf⟩ := ea_ci_s hf
  have hs := ScZ.trans ScZ.rf (zX10_isWithin he)
  rcases ea_if_s hf with ⟨_, hf⟩ | ⟨_, hf⟩
  · exact scz_endi hf hs
  · obtain ⟨r9, M10, he, hf⟩ := ea_ci_s hf
    have hs := ScZ.trans hs (zX10_isWithin he)
    rcases ea_if_s hf with ⟨_, hf⟩ | ⟨_, hf⟩
    · exact scz_endi hf hs
    · obtain ⟨r13, M14, he, hf⟩ := ea_ci_s hf
      have hs := ScZ.trans hs (zX9_rowOf he)
      rcases ea_if_s hf with ⟨_, hf⟩ | ⟨_, hf⟩
      · obtain ⟨r31, M32, he, hf⟩ := ea_ci_s hf
        have hs := ScZ.trans hs (zX9_numberOf he)
        exact scz_endi hf hs
      · obtain ⟨r17, M18, he, hf⟩ := ea_ci_s hf
        have hs := ScZ.trans hs (zX10_isWithin he)
        rcases ea_if_s hf with ⟨_, hf⟩ | ⟨_, hf⟩
        · exact scz_endi hf hs
        · obtain ⟨r21, M22, he, hf⟩ := ea_ci_s hf
          have hs := ScZ.trans hs (zX10_isWithin he)
          rcases ea_if_s hf with ⟨_, hf⟩ | ⟨_, hf⟩
          · exact scz_endi hf hs
          · obtain ⟨r25, M26, he, hf⟩ := ea_ci_s hf
            have hs := ScZ.trans hs (zX9_rowOf he)
            obtain ⟨r28, M29, he, hf⟩ := ea_ci_s hf
            have hs := ScZ.trans hs (zX9_numberOf he)
            exact scz_endi hf hs
theorem zX10_thread {res : Int32 × eM} {x1 : Int32} {x2 : Int32} {x3 : Int32} {x4 : Int32} {M : eM} (hf : fX10_thread x1 x2 x3 x4 M = some res) : ScZ M res.2 := zX10_thread_0 _ _ _ _ _ hf
theorem zX1_numberTold_0 {res : Int32 × eM} {a0 : Nat} : ∀ (x1 : Int32) (M : eM), fX1_numberTold_0 a0 x1 M = some res → ScZ M res.2 := by
  intro x1 M hf
  replace hf := (fX1_numberTold_0.eq_1 ..).symm.trans hf
  rcases ea_if_s hf with ⟨_, hf⟩ | ⟨_, hf⟩
  · exact scz_endi hf ScZ.rf
  · rcases ea_if_s hf with ⟨_, hf⟩ | ⟨_, hf⟩
    · exact scz_endi hf ScZ.rf
    · rcases ea_if_s hf with ⟨_, hf⟩ | ⟨_, hf⟩
      · exact scz_endi hf ScZ.rf
      · rcases ea_if_s hf with ⟨_, hf⟩ | ⟨_, hf⟩
        · exact scz_endi hf ScZ.rf
        · rcases ea_if_s hf with ⟨_, hf⟩ | ⟨_, hf⟩
          · exact scz_endi hf ScZ.rf
          · rcases ea_if_s hf with ⟨_, hf⟩ | ⟨_, hf⟩
            · exact scz_endi hf ScZ.rf
            · rcases ea_if_s hf with ⟨_, hf⟩ | ⟨_, hf⟩
              · exact scz_endi hf ScZ.rf
              · rcases ea_if_s hf with ⟨_, hf⟩ | ⟨_, hf⟩
                · exact scz_endi hf ScZ.rf
                · exact scz_endi hf ScZ.rf
theorem zX1_numberTold {res : Int32 × eM} {a0 : Nat} {x1 : Int32} {M : eM} (hf : fX1_numberTold a0 x1 M = some res) : ScZ M res.2 := zX1_numberTold_0 _ _ hf
theorem zX1_yearsOf_4 {res : Int32 × eM} {a0 : Nat} : ∀ (n : Nat) (x1 : Int32) (x2 : Int32) (x3 : Int32) (M : eM), fX1_yearsOf_4 a0 n x1 x2 x3 M = some res → ScZ M res.2 := by
  intro n
  induction n with
  | zero => intro x1 x2 x3 M hf; cases hf
  | succ n ih =>
    intro x1 x2 x3 M hf
    replace hf := (fX1_yearsOf_4.eq_2 ..).symm.trans hf
    obtain ⟨_, hf⟩ := ea_ck_s hf
    rcases ea_if_s hf with ⟨_, hf⟩ | ⟨_, hf⟩
    · exact scz_endi hf ScZ.rf
    · obtain ⟨r4, M5, he, hf⟩ := ea_ci_s hf
      have hs := ScZ.trans ScZ.rf (zX1_hangPlace he)
      obtain ⟨_, hf⟩ := ea_ck_s hf
      obtain ⟨y7, _, hf⟩ := ea_lt_s hf
      exact ScZ.trans hs (ih _ _ _ _ hf)
theorem zX1_yearsOf_0 {res : Int32 × eM} {a0 : Nat} : ∀ (x1 : Int32) (M : eM), fX1_yearsOf_0 a0 x1 M = some res → ScZ M res.2 := by
  intro x1 M hf
  replace hf := (fX1_yearsOf_0.eq_1 ..).symm.trans hf
  exact ScZ.trans ScZ.rf (zX1_yearsOf_4 ea_N _ _ _ _ hf)
theorem zX1_yearsOf {res : Int32 × eM} {a0 : Nat} {x1 : Int32} {M : eM} (hf : fX1_yearsOf a0 x1 M = some res) : ScZ M res.2 := zX1_yearsOf_0 _ _ hf
theorem zX10_told_24 {res : Int32 × eM} : ∀ (x1 : Int32) (q2 : Nat) (M : eM), fX10_told_24 x1 q2 M = some res → ScZ M res.2 := by
  intro x1 q2 M hf
  replace hf := (fX10_told_24.eq_1 ..).symm.trans hf
  obtain ⟨r2, M3, he, hf⟩ := ea_ci_s hf
  have hs := ScZ.trans ScZ.rf (zX10_isWithin he)
  rcases ea_if_s hf with ⟨_, hf⟩ | ⟨_, hf⟩
  · obtain ⟨r6, M7, he, hf⟩ := ea_ci_s hf
    have hs := ScZ.trans hs (zX10_isWithin he)
    rcases ea_if_s hf with ⟨_, hf⟩ | ⟨_, hf⟩
    · obtain ⟨r10, M11, he, hf⟩ := ea_ci_s hf
      have hs := ScZ.trans hs (zX10_isWithin he)
      rcases ea_if_s hf with ⟨_, hf⟩ | ⟨_, hf⟩
      · obtain ⟨r14, M15, he, hf⟩ := ea_ci_s hf
        have hs := ScZ.trans hs (zX10_isWithin he)
        rcases ea_if_s hf with ⟨_, hf⟩ | ⟨_, hf⟩
        · exact scz_endi hf hs
        · obtain ⟨r18, M19, he, hf⟩ := ea_ci_s hf
          have hs := ScZ.trans hs (zX1_yearsOf he)
          exact scz_endi hf hs
      · obtain ⟨_, hf⟩ := ea_ck_s hf
        exact scz_endi hf hs
    · obtain ⟨_, hf⟩ := ea_ck_s hf
      exact scz_endi hf hs
  · obtain ⟨_, hf⟩ := ea_ck_s hf
    exact scz_endi hf hs
theorem zX10_told_0 {res : Int32 × eM} : ∀ (x1 : Int32) (M : eM), fX10_told_0 x1 M = some res → ScZ M res.2 := by
  intro x1 M hf
  replace hf := (fX10_told_0.eq_1 ..).symm.trans hf
  obtain ⟨_, hf⟩ := ea_ck_s hf
  obtain ⟨y2, _, hf⟩ := ea_lt_s hf
  rcases ea_if_s hf with ⟨_, hf⟩ | ⟨_, hf⟩
  · exact ScZ.trans ScZ.rf (zX10_told_24 _ _ _ hf)
  · rcases ea_if_s hf with ⟨_, hf⟩ | ⟨_, hf⟩
    · exact ScZ.trans ScZ.rf (zX10_told_24 _ _ _ hf)
    · obtain ⟨r7, M8, he, hf⟩ := ea_ci_s hf
      have hs := ScZ.trans ScZ.rf (zX1_numberTold he)
      exact scz_endi hf hs
theorem zX10_told {res : Int32 × eM} {x1 : Int32} {M : eM} (hf : fX10_told x1 M = some res) : ScZ M res.2 := zX10_told_0 _ _ hf
theorem zX11_addLook_0 {res : Int32 × eM} : ∀ (x1 : Int32) (x2 : Int32) (x3 : Int32) (x4 : Int32) (x5 : Int32) (x6 : Int32) (x7 : Int32) (M : eM), fX11_addLook_0 x1 x2 x3 x4 x5 x6 x7 M = some res → ScZ M res.2 := by
  intro x1 x2 x3 x4 x5 x6 x7 M hf
  replace hf := (fX11_addLook_0.eq_1 ..).symm.trans hf
  obtain ⟨y1, _, hf⟩ := ea_lt_s hf
  rcases ea_if_s hf with ⟨_, hf⟩ | ⟨_, hf⟩
  · exact scz_endi hf ScZ.rf
  · obtain ⟨y4, _, hf⟩ := ea_lt_s hf
    obtain ⟨_, hf⟩ := ea_ck_s hf
    obtain ⟨_, hf⟩ := ea_ck_s hf
    obtain ⟨_, hf⟩ := ea_ck_s hf
    obtain ⟨_, hf⟩ := ea_ck_s hf
    obtain ⟨_, hf⟩ := ea_ck_s hf
    obtain ⟨_, hf⟩ := ea_ck_s hf
    obtain ⟨_, hf⟩ := ea_ck_s hf
    exact scz_endi hf (((((((((ScZ.rf.pI rfl).pI rfl).pI rfl).pI rfl).pI rfl).pI rfl).pI rfl).pI rfl).pI rfl)
theorem zX11_addLook {res : Int32 × eM} {x1 : Int32} {x2 : Int32} {x3 : Int32} {x4 : Int32} {x5 : Int32} {x6 : Int32} {x7 : Int32} {M : eM} (hf : fX11_addLook x1 x2 x3 x4 x5 x6 x7 M = some res) : ScZ M res.2 := zX11_addLook_0 _ _ _ _ _ _ _ _ hf
theorem zX11_addThread_0 {res : eM} : ∀ (x1 : Int32) (x2 : Int32) (x3 : Int32) (x4 : Int32) (M : eM), fX11_addThread_0 x1 x2 x3 x4 M = some res → ScZ M res := by
  intro x1 x2 x3 x4 M hf
  replace hf := (fX11_addThread_0.eq_1 ..).symm.trans hf
  obtain ⟨_, hf⟩ := ea_ck_s hf
  obtain ⟨_, hf⟩ := ea_ck_s hf
  obtain ⟨_, hf⟩ := ea_ck_s hf
  obtain ⟨_, hf⟩ := ea_ck_s hf
  exact scz_endv hf (((((ScZ.rf.pI rfl).pI rfl).pI rfl).pI rfl).pI rfl)
theorem zX11_addThread {res : eM} {x1 : Int32} {x2 : Int32} {x3 : Int32} {x4 : Int32} {M : eM} (hf : fX11_addThread x1 x2 x3 x4 M = some res) : ScZ M res := zX11_addThread_0 _ _ _ _ _ hf
theorem zX11_addWord_23 {res : eM} {k58 : eM → Option (eM)} (hk58 : ∀ (M : eM), k58 M = some res → ScZ M res) : ∀ (n : Nat) (x3 : Int32) (x4 : Int32) (M : eM), fX11_addWord_23 k58 n x3 x4 M = some res → ScZ M res := by
  intro n
  induction n with
  | zero => intro x3 x4 M hf; cases hf
  | succ n ih =>
    intro x3 x4 M hf
    replace hf := (fX11_addWord_23.eq_2 ..).symm.trans hf
    rcases ea_if_s hf with ⟨_, hf⟩ | ⟨_, hf⟩
    · exact ScZ.trans ScZ.rf (hk58 _ hf)
    · obtain ⟨_, hf⟩ := ea_ck_s hf
      obtain ⟨_, hf⟩ := ea_ck_s hf
      exact ScZ.trans (ScZ.rf.pI rfl) (ih _ _ _ hf)
theorem zX11_addWord_58 {res : eM} : ∀ (M : eM), fX11_addWord_58 M = some res → ScZ M res := by
  intro M hf
  replace hf := (fX11_addWord_58.eq_1 ..).symm.trans hf
  exact scz_endv hf (ScZ.rf.pI rfl)
theorem zX11_addWord_0 {res : eM} : ∀ (x1 : Int32) (x2 : Int32) (x3 : Int32) (M : eM), fX11_addWord_0 x1 x2 x3 M = some res → ScZ M res := by
  intro x1 x2 x3 M hf
  replace hf := (fX11_addWord_0.eq_1 ..).symm.trans hf
  obtain ⟨_, hf⟩ := ea_ck_s hf
  obtain ⟨_, hf⟩ := ea_ck_s hf
  exact ScZ.trans ((ScZ.rf.pI rfl).pI rfl) (zX11_addWord_23 (zX11_addWord_58) ea_N _ _ _ hf)
theorem zX11_addWord {res : eM} {x1 : Int32} {x2 : Int32} {x3 : Int32} {M : eM} (hf : fX11_addWord x1 x2 x3 M = some res) : ScZ M res := zX11_addWord_0 _ _ _ _ hf
theorem zX11_in_0 {res : Int32 × eM} : ∀ (x0 : Int32) (x1 : Int32) (x2 : Int32) (M : eM), fX11_in_0 x0 x1 x2 M = some res → ScZ M res.2 := by
  intro x0 x1 x2 M hf
  replace hf := (fX11_in_0.eq_1 ..).symm.trans hf
  rcases ea_if_s hf with ⟨_, hf⟩ | ⟨_, hf⟩
  · exact scz_endi hf ScZ.rf
  · rcases ea_if_s hf with ⟨_, hf⟩ | ⟨_, hf⟩
    · exact scz_endi hf ScZ.rf
    · exact scz_endi hf ScZ.rf
theorem zX11_in {res : Int32 × eM} {x0 : Int32} {x1 : Int32} {x2 : Int32} {M : eM} (hf : fX11_in x0 x1 x2 M = some res) : ScZ M res.2 := zX11_in_0 _ _ _ _ hf
theorem zX11_areColours_0 {res : Int32 × eM} : ∀ (x0 : Int32) (x1 : Int32) (x2 : Int32) (M : eM), fX11_areColours_0 x0 x1 x2 M = some res → ScZ M res.2 := by
  intro x0 x1 x2 M hf
  replace hf := (fX11_areColours_0.eq_1 ..).symm.trans hf
  obtain ⟨r2, M3, he, hf⟩ := ea_ci_s hf
  have hs := ScZ.trans ScZ.rf (zX11_in he)
  rcases ea_if_s hf with ⟨_, hf⟩ | ⟨_, hf⟩
  · exact scz_endi hf hs
  · obtain ⟨r6, M7, he, hf⟩ := ea_ci_s hf
    have hs := ScZ.trans hs (zX11_in he)
    rcases ea_if_s hf with ⟨_, hf⟩ | ⟨_, hf⟩
    · exact scz_endi hf hs
    · obtain ⟨r10, M11, he, hf⟩ := ea_ci_s hf
      have hs := ScZ.trans hs (zX11_in he)
      rcases ea_if_s hf with ⟨_, hf⟩ | ⟨_, hf⟩
      · exact scz_endi hf hs
      · exact scz_endi hf hs
theorem zX11_areColours {res : Int32 × eM} {x0 : Int32} {x1 : Int32} {x2 : Int32} {M : eM} (hf : fX11_areColours x0 x1 x2 M = some res) : ScZ M res.2 := zX11_areColours_0 _ _ _ _ hf
theorem zX11_areHours_0 {res : Int32 × eM} : ∀ (x0 : Int32) (M : eM), fX11_areHours_0 x0 M = some res → ScZ M res.2 := by
  intro x0 M hf
  replace hf := (fX11_areHours_0.eq_1 ..).symm.trans hf
  obtain ⟨r2, M3, he, hf⟩ := ea_ci_s hf
  have hs := ScZ.trans ScZ.rf (zX11_in he)
  obtain ⟨_, hf⟩ := ea_ck_s hf
  exact scz_endi hf hs
theorem zX11_areHours {res : Int32 × eM} {x0 : Int32} {M : eM} (hf : fX11_areHours x0 M = some res) : ScZ M res.2 := zX11_areHours_0 _ _ hf
theorem zX11_cells_0 {res : Int32 × eM} : ∀ (M : eM), fX11_cells_0 M = some res → ScZ M res.2 := by
  intro M hf
  replace hf := (fX11_cells_0.eq_1 ..).symm.trans hf
  exact scz_endi hf ScZ.rf
theorem zX11_cells {res : Int32 × eM} {M : eM} (hf : fX11_cells M = some res) : ScZ M res.2 := zX11_cells_0  _ hf
theorem zX11_isCell_0 {res : Int32 × eM} : ∀ (x1 : Int32) (M : eM), fX11_isCell_0 x1 M = some res → ScZ M res.2 := by
  intro x1 M hf
  replace hf := (fX11_isCell_0.eq_1 ..).symm.trans hf
  obtain ⟨r2, M3, he, hf⟩ := ea_ci_s hf
  have hs := ScZ.trans ScZ.rf (zX11_cells he)
  obtain ⟨r5, M6, he, hf⟩ := ea_ci_s hf
  have hs := ScZ.trans hs (zX11_in he)
  obtain ⟨_, hf⟩ := ea_ck_s hf
  exact scz_endi hf hs
theorem zX11_isCell {res : Int32 × eM} {x1 : Int32} {M : eM} (hf : fX11_isCell x1 M = some res) : ScZ M res.2 := zX11_isCell_0 _ _ hf
theorem zX11_isTelling_0 {res : Int32 × eM} : ∀ (x1 : Int32) (M : eM), fX11_isTelling_0 x1 M = some res → ScZ M res.2 := by
  intro x1 M hf
  replace hf := (fX11_isTelling_0.eq_1 ..).symm.trans hf
  obtain ⟨r2, M3, he, hf⟩ := ea_ci_s hf
  have hs := ScZ.trans ScZ.rf (zX11_in he)
  obtain ⟨_, hf⟩ := ea_ck_s hf
  exact scz_endi hf hs
theorem zX11_isTelling {res : Int32 × eM} {x1 : Int32} {M : eM} (hf : fX11_isTelling x1 M = some res) : ScZ M res.2 := zX11_isTelling_0 _ _ hf
theorem zX11_attempt_0 {res : Int32 × eM} : ∀ (x1 : Int32) (x2 : Int32) (x3 : Int32) (x4 : Int32) (x5 : Int32) (x6 : Int32) (M : eM), fX11_attempt_0 x1 x2 x3 x4 x5 x6 M = some res → ScZ M res.2 := by
  intro x1 x2 x3 x4 x5 x6 M hf
  replace hf := (fX11_attempt_0.eq_1 ..).symm.trans hf
  obtain ⟨r2, M3, he, hf⟩ := ea_ci_s hf
  have hs := ScZ.trans ScZ.rf (zX11_isTelling he)
  rcases ea_if_s hf with ⟨_, hf⟩ | ⟨_, hf⟩
  · exact scz_endi hf hs
  · obtain ⟨r6, M7, he, hf⟩ := ea_ci_s hf
    have hs := ScZ.trans hs (zX11_isCell he)
    rcases ea_if_s hf with ⟨_, hf⟩ | ⟨_, hf⟩
    · exact scz_endi hf hs
    · obtain ⟨r10, M11, he, hf⟩ := ea_ci_s hf
      have hs := ScZ.trans hs (zX11_in he)
      rcases ea_if_s hf with ⟨_, hf⟩ | ⟨_, hf⟩
      · exact scz_endi hf hs
      · obtain ⟨r14, M15, he, hf⟩ := ea_ci_s hf
        have hs := ScZ.trans hs (zX11_areColours he)
        rcases ea_if_s hf with ⟨_, hf⟩ | ⟨_, hf⟩
        · exact scz_endi hf hs
        · obtain ⟨y17, _, hf⟩ := ea_lt_s hf
          rcases ea_if_s hf with ⟨_, hf⟩ | ⟨_, hf⟩
          · exact scz_endi hf hs
          · obtain ⟨y20, _, hf⟩ := ea_lt_s hf
            obtain ⟨_, hf⟩ := ea_ck_s hf
            obtain ⟨_, hf⟩ := ea_ck_s hf
            obtain ⟨_, hf⟩ := ea_ck_s hf
            obtain ⟨_, hf⟩ := ea_ck_s hf
            obtain ⟨_, hf⟩ := ea_ck_s hf
            obtain ⟨_, hf⟩ := ea_ck_s hf
            exact scz_endi hf ((((((((hs.pI rfl).pI rfl).pI rfl).pI rfl).pI rfl).pI rfl).pI rfl).pI rfl)
theorem zX11_attempt {res : Int32 × eM} {x1 : Int32} {x2 : Int32} {x3 : Int32} {x4 : Int32} {x5 : Int32} {x6 : Int32} {M : eM} (hf : fX11_attempt x1 x2 x3 x4 x5 x6 M = some res) : ScZ M res.2 := zX11_attempt_0 _ _ _ _ _ _ _ hf
theorem zX11_halved_0 {res : Int32 × eM} : ∀ (x0 : Int32) (x1 : Int32) (M : eM), fX11_halved_0 x0 x1 M = some res → ScZ M res.2 := by
  intro x0 x1 M hf
  replace hf := (fX11_halved_0.eq_1 ..).symm.trans hf
  rcases ea_if_s hf with ⟨_, hf⟩ | ⟨_, hf⟩
  · exact scz_endi hf ScZ.rf
  · exact scz_endi hf ScZ.rf
theorem zX11_halved {res : Int32 × eM} {x0 : Int32} {x1 : Int32} {M : eM} (hf : fX11_halved x0 x1 M = some res) : ScZ M res.2 := zX11_halved_0 _ _ _ hf
theorem zX11_strengthOf_0 {res : Int32 × eM} : ∀ (x1 : Int32) (x2 : Int32) (M : eM), fX11_strengthOf_0 x1 x2 M = some res → ScZ M res.2 := by
  intro x1 x2 M hf
  replace hf := (fX11_strengthOf_0.eq_1 ..).symm.trans hf
  obtain ⟨_, hf⟩ := ea_ck_s hf
  obtain ⟨_, hf⟩ := ea_ck_s hf
  obtain ⟨_, hf⟩ := ea_ck_s hf
  obtain ⟨r5, M6, he, hf⟩ := ea_ci_s hf
  have hs := ScZ.trans ScZ.rf (zX11_halved he)
  obtain ⟨_, hf⟩ := ea_ck_s hf
  obtain ⟨_, hf⟩ := ea_ck_s hf
  obtain ⟨_, hf⟩ := ea_ck_s hf
  obtain ⟨r11, M12, he, hf⟩ := ea_ci_s hf
  have hs := ScZ.trans hs (zX11_halved he)
  exact scz_endi hf hs
theorem zX11_strengthOf {res : Int32 × eM} {x1 : Int32} {x2 : Int32} {M : eM} (hf : fX11_strengthOf x1 x2 M = some res) : ScZ M res.2 := zX11_strengthOf_0 _ _ _ hf
theorem zX11_partOf_0 {res : Int32 × eM} : ∀ (x1 : Int32) (x2 : Int32) (x3 : Int32) (x4 : Int32) (M : eM), fX11_partOf_0 x1 x2 x3 x4 M = some res → ScZ M res.2 := by
  intro x1 x2 x3 x4 M hf
  replace hf := (fX11_partOf_0.eq_1 ..).symm.trans hf
  obtain ⟨_, hf⟩ := ea_ck_s hf
  obtain ⟨r3, M4, he, hf⟩ := ea_ci_s hf
  have hs := ScZ.trans ScZ.rf (zX11_strengthOf he)
  exact scz_endi hf hs
theorem zX11_partOf {res : Int32 × eM} {x1 : Int32} {x2 : Int32} {x3 : Int32} {x4 : Int32} {M : eM} (hf : fX11_partOf x1 x2 x3 x4 M = some res) : ScZ M res.2 := zX11_partOf_0 _ _ _ _ _ hf
theorem zX11_colourOf_53 {res : Int32 × eM} : ∀ (t0 : Int32) (t1 : Int32) (M : eM), fX11_colourOf_53 t0 t1 M = some res → ScZ M res.2 := by
  intro t0 t1 M hf
  replace hf := (fX11_colourOf_53.eq_1 ..).symm.trans hf
  rcases ea_if_s hf with ⟨_, hf⟩ | ⟨_, hf⟩
  · exact scz_endi hf ScZ.rf
  · exact scz_endi hf ScZ.rf
theorem zX11_colourOf_0 {res : Int32 × eM} : ∀ (x1 : Int32) (x2 : Int32) (x3 : Int32) (M : eM), fX11_colourOf_0 x1 x2 x3 M = some res → ScZ M res.2 := by
  intro x1 x2 x3 M hf
  replace hf := (fX11_colourOf_0.eq_1 ..).symm.trans hf
  obtain ⟨_, hf⟩ := ea_ck_s hf
  obtain ⟨_, hf⟩ := ea_ck_s hf
  obtain ⟨r4, M5, he, hf⟩ := ea_ci_s hf
  have hs := ScZ.trans ScZ.rf (zX11_partOf he)
  obtain ⟨_, hf⟩ := ea_ck_s hf
  rcases ea_if_s hf with ⟨_, hf⟩ | ⟨_, hf⟩
  · exact ScZ.trans hs (zX11_colourOf_53 _ _ _ hf)
  · obtain ⟨_, hf⟩ := ea_ck_s hf
    obtain ⟨_, hf⟩ := ea_ck_s hf
    obtain ⟨r11, M12, he, hf⟩ := ea_ci_s hf
    have hs := ScZ.trans hs (zX11_partOf he)
    exact ScZ.trans hs (zX11_colourOf_53 _ _ _ hf)
theorem zX11_colourOf {res : Int32 × eM} {x1 : Int32} {x2 : Int32} {x3 : Int32} {M : eM} (hf : fX11_colourOf x1 x2 x3 M = some res) : ScZ M res.2 := zX11_colourOf_0 _ _ _ _ hf
theorem zX11_bears_3 {res : Int32 × eM} : ∀ (n : Nat) (x1 : Int32) (x2 : Int32) (x3 : Int32) (x4 : Int32) (x5 : Int32) (M : eM), fX11_bears_3 n x1 x2 x3 x4 x5 M = some res → ScZ M res.2 := by
  intro n
  induction n with
  | zero => intro x1 x2 x3 x4 x5 M hf; cases hf
  | succ n ih =>
    intro x1 x2 x3 x4 x5 M hf
    replace hf := (fX11_bears_3.eq_2 ..).symm.trans hf
    rcases ea_if_s hf with ⟨_, hf⟩ | ⟨_, hf⟩
    · exact scz_endi hf ScZ.rf
    · obtain ⟨r3, M4, he, hf⟩ := ea_ci_s hf
      have hs := ScZ.trans ScZ.rf (zX11_colourOf he)
      obtain ⟨r6, M7, he, hf⟩ := ea_ci_s hf
      have hs := ScZ.trans hs (zX11_colourOf he)
      rcases ea_if_s hf with ⟨_, hf⟩ | ⟨_, hf⟩
      · exact ScZ.trans hs (ih _ _ _ _ _ _ hf)
      · exact scz_endi hf hs
theorem zX11_bears_0 {res : Int32 × eM} : ∀ (x1 : Int32) (x2 : Int32) (x3 : Int32) (x4 : Int32) (M : eM), fX11_bears_0 x1 x2 x3 x4 M = some res → ScZ M res.2 := by
  intro x1 x2 x3 x4 M hf
  replace hf := (fX11_bears_0.eq_1 ..).symm.trans hf
  exact ScZ.trans ScZ.rf (zX11_bears_3 ea_N _ _ _ _ _ _ hf)
theorem zX11_bears {res : Int32 × eM} {x1 : Int32} {x2 : Int32} {x3 : Int32} {x4 : Int32} {M : eM} (hf : fX11_bears x1 x2 x3 x4 M = some res) : ScZ M res.2 := zX11_bears_0 _ _ _ _ _ hf
theorem zX11_lookAt_67 {res : Int32 × eM} {k6 : Int32 → Int32 → Int32 → Int32 → Int32 → eM → Option (Int32 × eM)} (hk6 : ∀ (x1 : Int32) (x2 : Int32) (x3 : Int32) (x4 : Int32) (x5 : Int32) (M : eM), k6 x1 x2 x3 x4 x5 M = some res → ScZ M res.2) : ∀ (x1 : Int32) (x2 : Int32) (x3 : Int32) (x4 : Int32) (x5 : Int32) (M : eM), fX11_lookAt_67 k6 x1 x2 x3 x4 x5 M = some res → ScZ M res.2 := by
  intro x1 x2 x3 x4 x5 M hf
  replace hf := (fX11_lookAt_67.eq_1 ..).symm.trans hf
  exact ScZ.trans ScZ.rf (hk6 _ _ _ _ _ _ hf)
theorem zX11_lookAt_6 {res : Int32 × eM} : ∀ (n : Nat) (x1 : Int32) (x2 : Int32) (x3 : Int32) (x4 : Int32) (x5 : Int32) (M : eM), fX11_lookAt_6 n x1 x2 x3 x4 x5 M = some res → ScZ M res.2 := by
  intro n
  induction n with
  | zero => intro x1 x2 x3 x4 x5 M hf; cases hf
  | succ n ih =>
    intro x1 x2 x3 x4 x5 M hf
    replace hf := (fX11_lookAt_6.eq_2 ..).symm.trans hf
    rcases ea_if_s hf with ⟨_, hf⟩ | ⟨_, hf⟩
    · exact scz_endi hf ScZ.rf
    · obtain ⟨y2, _, hf⟩ := ea_lt_s hf
      obtain ⟨_, hf⟩ := ea_ck_s hf
      rcases ea_if_s hf with ⟨_, hf⟩ | ⟨_, hf⟩
      · exact ScZ.trans ScZ.rf (zX11_lookAt_67 ih _ _ _ _ _ _ hf)
      · obtain ⟨_, hf⟩ := ea_ck_s hf
        rcases ea_if_s hf with ⟨_, hf⟩ | ⟨_, hf⟩
        · obtain ⟨_, hf⟩ := ea_ck_s hf
          rcases ea_if_s hf with ⟨_, hf⟩ | ⟨_, hf⟩
          · exact ScZ.trans ScZ.rf (zX11_lookAt_67 ih _ _ _ _ _ _ hf)
          · exact ScZ.trans ScZ.rf (zX11_lookAt_67 ih _ _ _ _ _ _ hf)
        · exact ScZ.trans ScZ.rf (zX11_lookAt_67 ih _ _ _ _ _ _ hf)
theorem zX11_lookAt_0 {res : Int32 × eM} : ∀ (x1 : Int32) (x2 : Int32) (x3 : Int32) (M : eM), fX11_lookAt_0 x1 x2 x3 M = some res → ScZ M res.2 := by
  intro x1 x2 x3 M hf
  replace hf := (fX11_lookAt_0.eq_1 ..).symm.trans hf
  exact ScZ.trans ScZ.rf (zX11_lookAt_6 ea_N _ _ _ _ _ _ hf)
theorem zX11_lookAt {res : Int32 × eM} {x1 : Int32} {x2 : Int32} {x3 : Int32} {M : eM} (hf : fX11_lookAt x1 x2 x3 M = some res) : ScZ M res.2 := zX11_lookAt_0 _ _ _ _ hf
theorem zX11_findWords_49 {res : eM} {k7 : Int32 → Int32 → Int32 → eM → Option (eM)} (hk7 : ∀ (x1 : Int32) (x2 : Int32) (x3 : Int32) (M : eM), k7 x1 x2 x3 M = some res → ScZ M res) : ∀ (x1 : Int32) (x2 : Int32) (x3 : Int32) (M : eM), fX11_findWords_49 k7 x1 x2 x3 M = some res → ScZ M res := by
  intro x1 x2 x3 M hf
  replace hf := (fX11_findWords_49.eq_1 ..).symm.trans hf
  exact ScZ.trans ScZ.rf (hk7 _ _ _ _ hf)
theorem zX11_findWords_7 {res : eM} {k55 : Int32 → Int32 → eM → Option (eM)} (hk55 : ∀ (x1 : Int32) (x2 : Int32) (M : eM), k55 x1 x2 M = some res → ScZ M res) : ∀ (n : Nat) (x1 : Int32) (x2 : Int32) (x3 : Int32) (M : eM), fX11_findWords_7 k55 n x1 x2 x3 M = some res → ScZ M res := by
  intro n
  induction n with
  | zero => intro x1 x2 x3 M hf; cases hf
  | succ n ih =>
    intro x1 x2 x3 M hf
    replace hf := (fX11_findWords_7.eq_2 ..).symm.trans hf
    rcases ea_if_s hf with ⟨_, hf⟩ | ⟨_, hf⟩
    · exact ScZ.trans ScZ.rf (hk55 _ _ _ hf)
    · obtain ⟨r3, M4, he, hf⟩ := ea_ci_s hf
      have hs := ScZ.trans ScZ.rf (zX11_lookAt he)
      rcases ea_if_s hf with ⟨_, hf⟩ | ⟨_, hf⟩
      · exact ScZ.trans hs (zX11_findWords_49 ih _ _ _ _ hf)
      · obtain ⟨_, hf⟩ := ea_ck_s hf
        rcases ea_if_s hf with ⟨_, hf⟩ | ⟨_, hf⟩
        · obtain ⟨M9, he, hf⟩ := ea_cv_s hf
          have hs := ScZ.trans hs (zX11_addWord he)
          exact ScZ.trans hs (zX11_findWords_49 ih _ _ _ _ hf)
        · exact ScZ.trans hs (zX11_findWords_49 ih _ _ _ _ hf)
theorem zX11_findWords_172 {res : eM} {k113 : Int32 → Int32 → Int32 → Int32 → Int32 → Int32 → eM → Option (eM)} (hk113 : ∀ (x1 : Int32) (x2 : Int32) (x3 : Int32) (x4 : Int32) (x5 : Int32) (x6 : Int32) (M : eM), k113 x1 x2 x3 x4 x5 x6 M = some res → ScZ M res) : ∀ (x1 : Int32) (x2 : Int32) (x3 : Int32) (x4 : Int32) (x5 : Int32) (x6 : Int32) (M : eM), fX11_findWords_172 k113 x1 x2 x3 x4 x5 x6 M = some res → ScZ M res := by
  intro x1 x2 x3 x4 x5 x6 M hf
  replace hf := (fX11_findWords_172.eq_1 ..).symm.trans hf
  exact ScZ.trans ScZ.rf (hk113 _ _ _ _ _ _ _ hf)
theorem zX11_findWords_113 {res : eM} {k178 : Int32 → Int32 → Int32 → Int32 → Int32 → eM → Option (eM)} (hk178 : ∀ (x1 : Int32) (x2 : Int32) (x3 : Int32) (x4 : Int32) (x5 : Int32) (M : eM), k178 x1 x2 x3 x4 x5 M = some res → ScZ M res) : ∀ (n : Nat) (x1 : Int32) (x2 : Int32) (x3 : Int32) (x4 : Int32) (x5 : Int32) (x6 : Int32) (M : eM), fX11_findWords_113 k178 n x1 x2 x3 x4 x5 x6 M = some res → ScZ M res := by
  intro n
  induction n with
  | zero => intro x1 x2 x3 x4 x5 x6 M hf; cases hf
  | succ n ih =>
    intro x1 x2 x3 x4 x5 x6 M hf
    replace hf := (fX11_findWords_113.eq_2 ..).symm.trans hf
    rcases ea_if_s hf with ⟨_, hf⟩ | ⟨_, hf⟩
    · exact ScZ.trans ScZ.rf (hk178 _ _ _ _ _ _ hf)
    · obtain ⟨_, hf⟩ := ea_ck_s hf
      rcases ea_if_s hf with ⟨_, hf⟩ | ⟨_, hf⟩
      · obtain ⟨_, hf⟩ := ea_ck_s hf
        rcases ea_if_s hf with ⟨_, hf⟩ | ⟨_, hf⟩
        · exact ScZ.trans ScZ.rf (zX11_findWords_172 ih _ _ _ _ _ _ _ hf)
        · obtain ⟨y6, _, hf⟩ := ea_lt_s hf
          exact ScZ.trans ScZ.rf (zX11_findWords_172 ih _ _ _ _ _ _ _ hf)
      · exact ScZ.trans ScZ.rf (zX11_findWords_172 ih _ _ _ _ _ _ _ hf)
theorem zX11_findWords_194 {res : eM} {k57 : Int32 → Int32 → Int32 → eM → Option (eM)} (hk57 : ∀ (x1 : Int32) (x2 : Int32) (x3 : Int32) (M : eM), k57 x1 x2 x3 M = some res → ScZ M res) : ∀ (x1 : Int32) (x2 : Int32) (x3 : Int32) (M : eM), fX11_findWords_194 k57 x1 x2 x3 M = some res → ScZ M res := by
  intro x1 x2 x3 M hf
  replace hf := (fX11_findWords_194.eq_1 ..).symm.trans hf
  exact ScZ.trans ScZ.rf (hk57 _ _ _ _ hf)
theorem zX11_findWords_178 {res : eM} {k57 : Int32 → Int32 → Int32 → eM → Option (eM)} (hk57 : ∀ (x1 : Int32) (x2 : Int32) (x3 : Int32) (M : eM), k57 x1 x2 x3 M = some res → ScZ M res) : ∀ (x1 : Int32) (x2 : Int32) (x3 : Int32) (x4 : Int32) (x5 : Int32) (M : eM), fX11_findWords_178 k57 x1 x2 x3 x4 x5 M = some res → ScZ M res := by
  intro x1 x2 x3 x4 x5 M hf
  replace hf := (fX11_findWords_178.eq_1 ..).symm.trans hf
  obtain ⟨_, hf⟩ := ea_ck_s hf
  obtain ⟨M3, he, hf⟩ := ea_cv_s hf
  have hs := ScZ.trans ScZ.rf (zX11_addWord he)
  exact ScZ.trans hs (zX11_findWords_194 hk57 _ _ _ _ hf)
theorem zX11_findWords_57 {res : eM} : ∀ (n : Nat) (x1 : Int32) (x2 : Int32) (x3 : Int32) (M : eM), fX11_findWords_57 n x1 x2 x3 M = some res → ScZ M res := by
  intro n
  induction n with
  | zero => intro x1 x2 x3 M hf; cases hf
  | succ n ih =>
    intro x1 x2 x3 M hf
    replace hf := (fX11_findWords_57.eq_2 ..).symm.trans hf
    rcases ea_if_s hf with ⟨_, hf⟩ | ⟨_, hf⟩
    · exact scz_endv hf ScZ.rf
    · obtain ⟨y2, _, hf⟩ := ea_lt_s hf
      obtain ⟨_, hf⟩ := ea_ck_s hf
      rcases ea_if_s hf with ⟨_, hf⟩ | ⟨_, hf⟩
      · exact ScZ.trans ScZ.rf (zX11_findWords_194 ih _ _ _ _ hf)
      · obtain ⟨_, hf⟩ := ea_ck_s hf
        rcases ea_if_s hf with ⟨_, hf⟩ | ⟨_, hf⟩
        · exact ScZ.trans ScZ.rf (zX11_findWords_113 (zX11_findWords_178 ih) ea_N _ _ _ _ _ _ _ hf)
        · exact ScZ.trans ScZ.rf (zX11_findWords_194 ih _ _ _ _ hf)
theorem zX11_findWords_55 {res : eM} : ∀ (x1 : Int32) (x2 : Int32) (M : eM), fX11_findWords_55 x1 x2 M = some res → ScZ M res := by
  intro x1 x2 M hf
  replace hf := (fX11_findWords_55.eq_1 ..).symm.trans hf
  exact ScZ.trans ScZ.rf (zX11_findWords_57 ea_N _ _ _ _ hf)
theorem zX11_findWords_0 {res : eM} : ∀ (x1 : Int32) (x2 : Int32) (M : eM), fX11_findWords_0 x1 x2 M = some res → ScZ M res := by
  intro x1 x2 M hf
  replace hf := (fX11_findWords_0.eq_1 ..).symm.trans hf
  exact ScZ.trans (ScZ.rf.pI rfl) (zX11_findWords_7 (zX11_findWords_55) ea_N _ _ _ _ hf)
theorem zX11_findWords {res : eM} {x1 : Int32} {x2 : Int32} {M : eM} (hf : fX11_findWords x1 x2 M = some res) : ScZ M res := zX11_findWords_0 _ _ _ hf
theorem zX11_lightAt_0 {res : Int32 × eM} : ∀ (x1 : Int32) (x2 : Int32) (M : eM), fX11_lightAt_0 x1 x2 M = some res → ScZ M res.2 := by
  intro x1 x2 M hf
  replace hf := (fX11_lightAt_0.eq_1 ..).symm.trans hf
  obtain ⟨_, hf⟩ := ea_ck_s hf
  obtain ⟨y2, _, hf⟩ := ea_lt_s hf
  rcases ea_if_s hf with ⟨_, hf⟩ | ⟨_, hf⟩
  · exact scz_endi hf ScZ.rf
  · obtain ⟨_, hf⟩ := ea_ck_s hf
    obtain ⟨_, hf⟩ := ea_ck_s hf
    exact scz_endi hf ScZ.rf
theorem zX11_lightAt {res : Int32 × eM} {x1 : Int32} {x2 : Int32} {M : eM} (hf : fX11_lightAt x1 x2 M = some res) : ScZ M res.2 := zX11_lightAt_0 _ _ _ hf
theorem zX11_hoursOf_110 {res : Int32 × eM} {k9 : Int32 → Int32 → Int32 → Int32 → Int32 → Int32 → Int32 → eM → Option (Int32 × eM)} (hk9 : ∀ (x1 : Int32) (x2 : Int32) (x3 : Int32) (x4 : Int32) (x5 : Int32) (x6 : Int32) (x7 : Int32) (M : eM), k9 x1 x2 x3 x4 x5 x6 x7 M = some res → ScZ M res.2) : ∀ (x1 : Int32) (x2 : Int32) (x3 : Int32) (x4 : Int32) (x7 : Int32) (x9 : Int32) (t0 : Int32) (t1 : Int32) (M : eM), fX11_hoursOf_110 k9 x1 x2 x3 x4 x7 x9 t0 t1 M = some res → ScZ M res.2 := by
  intro x1 x2 x3 x4 x7 x9 t0 t1 M hf
  replace hf := (fX11_hoursOf_110.eq_1 ..).symm.trans hf
  exact ScZ.trans ScZ.rf (hk9 _ _ _ _ _ _ _ _ hf)
theorem zX11_hoursOf_79 {res : Int32 × eM} {k9 : Int32 → Int32 → Int32 → Int32 → Int32 → Int32 → Int32 → eM → Option (Int32 × eM)} (hk9 : ∀ (x1 : Int32) (x2 : Int32) (x3 : Int32) (x4 : Int32) (x5 : Int32) (x6 : Int32) (x7 : Int32) (M : eM), k9 x1 x2 x3 x4 x5 x6 x7 M = some res → ScZ M res.2) : ∀ (x1 : Int32) (x2 : Int32) (x3 : Int32) (x4 : Int32) (x5 : Int32) (x7 : Int32) (x8 : Int32) (x9 : Int32) (t0 : Int32) (M : eM), fX11_hoursOf_79 k9 x1 x2 x3 x4 x5 x7 x8 x9 t0 M = some res → ScZ M res.2 := by
  intro x1 x2 x3 x4 x5 x7 x8 x9 t0 M hf
  replace hf := (fX11_hoursOf_79.eq_1 ..).symm.trans hf
  rcases ea_if_s hf with ⟨_, hf⟩ | ⟨_, hf⟩
  · exact ScZ.trans ScZ.rf (zX11_hoursOf_110 hk9 _ _ _ _ _ _ _ _ _ hf)
  · obtain ⟨_, hf⟩ := ea_ck_s hf
    exact ScZ.trans ScZ.rf (zX11_hoursOf_110 hk9 _ _ _ _ _ _ _ _ _ hf)
theorem zX11_hoursOf_57 {res : Int32 × eM} {k9 : Int32 → Int32 → Int32 → Int32 → Int32 → Int32 → Int32 → eM → Option (Int32 × eM)} (hk9 : ∀ (x1 : Int32) (x2 : Int32) (x3 : Int32) (x4 : Int32) (x5 : Int32) (x6 : Int32) (x7 : Int32) (M : eM), k9 x1 x2 x3 x4 x5 x6 x7 M = some res → ScZ M res.2) : ∀ (x1 : Int32) (x2 : Int32) (x3 : Int32) (x4 : Int32) (x5 : Int32) (x7 : Int32) (x8 : Int32) (x9 : Int32) (t0 : Int32) (t1 : Int32) (M : eM), fX11_hoursOf_57 k9 x1 x2 x3 x4 x5 x7 x8 x9 t0 t1 M = some res → ScZ M res.2 := by
  intro x1 x2 x3 x4 x5 x7 x8 x9 t0 t1 M hf
  replace hf := (fX11_hoursOf_57.eq_1 ..).symm.trans hf
  rcases ea_if_s hf with ⟨_, hf⟩ | ⟨_, hf⟩
  · exact ScZ.trans ScZ.rf (zX11_hoursOf_79 hk9 _ _ _ _ _ _ _ _ _ _ hf)
  · obtain ⟨r3, M4, he, hf⟩ := ea_ci_s hf
    have hs := ScZ.trans ScZ.rf (zX11_lightAt he)
    exact ScZ.trans hs (zX11_hoursOf_79 hk9 _ _ _ _ _ _ _ _ _ _ hf)
theorem zX11_hoursOf_9 {res : Int32 × eM} : ∀ (n : Nat) (x1 : Int32) (x2 : Int32) (x3 : Int32) (x4 : Int32) (x5 : Int32) (x6 : Int32) (x7 : Int32) (M : eM), fX11_hoursOf_9 n x1 x2 x3 x4 x5 x6 x7 M = some res → ScZ M res.2 := by
  intro n
  induction n with
  | zero => intro x1 x2 x3 x4 x5 x6 x7 M hf; cases hf
  | succ n ih =>
    intro x1 x2 x3 x4 x5 x6 x7 M hf
    replace hf := (fX11_hoursOf_9.eq_2 ..).symm.trans hf
    obtain ⟨_, hf⟩ := ea_ck_s hf
    rcases ea_if_s hf with ⟨_, hf⟩ | ⟨_, hf⟩
    · exact scz_endi hf ScZ.rf
    · obtain ⟨_, hf⟩ := ea_ck_s hf
      obtain ⟨y4, _, hf⟩ := ea_lt_s hf
      rcases ea_if_s hf with ⟨_, hf⟩ | ⟨_, hf⟩
      · exact ScZ.trans ScZ.rf (zX11_hoursOf_57 ih _ _ _ _ _ _ _ _ _ _ _ hf)
      · exact ScZ.trans ScZ.rf (zX11_hoursOf_57 ih _ _ _ _ _ _ _ _ _ _ _ hf)
theorem zX11_hoursOf_0 {res : Int32 × eM} : ∀ (x1 : Int32) (x2 : Int32) (x3 : Int32) (x4 : Int32) (M : eM), fX11_hoursOf_0 x1 x2 x3 x4 M = some res → ScZ M res.2 := by
  intro x1 x2 x3 x4 M hf
  replace hf := (fX11_hoursOf_0.eq_1 ..).symm.trans hf
  exact ScZ.trans ScZ.rf (zX11_hoursOf_9 ea_N _ _ _ _ _ _ _ _ hf)
theorem zX11_hoursOf {res : Int32 × eM} {x1 : Int32} {x2 : Int32} {x3 : Int32} {x4 : Int32} {M : eM} (hf : fX11_hoursOf x1 x2 x3 x4 M = some res) : ScZ M res.2 := zX11_hoursOf_0 _ _ _ _ _ hf
theorem zX11_plain_0 {res : Int32 × eM} : ∀ (x0 : Int32) (M : eM), fX11_plain_0 x0 M = some res → ScZ M res.2 := by
  intro x0 M hf
  replace hf := (fX11_plain_0.eq_1 ..).symm.trans hf
  rcases ea_if_s hf with ⟨_, hf⟩ | ⟨_, hf⟩
  · exact scz_endi hf ScZ.rf
  · exact scz_endi hf ScZ.rf
theorem zX11_plain {res : Int32 × eM} {x0 : Int32} {M : eM} (hf : fX11_plain x0 M = some res) : ScZ M res.2 := zX11_plain_0 _ _ hf
theorem zX11_isSo_15 {res : Int32 × eM} {a2 : Nat} (ha2 : ∀ k, isZ a2 k = false) {k67 : Int32 → Int32 → Int32 → eM → Option (Int32 × eM)} (hk67 : ∀ (x1 : Int32) (x3 : Int32) (x4 : Int32) (M : eM), k67 x1 x3 x4 M = some res → ScZ M res.2) : ∀ (n : Nat) (x1 : Int32) (x3 : Int32) (x4 : Int32) (x5 : Int32) (M : eM), fX11_isSo_15 k67 a2 n x1 x3 x4 x5 M = some res → ScZ M res.2 := by
  intro n
  induction n with
  | zero => intro x1 x3 x4 x5 M hf; cases hf
  | succ n ih =>
    intro x1 x3 x4 x5 M hf
    replace hf := (fX11_isSo_15.eq_2 ..).symm.trans hf
    rcases ea_if_s hf with ⟨_, hf⟩ | ⟨_, hf⟩
    · exact ScZ.trans ScZ.rf (hk67 _ _ _ _ hf)
    · obtain ⟨_, hf⟩ := ea_ck_s hf
      obtain ⟨r4, M5, he, hf⟩ := ea_ci_s hf
      have hs := ScZ.trans ScZ.rf (zX11_colourOf he)
      obtain ⟨_, hf⟩ := ea_ck_s hf
      obtain ⟨r8, M9, he, hf⟩ := ea_ci_s hf
      have hs := ScZ.trans hs (zX11_plain he)
      rcases ea_if_s hf with ⟨_, hf⟩ | ⟨_, hf⟩
      · exact ScZ.trans hs (ih _ _ _ _ _ hf)
      · exact scz_endi hf hs
theorem zX11_isSo_67 {res : Int32 × eM} {a2 : Nat} (ha2 : ∀ k, isZ a2 k = false) {k3 : Int32 → Int32 → Int32 → eM → Option (Int32 × eM)} (hk3 : ∀ (x1 : Int32) (x3 : Int32) (x4 : Int32) (M : eM), k3 x1 x3 x4 M = some res → ScZ M res.2) : ∀ (x1 : Int32) (x3 : Int32) (x4 : Int32) (M : eM), fX11_isSo_67 k3 a2 x1 x3 x4 M = some res → ScZ M res.2 := by
  intro x1 x3 x4 M hf
  replace hf := (fX11_isSo_67.eq_1 ..).symm.trans hf
  exact ScZ.trans ScZ.rf (hk3 _ _ _ _ hf)
theorem zX11_isSo_3 {res : Int32 × eM} {a2 : Nat} (ha2 : ∀ k, isZ a2 k = false) : ∀ (n : Nat) (x1 : Int32) (x3 : Int32) (x4 : Int32) (M : eM), fX11_isSo_3 a2 n x1 x3 x4 M = some res → ScZ M res.2 := by
  intro n
  induction n with
  | zero => intro x1 x3 x4 M hf; cases hf
  | succ n ih =>
    intro x1 x3 x4 M hf
    replace hf := (fX11_isSo_3.eq_2 ..).symm.trans hf
    rcases ea_if_s hf with ⟨_, hf⟩ | ⟨_, hf⟩
    · exact scz_endi hf ScZ.rf
    · exact ScZ.trans ScZ.rf (zX11_isSo_15 ha2 (zX11_isSo_67 ha2 ih) ea_N _ _ _ _ _ hf)
theorem zX11_isSo_0 {res : Int32 × eM} {a2 : Nat} (ha2 : ∀ k, isZ a2 k = false) : ∀ (x1 : Int32) (x3 : Int32) (M : eM), fX11_isSo_0 a2 x1 x3 M = some res → ScZ M res.2 := by
  intro x1 x3 M hf
  replace hf := (fX11_isSo_0.eq_1 ..).symm.trans hf
  exact ScZ.trans ScZ.rf (zX11_isSo_3 ha2 ea_N _ _ _ _ hf)
theorem zX11_isSo {res : Int32 × eM} {x1 : Int32} {a2 : Nat} {x3 : Int32} (ha2 : ∀ k, isZ a2 k = false) {M : eM} (hf : fX11_isSo a2 x1 x3 M = some res) : ScZ M res.2 := zX11_isSo_0 ha2 _ _ _ hf
theorem zX11_yearAt_0 {res : Int32 × eM} : ∀ (x1 : Int32) (M : eM), fX11_yearAt_0 x1 M = some res → ScZ M res.2 := by
  intro x1 M hf
  replace hf := (fX11_yearAt_0.eq_1 ..).symm.trans hf
  rcases ea_if_s hf with ⟨_, hf⟩ | ⟨_, hf⟩
  · exact scz_endi hf ScZ.rf
  · obtain ⟨_, hf⟩ := ea_ck_s hf
    exact scz_endi hf ScZ.rf
theorem zX11_yearAt {res : Int32 × eM} {x1 : Int32} {M : eM} (hf : fX11_yearAt x1 M = some res) : ScZ M res.2 := zX11_yearAt_0 _ _ hf
theorem zX11_findFits_34 {res : eM} {k90 : Int32 → Int32 → Int32 → eM → Option (eM)} (hk90 : ∀ (x2 : Int32) (x4 : Int32) (x5 : Int32) (M : eM), k90 x2 x4 x5 M = some res → ScZ M res) : ∀ (n : Nat) (x2 : Int32) (x4 : Int32) (x5 : Int32) (x6 : Int32) (M : eM), fX11_findFits_34 k90 n x2 x4 x5 x6 M = some res → ScZ M res := by
  intro n
  induction n with
  | zero => intro x2 x4 x5 x6 M hf; cases hf
  | succ n ih =>
    intro x2 x4 x5 x6 M hf
    replace hf := (fX11_findFits_34.eq_2 ..).symm.trans hf
    rcases ea_if_s hf with ⟨_, hf⟩ | ⟨_, hf⟩
    · exact ScZ.trans ScZ.rf (hk90 _ _ _ _ hf)
    · obtain ⟨r3, M4, he, hf⟩ := ea_ci_s hf
      have hs := ScZ.trans ScZ.rf (zX11_yearAt he)
      obtain ⟨_, hf⟩ := ea_ck_s hf
      obtain ⟨r7, M8, he, hf⟩ := ea_ci_s hf
      have hs := ScZ.trans hs (zX11_hoursOf he)
      obtain ⟨_, hf⟩ := ea_ck_s hf
      obtain ⟨_, hf⟩ := ea_ck_s hf
      exact ScZ.trans (hs.pI rfl) (ih _ _ _ _ _ hf)
theorem zX11_findFits_90 {res : eM} {k19 : Int32 → Int32 → Int32 → eM → Option (eM)} (hk19 : ∀ (x2 : Int32) (x4 : Int32) (x5 : Int32) (M : eM), k19 x2 x4 x5 M = some res → ScZ M res) : ∀ (x2 : Int32) (x4 : Int32) (x5 : Int32) (M : eM), fX11_findFits_90 k19 x2 x4 x5 M = some res → ScZ M res := by
  intro x2 x4 x5 M hf
  replace hf := (fX11_findFits_90.eq_1 ..).symm.trans hf
  exact ScZ.trans ScZ.rf (hk19 _ _ _ _ hf)
theorem zX11_findFits_19 {res : eM} {k96 : eM → Option (eM)} (hk96 : ∀ (M : eM), k96 M = some res → ScZ M res) : ∀ (n : Nat) (x2 : Int32) (x4 : Int32) (x5 : Int32) (M : eM), fX11_findFits_19 k96 n x2 x4 x5 M = some res → ScZ M res := by
  intro n
  induction n with
  | zero => intro x2 x4 x5 M hf; cases hf
  | succ n ih =>
    intro x2 x4 x5 M hf
    replace hf := (fX11_findFits_19.eq_2 ..).symm.trans hf
    rcases ea_if_s hf with ⟨_, hf⟩ | ⟨_, hf⟩
    · exact ScZ.trans ScZ.rf (hk96 _ hf)
    · exact ScZ.trans ScZ.rf (zX11_findFits_34 (zX11_findFits_90 ih) ea_N _ _ _ _ _ hf)
theorem zX11_findFits_196 {res : eM} {k127 : Int32 → Int32 → Int32 → eM → Option (eM)} (hk127 : ∀ (x5 : Int32) (x6 : Int32) (x7 : Int32) (M : eM), k127 x5 x6 x7 M = some res → ScZ M res) : ∀ (x5 : Int32) (x6 : Int32) (x7 : Int32) (M : eM), fX11_findFits_196 k127 x5 x6 x7 M = some res → ScZ M res := by
  intro x5 x6 x7 M hf
  replace hf := (fX11_findFits_196.eq_1 ..).symm.trans hf
  exact ScZ.trans ScZ.rf (hk127 _ _ _ _ hf)
theorem zX11_findFits_127 {res : eM} {k202 : Int32 → Int32 → eM → Option (eM)} (hk202 : ∀ (x5 : Int32) (x6 : Int32) (M : eM), k202 x5 x6 M = some res → ScZ M res) : ∀ (n : Nat) (x5 : Int32) (x6 : Int32) (x7 : Int32) (M : eM), fX11_findFits_127 k202 n x5 x6 x7 M = some res → ScZ M res := by
  intro n
  induction n with
  | zero => intro x5 x6 x7 M hf; cases hf
  | succ n ih =>
    intro x5 x6 x7 M hf
    replace hf := (fX11_findFits_127.eq_2 ..).symm.trans hf
    rcases ea_if_s hf with ⟨_, hf⟩ | ⟨_, hf⟩
    · exact ScZ.trans ScZ.rf (hk202 _ _ _ hf)
    · obtain ⟨r3, M4, he, hf⟩ := ea_ci_s hf
      have hs := ScZ.trans ScZ.rf (zX11_isSo (fun _ => rfl) he)
      rcases ea_if_s hf with ⟨_, hf⟩ | ⟨_, hf⟩
      · exact ScZ.trans hs (zX11_findFits_196 ih _ _ _ _ hf)
      · obtain ⟨_, hf⟩ := ea_ck_s hf
        obtain ⟨r8, M9, he, hf⟩ := ea_ci_s hf
        have hs := ScZ.trans (hs.pI rfl) (zX11_yearAt he)
        obtain ⟨_, hf⟩ := ea_ck_s hf
        exact ScZ.trans ((hs.pI rfl).pI rfl) (zX11_findFits_196 ih _ _ _ _ hf)
theorem zX11_findFits_221 {res : eM} {k109 : Int32 → eM → Option (eM)} (hk109 : ∀ (x5 : Int32) (M : eM), k109 x5 M = some res → ScZ M res) : ∀ (x5 : Int32) (t0 : Int32) (t1 : Int32) (M : eM), fX11_findFits_221 k109 x5 t0 t1 M = some res → ScZ M res := by
  intro x5 t0 t1 M hf
  replace hf := (fX11_findFits_221.eq_1 ..).symm.trans hf
  exact ScZ.trans (ScZ.rf.pI rfl) (hk109 _ _ hf)
theorem zX11_findFits_202 {res : eM} {k109 : Int32 → eM → Option (eM)} (hk109 : ∀ (x5 : Int32) (M : eM), k109 x5 M = some res → ScZ M res) : ∀ (x5 : Int32) (x6 : Int32) (M : eM), fX11_findFits_202 k109 x5 x6 M = some res → ScZ M res := by
  intro x5 x6 M hf
  replace hf := (fX11_findFits_202.eq_1 ..).symm.trans hf
  rcases ea_if_s hf with ⟨_, hf⟩ | ⟨_, hf⟩
  · exact ScZ.trans ScZ.rf (zX11_findFits_221 hk109 _ _ _ _ hf)
  · exact ScZ.trans ScZ.rf (zX11_findFits_221 hk109 _ _ _ _ hf)
theorem zX11_findFits_109 {res : eM} : ∀ (n : Nat) (x5 : Int32) (M : eM), fX11_findFits_109 n x5 M = some res → ScZ M res := by
  intro n
  induction n with
  | zero => intro x5 M hf; cases hf
  | succ n ih =>
    intro x5 M hf
    replace hf := (fX11_findFits_109.eq_2 ..).symm.trans hf
    rcases ea_if_s hf with ⟨_, hf⟩ | ⟨_, hf⟩
    · exact scz_endv hf ScZ.rf
    · exact ScZ.trans ScZ.rf (zX11_findFits_127 (zX11_findFits_202 ih) ea_N _ _ _ _ hf)
theorem zX11_findFits_96 {res : eM} : ∀ (M : eM), fX11_findFits_96 M = some res → ScZ M res := by
  intro M hf
  replace hf := (fX11_findFits_96.eq_1 ..).symm.trans hf
  exact ScZ.trans ((ScZ.rf.pI rfl).pI rfl) (zX11_findFits_109 ea_N _ _ hf)
theorem zX11_findFits_0 {res : eM} : ∀ (x1 : Int32) (x2 : Int32) (x3 : Int32) (M : eM), fX11_findFits_0 x1 x2 x3 M = some res → ScZ M res := by
  intro x1 x2 x3 M hf
  replace hf := (fX11_findFits_0.eq_1 ..).symm.trans hf
  obtain ⟨M2, he, hf⟩ := ea_cv_s hf
  have hs := ScZ.trans ScZ.rf (zX11_findWords he)
  obtain ⟨_, hf⟩ := ea_ck_s hf
  obtain ⟨y4, _, hf⟩ := ea_lt_s hf
  exact ScZ.trans hs (zX11_findFits_19 (zX11_findFits_96) ea_N _ _ _ _ hf)
theorem zX11_findFits {res : eM} {x1 : Int32} {x2 : Int32} {x3 : Int32} {M : eM} (hf : fX11_findFits x1 x2 x3 M = some res) : ScZ M res := zX11_findFits_0 _ _ _ _ hf
theorem zX11_isBound_0 {res : Int32 × eM} : ∀ (x0 : Int32) (M : eM), fX11_isBound_0 x0 M = some res → ScZ M res.2 := by
  intro x0 M hf
  replace hf := (fX11_isBound_0.eq_1 ..).symm.trans hf
  obtain ⟨r2, M3, he, hf⟩ := ea_ci_s hf
  have hs := ScZ.trans ScZ.rf (zX11_in he)
  obtain ⟨_, hf⟩ := ea_ck_s hf
  exact scz_endi hf hs
theorem zX11_isBound {res : Int32 × eM} {x0 : Int32} {M : eM} (hf : fX11_isBound x0 M = some res) : ScZ M res.2 := zX11_isBound_0 _ _ hf
theorem zX11_isStory_0 {res : Int32 × eM} : ∀ (x1 : Int32) (M : eM), fX11_isStory_0 x1 M = some res → ScZ M res.2 := by
  intro x1 M hf
  replace hf := (fX11_isStory_0.eq_1 ..).symm.trans hf
  obtain ⟨r2, M3, he, hf⟩ := ea_ci_s hf
  have hs := ScZ.trans ScZ.rf (zX11_in he)
  obtain ⟨_, hf⟩ := ea_ck_s hf
  exact scz_endi hf hs
theorem zX11_isStory {res : Int32 × eM} {x1 : Int32} {M : eM} (hf : fX11_isStory x1 M = some res) : ScZ M res.2 := zX11_isStory_0 _ _ hf
theorem zX11_bear_92 {res : Int32 × eM} {k127 : Int32 → Int32 → Int32 → Int32 → Int32 → eM → Option (Int32 × eM)} (hk127 : ∀ (x1 : Int32) (x2 : Int32) (x3 : Int32) (x5 : Int32) (x7 : Int32) (M : eM), k127 x1 x2 x3 x5 x7 M = some res → ScZ M res.2) : ∀ (n : Nat) (x1 : Int32) (x2 : Int32) (x3 : Int32) (x4 : Int32) (x5 : Int32) (x6 : Int32) (x7 : Int32) (M : eM), fX11_bear_92 k127 n x1 x2 x3 x4 x5 x6 x7 M = some res → ScZ M res.2 := by
  intro n
  induction n with
  | zero => intro x1 x2 x3 x4 x5 x6 x7 M hf; cases hf
  | succ n ih =>
    intro x1 x2 x3 x4 x5 x6 x7 M hf
    replace hf := (fX11_bear_92.eq_2 ..).symm.trans hf
    rcases ea_if_s hf with ⟨_, hf⟩ | ⟨_, hf⟩
    · exact ScZ.trans ScZ.rf (hk127 _ _ _ _ _ _ hf)
    · obtain ⟨r3, M4, he, hf⟩ := ea_ci_s hf
      have hs := ScZ.trans ScZ.rf (zX11_bears he)
      rcases ea_if_s hf with ⟨_, hf⟩ | ⟨_, hf⟩
      · exact ScZ.trans hs (hk127 _ _ _ _ _ _ hf)
      · exact ScZ.trans hs (ih _ _ _ _ _ _ _ _ hf)
theorem zX11_bear_131 {res : Int32 × eM} {k36 : Int32 → Int32 → Int32 → Int32 → Int32 → eM → Option (Int32 × eM)} (hk36 : ∀ (x1 : Int32) (x2 : Int32) (x3 : Int32) (x4 : Int32) (x5 : Int32) (M : eM), k36 x1 x2 x3 x4 x5 M = some res → ScZ M res.2) : ∀ (x1 : Int32) (x2 : Int32) (x3 : Int32) (x4 : Int32) (x5 : Int32) (M : eM), fX11_bear_131 k36 x1 x2 x3 x4 x5 M = some res → ScZ M res.2 := by
  intro x1 x2 x3 x4 x5 M hf
  replace hf := (fX11_bear_131.eq_1 ..).symm.trans hf
  exact ScZ.trans ScZ.rf (hk36 _ _ _ _ _ _ hf)
theorem zX11_bear_127 {res : Int32 × eM} {k36 : Int32 → Int32 → Int32 → Int32 → Int32 → eM → Option (Int32 × eM)} (hk36 : ∀ (x1 : Int32) (x2 : Int32) (x3 : Int32) (x4 : Int32) (x5 : Int32) (M : eM), k36 x1 x2 x3 x4 x5 M = some res → ScZ M res.2) : ∀ (x1 : Int32) (x2 : Int32) (x3 : Int32) (x5 : Int32) (x7 : Int32) (M : eM), fX11_bear_127 k36 x1 x2 x3 x5 x7 M = some res → ScZ M res.2 := by
  intro x1 x2 x3 x5 x7 M hf
  replace hf := (fX11_bear_127.eq_1 ..).symm.trans hf
  exact ScZ.trans ScZ.rf (zX11_bear_131 hk36 _ _ _ _ _ _ hf)
theorem zX11_bear_36 {res : Int32 × eM} : ∀ (n : Nat) (x1 : Int32) (x2 : Int32) (x3 : Int32) (x4 : Int32) (x5 : Int32) (M : eM), fX11_bear_36 n x1 x2 x3 x4 x5 M = some res → ScZ M res.2 := by
  intro n
  induction n with
  | zero => intro x1 x2 x3 x4 x5 M hf; cases hf
  | succ n ih =>
    intro x1 x2 x3 x4 x5 M hf
    replace hf := (fX11_bear_36.eq_2 ..).symm.trans hf
    obtain ⟨r2, M3, he, hf⟩ := ea_ci_s hf
    have hs := ScZ.trans ScZ.rf (zX11_cells he)
    rcases ea_if_s hf with ⟨_, hf⟩ | ⟨_, hf⟩
    · exact scz_endi hf hs
    · obtain ⟨M6, he, hf⟩ := ea_cv_s hf
      have hs := ScZ.trans hs (zX11_findFits he)
      rcases ea_if_s hf with ⟨_, hf⟩ | ⟨_, hf⟩
      · obtain ⟨_, hf⟩ := ea_ck_s hf
        obtain ⟨r10, M11, he, hf⟩ := ea_ci_s hf
        have hs := ScZ.trans hs (zX11_hoursOf he)
        exact ScZ.trans hs (zX11_bear_92 (zX11_bear_127 ih) ea_N _ _ _ _ _ _ _ _ hf)
      · exact ScZ.trans hs (zX11_bear_131 ih _ _ _ _ _ _ hf)
theorem zX11_bear_0 {res : Int32 × eM} : ∀ (x1 : Int32) (x2 : Int32) (x3 : Int32) (M : eM), fX11_bear_0 x1 x2 x3 M = some res → ScZ M res.2 := by
  intro x1 x2 x3 M hf
  replace hf := (fX11_bear_0.eq_1 ..).symm.trans hf
  obtain ⟨r2, M3, he, hf⟩ := ea_ci_s hf
  have hs := ScZ.trans ScZ.rf (zX11_isStory he)
  rcases ea_if_s hf with ⟨_, hf⟩ | ⟨_, hf⟩
  · exact scz_endi hf hs
  · obtain ⟨r6, M7, he, hf⟩ := ea_ci_s hf
    have hs := ScZ.trans hs (zX11_in he)
    rcases ea_if_s hf with ⟨_, hf⟩ | ⟨_, hf⟩
    · exact scz_endi hf hs
    · obtain ⟨r10, M11, he, hf⟩ := ea_ci_s hf
      have hs := ScZ.trans hs (zX11_isBound he)
      rcases ea_if_s hf with ⟨_, hf⟩ | ⟨_, hf⟩
      · exact scz_endi hf hs
      · exact ScZ.trans hs (zX11_bear_36 ea_N _ _ _ _ _ _ hf)
theorem zX11_bear {res : Int32 × eM} {x1 : Int32} {x2 : Int32} {x3 : Int32} {M : eM} (hf : fX11_bear x1 x2 x3 M = some res) : ScZ M res.2 := zX11_bear_0 _ _ _ _ hf
theorem zX11_begin_2 {res : eM} {k24 : eM → Option (eM)} (hk24 : ∀ (M : eM), k24 M = some res → ScZ M res) : ∀ (n : Nat) (x1 : Int32) (M : eM), fX11_begin_2 k24 n x1 M = some res → ScZ M res := by
  intro n
  induction n with
  | zero => intro x1 M hf; cases hf
  | succ n ih =>
    intro x1 M hf
    replace hf := (fX11_begin_2.eq_2 ..).symm.trans hf
    rcases ea_if_s hf with ⟨_, hf⟩ | ⟨_, hf⟩
    · exact ScZ.trans ScZ.rf (hk24 _ hf)
    · obtain ⟨_, hf⟩ := ea_ck_s hf
      exact ScZ.trans (ScZ.rf.pI rfl) (ih _ _ hf)
theorem zX11_begin_50 {res : eM} {k72 : eM → Option (eM)} (hk72 : ∀ (M : eM), k72 M = some res → ScZ M res) : ∀ (n : Nat) (x1 : Int32) (M : eM), fX11_begin_50 k72 n x1 M = some res → ScZ M res := by
  intro n
  induction n with
  | zero => intro x1 M hf; cases hf
  | succ n ih =>
    intro x1 M hf
    replace hf := (fX11_begin_50.eq_2 ..).symm.trans hf
    rcases ea_if_s hf with ⟨_, hf⟩ | ⟨_, hf⟩
    · exact ScZ.trans ScZ.rf (hk72 _ hf)
    · obtain ⟨_, hf⟩ := ea_ck_s hf
      exact ScZ.trans (ScZ.rf.pI rfl) (ih _ _ hf)
theorem zX11_begin_72 {res : eM} : ∀ (M : eM), fX11_begin_72 M = some res → ScZ M res := by
  intro M hf
  replace hf := (fX11_begin_72.eq_1 ..).symm.trans hf
  exact scz_endv hf (ScZ.rf.pI rfl)
theorem zX11_begin_24 {res : eM} : ∀ (M : eM), fX11_begin_24 M = some res → ScZ M res := by
  intro M hf
  replace hf := (fX11_begin_24.eq_1 ..).symm.trans hf
  exact ScZ.trans (((ScZ.rf.pI rfl).pI rfl).pI rfl) (zX11_begin_50 (zX11_begin_72) ea_N _ _ hf)
theorem zX11_begin_0 {res : eM} : ∀ (M : eM), fX11_begin_0 M = some res → ScZ M res := by
  intro M hf
  replace hf := (fX11_begin_0.eq_1 ..).symm.trans hf
  exact ScZ.trans ScZ.rf (zX11_begin_2 (zX11_begin_24) ea_N _ _ hf)
theorem zX11_begin {res : eM} {M : eM} (hf : fX11_begin M = some res) : ScZ M res := zX11_begin_0  _ hf
theorem zX11_isStep_0 {res : Int32 × eM} : ∀ (x0 : Int32) (M : eM), fX11_isStep_0 x0 M = some res → ScZ M res.2 := by
  intro x0 M hf
  replace hf := (fX11_isStep_0.eq_1 ..).symm.trans hf
  obtain ⟨r2, M3, he, hf⟩ := ea_ci_s hf
  have hs := ScZ.trans ScZ.rf (zX11_in he)
  obtain ⟨_, hf⟩ := ea_ck_s hf
  exact scz_endi hf hs
theorem zX11_isStep {res : Int32 × eM} {x0 : Int32} {M : eM} (hf : fX11_isStep x0 M = some res) : ScZ M res.2 := zX11_isStep_0 _ _ hf
theorem zX11_isAsked_0 {res : Int32 × eM} : ∀ (x1 : Int32) (x2 : Int32) (x3 : Int32) (M : eM), fX11_isAsked_0 x1 x2 x3 M = some res → ScZ M res.2 := by
  intro x1 x2 x3 M hf
  replace hf := (fX11_isAsked_0.eq_1 ..).symm.trans hf
  obtain ⟨r2, M3, he, hf⟩ := ea_ci_s hf
  have hs := ScZ.trans ScZ.rf (zX11_isCell he)
  rcases ea_if_s hf with ⟨_, hf⟩ | ⟨_, hf⟩
  · exact scz_endi hf hs
  · obtain ⟨r6, M7, he, hf⟩ := ea_ci_s hf
    have hs := ScZ.trans hs (zX11_isStory he)
    rcases ea_if_s hf with ⟨_, hf⟩ | ⟨_, hf⟩
    · exact scz_endi hf hs
    · obtain ⟨r10, M11, he, hf⟩ := ea_ci_s hf
      have hs := ScZ.trans hs (zX11_isStep he)
      rcases ea_if_s hf with ⟨_, hf⟩ | ⟨_, hf⟩
      · exact scz_endi hf hs
      · exact scz_endi hf hs
theorem zX11_isAsked {res : Int32 × eM} {x1 : Int32} {x2 : Int32} {x3 : Int32} {M : eM} (hf : fX11_isAsked x1 x2 x3 M = some res) : ScZ M res.2 := zX11_isAsked_0 _ _ _ _ hf
theorem zX11_onlyThread_0 {res : Int32 × eM} : ∀ (x1 : Int32) (x2 : Int32) (x3 : Int32) (M : eM), fX11_onlyThread_0 x1 x2 x3 M = some res → ScZ M res.2 := by
  intro x1 x2 x3 M hf
  replace hf := (fX11_onlyThread_0.eq_1 ..).symm.trans hf
  obtain ⟨M2, he, hf⟩ := ea_cv_s hf
  have hs := ScZ.trans ScZ.rf (zX11_findFits he)
  rcases ea_if_s hf with ⟨_, hf⟩ | ⟨_, hf⟩
  · exact scz_endi hf hs
  · exact scz_endi hf hs
theorem zX11_onlyThread {res : Int32 × eM} {x1 : Int32} {x2 : Int32} {x3 : Int32} {M : eM} (hf : fX11_onlyThread x1 x2 x3 M = some res) : ScZ M res.2 := zX11_onlyThread_0 _ _ _ _ hf
theorem zX11_beside_139 {res : Int32 × eM} {k61 : Int32 → Int32 → Int32 → Int32 → Int32 → Int32 → Int32 → Int32 → eM → Option (Int32 × eM)} (hk61 : ∀ (x1 : Int32) (x2 : Int32) (x3 : Int32) (x4 : Int32) (x5 : Int32) (x6 : Int32) (x7 : Int32) (x8 : Int32) (M : eM), k61 x1 x2 x3 x4 x5 x6 x7 x8 M = some res → ScZ M res.2) : ∀ (x1 : Int32) (x2 : Int32) (x3 : Int32) (x4 : Int32) (x5 : Int32) (x6 : Int32) (x7 : Int32) (x8 : Int32) (M : eM), fX11_beside_139 k61 x1 x2 x3 x4 x5 x6 x7 x8 M = some res → ScZ M res.2 := by
  intro x1 x2 x3 x4 x5 x6 x7 x8 M hf
  replace hf := (fX11_beside_139.eq_1 ..).symm.trans hf
  exact ScZ.trans ScZ.rf (hk61 _ _ _ _ _ _ _ _ _ hf)
theorem zX11_beside_61 {res : Int32 × eM} {k145 : Int32 → Int32 → Int32 → Int32 → Int32 → Int32 → Int32 → eM → Option (Int32 × eM)} (hk145 : ∀ (x1 : Int32) (x2 : Int32) (x3 : Int32) (x4 : Int32) (x5 : Int32) (x6 : Int32) (x7 : Int32) (M : eM), k145 x1 x2 x3 x4 x5 x6 x7 M = some res → ScZ M res.2) : ∀ (n : Nat) (x1 : Int32) (x2 : Int32) (x3 : Int32) (x4 : Int32) (x5 : Int32) (x6 : Int32) (x7 : Int32) (x8 : Int32) (M : eM), fX11_beside_61 k145 n x1 x2 x3 x4 x5 x6 x7 x8 M = some res → ScZ M res.2 := by
  intro n
  induction n with
  | zero => intro x1 x2 x3 x4 x5 x6 x7 x8 M hf; cases hf
  | succ n ih =>
    intro x1 x2 x3 x4 x5 x6 x7 x8 M hf
    replace hf := (fX11_beside_61.eq_2 ..).symm.trans hf
    obtain ⟨_, hf⟩ := ea_ck_s hf
    rcases ea_if_s hf with ⟨_, hf⟩ | ⟨_, hf⟩
    · exact ScZ.trans ScZ.rf (hk145 _ _ _ _ _ _ _ _ hf)
    · obtain ⟨r4, M5, he, hf⟩ := ea_ci_s hf
      have hs := ScZ.trans ScZ.rf (zX11_in he)
      rcases ea_if_s hf with ⟨_, hf⟩ | ⟨_, hf⟩
      · exact ScZ.trans hs (zX11_beside_139 ih _ _ _ _ _ _ _ _ _ hf)
      · obtain ⟨r8, M9, he, hf⟩ := ea_ci_s hf
        have hs := ScZ.trans hs (zX11_in he)
        rcases ea_if_s hf with ⟨_, hf⟩ | ⟨_, hf⟩
        · exact ScZ.trans hs (zX11_beside_139 ih _ _ _ _ _ _ _ _ _ hf)
        · rcases ea_if_s hf with ⟨_, hf⟩ | ⟨_, hf⟩
          · exact ScZ.trans hs (zX11_beside_139 ih _ _ _ _ _ _ _ _ _ hf)
          · obtain ⟨r13, M14, he, hf⟩ := ea_ci_s hf
            have hs := ScZ.trans hs (zX11_onlyThread he)
            obtain ⟨_, hf⟩ := ea_ck_s hf
            exact ScZ.trans (hs.pI rfl) (zX11_beside_139 ih _ _ _ _ _ _ _ _ _ hf)
theorem zX11_beside_145 {res : Int32 × eM} {k42 : Int32 → Int32 → Int32 → Int32 → Int32 → Int32 → Int32 → eM → Option (Int32 × eM)} (hk42 : ∀ (x1 : Int32) (x2 : Int32) (x3 : Int32) (x4 : Int32) (x5 : Int32) (x6 : Int32) (x7 : Int32) (M : eM), k42 x1 x2 x3 x4 x5 x6 x7 M = some res → ScZ M res.2) : ∀ (x1 : Int32) (x2 : Int32) (x3 : Int32) (x4 : Int32) (x5 : Int32) (x6 : Int32) (x7 : Int32) (M : eM), fX11_beside_145 k42 x1 x2 x3 x4 x5 x6 x7 M = some res → ScZ M res.2 := by
  intro x1 x2 x3 x4 x5 x6 x7 M hf
  replace hf := (fX11_beside_145.eq_1 ..).symm.trans hf
  exact ScZ.trans ScZ.rf (hk42 _ _ _ _ _ _ _ _ hf)
theorem zX11_beside_42 {res : Int32 × eM} {k151 : Int32 → Int32 → eM → Option (Int32 × eM)} (hk151 : ∀ (x4 : Int32) (x6 : Int32) (M : eM), k151 x4 x6 M = some res → ScZ M res.2) : ∀ (n : Nat) (x1 : Int32) (x2 : Int32) (x3 : Int32) (x4 : Int32) (x5 : Int32) (x6 : Int32) (x7 : Int32) (M : eM), fX11_beside_42 k151 n x1 x2 x3 x4 x5 x6 x7 M = some res → ScZ M res.2 := by
  intro n
  induction n with
  | zero => intro x1 x2 x3 x4 x5 x6 x7 M hf; cases hf
  | succ n ih =>
    intro x1 x2 x3 x4 x5 x6 x7 M hf
    replace hf := (fX11_beside_42.eq_2 ..).symm.trans hf
    obtain ⟨_, hf⟩ := ea_ck_s hf
    rcases ea_if_s hf with ⟨_, hf⟩ | ⟨_, hf⟩
    · exact ScZ.trans ScZ.rf (hk151 _ _ _ hf)
    · obtain ⟨_, hf⟩ := ea_ck_s hf
      obtain ⟨y4, _, hf⟩ := ea_lt_s hf
      exact ScZ.trans ScZ.rf (zX11_beside_61 (zX11_beside_145 ih) ea_N _ _ _ _ _ _ _ _ _ hf)
theorem zX11_beside_223 {res : Int32 × eM} {k182 : Int32 → Int32 → Int32 → Int32 → Int32 → Int32 → Int32 → eM → Option (Int32 × eM)} (hk182 : ∀ (x4 : Int32) (x6 : Int32) (x7 : Int32) (x8 : Int32) (x9 : Int32) (x10 : Int32) (x11 : Int32) (M : eM), k182 x4 x6 x7 x8 x9 x10 x11 M = some res → ScZ M res.2) : ∀ (x4 : Int32) (x6 : Int32) (x7 : Int32) (x8 : Int32) (x9 : Int32) (x11 : Int32) (t0 : Int32) (t1 : Int32) (M : eM), fX11_beside_223 k182 x4 x6 x7 x8 x9 x11 t0 t1 M = some res → ScZ M res.2 := by
  intro x4 x6 x7 x8 x9 x11 t0 t1 M hf
  replace hf := (fX11_beside_223.eq_1 ..).symm.trans hf
  exact ScZ.trans ScZ.rf (hk182 _ _ _ _ _ _ _ _ hf)
theorem zX11_beside_182 {res : Int32 × eM} {k232 : Int32 → Int32 → Int32 → Int32 → Int32 → Int32 → eM → Option (Int32 × eM)} (hk232 : ∀ (x4 : Int32) (x6 : Int32) (x7 : Int32) (x8 : Int32) (x9 : Int32) (x10 : Int32) (M : eM), k232 x4 x6 x7 x8 x9 x10 M = some res → ScZ M res.2) : ∀ (n : Nat) (x4 : Int32) (x6 : Int32) (x7 : Int32) (x8 : Int32) (x9 : Int32) (x10 : Int32) (x11 : Int32) (M : eM), fX11_beside_182 k232 n x4 x6 x7 x8 x9 x10 x11 M = some res → ScZ M res.2 := by
  intro n
  induction n with
  | zero => intro x4 x6 x7 x8 x9 x10 x11 M hf; cases hf
  | succ n ih =>
    intro x4 x6 x7 x8 x9 x10 x11 M hf
    replace hf := (fX11_beside_182.eq_2 ..).symm.trans hf
    rcases ea_if_s hf with ⟨_, hf⟩ | ⟨_, hf⟩
    · exact ScZ.trans ScZ.rf (hk232 _ _ _ _ _ _ _ hf)
    · obtain ⟨_, hf⟩ := ea_ck_s hf
      rcases ea_if_s hf with ⟨_, hf⟩ | ⟨_, hf⟩
      · exact ScZ.trans ScZ.rf (hk232 _ _ _ _ _ _ _ hf)
      · obtain ⟨_, hf⟩ := ea_ck_s hf
        obtain ⟨_, hf⟩ := ea_ck_s hf
        rcases ea_if_s hf with ⟨_, hf⟩ | ⟨_, hf⟩
        · exact ScZ.trans ScZ.rf (zX11_beside_223 ih _ _ _ _ _ _ _ _ _ hf)
        · exact ScZ.trans ScZ.rf (zX11_beside_223 ih _ _ _ _ _ _ _ _ _ hf)
theorem zX11_beside_279 {res : Int32 × eM} {k169 : Int32 → Int32 → Int32 → Int32 → Int32 → eM → Option (Int32 × eM)} (hk169 : ∀ (x4 : Int32) (x6 : Int32) (x7 : Int32) (x8 : Int32) (x9 : Int32) (M : eM), k169 x4 x6 x7 x8 x9 M = some res → ScZ M res.2) : ∀ (x4 : Int32) (x6 : Int32) (x7 : Int32) (x8 : Int32) (x9 : Int32) (M : eM), fX11_beside_279 k169 x4 x6 x7 x8 x9 M = some res → ScZ M res.2 := by
  intro x4 x6 x7 x8 x9 M hf
  replace hf := (fX11_beside_279.eq_1 ..).symm.trans hf
  exact ScZ.trans ScZ.rf (hk169 _ _ _ _ _ _ hf)
theorem zX11_beside_266 {res : Int32 × eM} {k169 : Int32 → Int32 → Int32 → Int32 → Int32 → eM → Option (Int32 × eM)} (hk169 : ∀ (x4 : Int32) (x6 : Int32) (x7 : Int32) (x8 : Int32) (x9 : Int32) (M : eM), k169 x4 x6 x7 x8 x9 M = some res → ScZ M res.2) : ∀ (x4 : Int32) (x6 : Int32) (x9 : Int32) (x10 : Int32) (M : eM), fX11_beside_266 k169 x4 x6 x9 x10 M = some res → ScZ M res.2 := by
  intro x4 x6 x9 x10 M hf
  replace hf := (fX11_beside_266.eq_1 ..).symm.trans hf
  obtain ⟨_, hf⟩ := ea_ck_s hf
  exact ScZ.trans ScZ.rf (zX11_beside_279 hk169 _ _ _ _ _ _ hf)
theorem zX11_beside_232 {res : Int32 × eM} {k169 : Int32 → Int32 → Int32 → Int32 → Int32 → eM → Option (Int32 × eM)} (hk169 : ∀ (x4 : Int32) (x6 : Int32) (x7 : Int32) (x8 : Int32) (x9 : Int32) (M : eM), k169 x4 x6 x7 x8 x9 M = some res → ScZ M res.2) : ∀ (x4 : Int32) (x6 : Int32) (x7 : Int32) (x8 : Int32) (x9 : Int32) (x10 : Int32) (M : eM), fX11_beside_232 k169 x4 x6 x7 x8 x9 x10 M = some res → ScZ M res.2 := by
  intro x4 x6 x7 x8 x9 x10 M hf
  replace hf := (fX11_beside_232.eq_1 ..).symm.trans hf
  rcases ea_if_s hf with ⟨_, hf⟩ | ⟨_, hf⟩
  · exact ScZ.trans ScZ.rf (zX11_beside_279 hk169 _ _ _ _ _ _ hf)
  · rcases ea_if_s hf with ⟨_, hf⟩ | ⟨_, hf⟩
    · exact ScZ.trans ScZ.rf (zX11_beside_279 hk169 _ _ _ _ _ _ hf)
    · rcases ea_if_s hf with ⟨_, hf⟩ | ⟨_, hf⟩
      · obtain ⟨_, hf⟩ := ea_ck_s hf
        rcases ea_if_s hf with ⟨_, hf⟩ | ⟨_, hf⟩
        · exact ScZ.trans ScZ.rf (zX11_beside_266 hk169 _ _ _ _ _ hf)
        · exact ScZ.trans ScZ.rf (zX11_beside_279 hk169 _ _ _ _ _ _ hf)
      · exact ScZ.trans ScZ.rf (zX11_beside_266 hk169 _ _ _ _ _ hf)
theorem zX11_beside_169 {res : Int32 × eM} {k285 : Int32 → Int32 → Int32 → eM → Option (Int32 × eM)} (hk285 : ∀ (x4 : Int32) (x7 : Int32) (x8 : Int32) (M : eM), k285 x4 x7 x8 M = some res → ScZ M res.2) : ∀ (n : Nat) (x4 : Int32) (x6 : Int32) (x7 : Int32) (x8 : Int32) (x9 : Int32) (M : eM), fX11_beside_169 k285 n x4 x6 x7 x8 x9 M = some res → ScZ M res.2 := by
  intro n
  induction n with
  | zero => intro x4 x6 x7 x8 x9 M hf; cases hf
  | succ n ih =>
    intro x4 x6 x7 x8 x9 M hf
    replace hf := (fX11_beside_169.eq_2 ..).symm.trans hf
    rcases ea_if_s hf with ⟨_, hf⟩ | ⟨_, hf⟩
    · exact ScZ.trans ScZ.rf (hk285 _ _ _ _ hf)
    · exact ScZ.trans ScZ.rf (zX11_beside_182 (zX11_beside_232 ih) ea_N _ _ _ _ _ _ _ _ hf)
theorem zX11_beside_285 {res : Int32 × eM} : ∀ (x4 : Int32) (x7 : Int32) (x8 : Int32) (M : eM), fX11_beside_285 x4 x7 x8 M = some res → ScZ M res.2 := by
  intro x4 x7 x8 M hf
  replace hf := (fX11_beside_285.eq_1 ..).symm.trans hf
  rcases ea_if_s hf with ⟨_, hf⟩ | ⟨_, hf⟩
  · exact scz_endi hf ScZ.rf
  · exact scz_endi hf ScZ.rf
theorem zX11_beside_151 {res : Int32 × eM} : ∀ (x4 : Int32) (x6 : Int32) (M : eM), fX11_beside_151 x4 x6 M = some res → ScZ M res.2 := by
  intro x4 x6 M hf
  replace hf := (fX11_beside_151.eq_1 ..).symm.trans hf
  rcases ea_if_s hf with ⟨_, hf⟩ | ⟨_, hf⟩
  · exact scz_endi hf ScZ.rf
  · exact ScZ.trans ScZ.rf (zX11_beside_169 (zX11_beside_285) ea_N _ _ _ _ _ _ hf)
theorem zX11_beside_0 {res : Int32 × eM} : ∀ (x1 : Int32) (x2 : Int32) (x3 : Int32) (x4 : Int32) (M : eM), fX11_beside_0 x1 x2 x3 x4 M = some res → ScZ M res.2 := by
  intro x1 x2 x3 x4 M hf
  replace hf := (fX11_beside_0.eq_1 ..).symm.trans hf
  obtain ⟨r2, M3, he, hf⟩ := ea_ci_s hf
  have hs := ScZ.trans ScZ.rf (zX11_isAsked he)
  rcases ea_if_s hf with ⟨_, hf⟩ | ⟨_, hf⟩
  · exact scz_endi hf hs
  · obtain ⟨r6, M7, he, hf⟩ := ea_ci_s hf
    have hs := ScZ.trans hs (zX11_in he)
    rcases ea_if_s hf with ⟨_, hf⟩ | ⟨_, hf⟩
    · exact scz_endi hf hs
    · obtain ⟨y9, _, hf⟩ := ea_lt_s hf
      obtain ⟨_, hf⟩ := ea_ck_s hf
      exact ScZ.trans hs (zX11_beside_42 (zX11_beside_151) ea_N _ _ _ _ _ _ _ _ hf)
theorem zX11_beside {res : Int32 × eM} {x1 : Int32} {x2 : Int32} {x3 : Int32} {x4 : Int32} {M : eM} (hf : fX11_beside x1 x2 x3 x4 M = some res) : ScZ M res.2 := zX11_beside_0 _ _ _ _ _ hf
theorem zX11_byteAt_0 {res : Int32 × eM} : ∀ (x1 : Int32) (M : eM), fX11_byteAt_0 x1 M = some res → ScZ M res.2 := by
  intro x1 M hf
  replace hf := (fX11_byteAt_0.eq_1 ..).symm.trans hf
  rcases ea_if_s hf with ⟨_, hf⟩ | ⟨_, hf⟩
  · exact scz_endi hf ScZ.rf
  · obtain ⟨_, hf⟩ := ea_ck_s hf
    exact scz_endi hf ScZ.rf
theorem zX11_byteAt {res : Int32 × eM} {x1 : Int32} {M : eM} (hf : fX11_byteAt x1 M = some res) : ScZ M res.2 := zX11_byteAt_0 _ _ hf
theorem zX11_frontOf_27 {res : Int32 × eM} : ∀ (M : eM), fX11_frontOf_27 M = some res → ScZ M res.2 := by
  intro M hf
  replace hf := (fX11_frontOf_27.eq_1 ..).symm.trans hf
  exact scz_endi hf ScZ.rf
theorem zX11_frontOf_0 {res : Int32 × eM} : ∀ (x1 : Int32) (M : eM), fX11_frontOf_0 x1 M = some res → ScZ M res.2 := by
  intro x1 M hf
  replace hf := (fX11_frontOf_0.eq_1 ..).symm.trans hf
  obtain ⟨r2, M3, he, hf⟩ := ea_ci_s hf
  have hs := ScZ.trans ScZ.rf (zX11_lookAt he)
  rcases ea_if_s hf with ⟨_, hf⟩ | ⟨_, hf⟩
  · exact ScZ.trans hs (zX11_frontOf_27 _ hf)
  · obtain ⟨_, hf⟩ := ea_ck_s hf
    rcases ea_if_s hf with ⟨_, hf⟩ | ⟨_, hf⟩
    · exact ScZ.trans hs (zX11_frontOf_27 _ hf)
    · exact scz_endi hf hs
theorem zX11_frontOf {res : Int32 × eM} {x1 : Int32} {M : eM} (hf : fX11_frontOf x1 M = some res) : ScZ M res.2 := zX11_frontOf_0 _ _ hf
theorem zX11_isEye_0 {res : Int32 × eM} : ∀ (x1 : Int32) (M : eM), fX11_isEye_0 x1 M = some res → ScZ M res.2 := by
  intro x1 M hf
  replace hf := (fX11_isEye_0.eq_1 ..).symm.trans hf
  obtain ⟨r2, M3, he, hf⟩ := ea_ci_s hf
  have hs := ScZ.trans ScZ.rf (zX11_in he)
  obtain ⟨_, hf⟩ := ea_ck_s hf
  exact scz_endi hf hs
theorem zX11_isEye {res : Int32 × eM} {x1 : Int32} {M : eM} (hf : fX11_isEye x1 M = some res) : ScZ M res.2 := zX11_isEye_0 _ _ hf
theorem zX11_spanEnd_56 {res : Int32 × eM} {k5 : Int32 → Int32 → Int32 → Int32 → eM → Option (Int32 × eM)} (hk5 : ∀ (x1 : Int32) (x2 : Int32) (x3 : Int32) (x4 : Int32) (M : eM), k5 x1 x2 x3 x4 M = some res → ScZ M res.2) : ∀ (x1 : Int32) (x2 : Int32) (x3 : Int32) (x4 : Int32) (M : eM), fX11_spanEnd_56 k5 x1 x2 x3 x4 M = some res → ScZ M res.2 := by
  intro x1 x2 x3 x4 M hf
  replace hf := (fX11_spanEnd_56.eq_1 ..).symm.trans hf
  exact ScZ.trans ScZ.rf (hk5 _ _ _ _ _ hf)
theorem zX11_spanEnd_53 {res : Int32 × eM} {k5 : Int32 → Int32 → Int32 → Int32 → eM → Option (Int32 × eM)} (hk5 : ∀ (x1 : Int32) (x2 : Int32) (x3 : Int32) (x4 : Int32) (M : eM), k5 x1 x2 x3 x4 M = some res → ScZ M res.2) : ∀ (x1 : Int32) (x2 : Int32) (x4 : Int32) (x5 : Int32) (M : eM), fX11_spanEnd_53 k5 x1 x2 x4 x5 M = some res → ScZ M res.2 := by
  intro x1 x2 x4 x5 M hf
  replace hf := (fX11_spanEnd_53.eq_1 ..).symm.trans hf
  exact ScZ.trans ScZ.rf (zX11_spanEnd_56 hk5 _ _ _ _ _ hf)
theorem zX11_spanEnd_5 {res : Int32 × eM} : ∀ (n : Nat) (x1 : Int32) (x2 : Int32) (x3 : Int32) (x4 : Int32) (M : eM), fX11_spanEnd_5 n x1 x2 x3 x4 M = some res → ScZ M res.2 := by
  intro n
  induction n with
  | zero => intro x1 x2 x3 x4 M hf; cases hf
  | succ n ih =>
    intro x1 x2 x3 x4 M hf
    replace hf := (fX11_spanEnd_5.eq_2 ..).symm.trans hf
    rcases ea_if_s hf with ⟨_, hf⟩ | ⟨_, hf⟩
    · exact scz_endi hf ScZ.rf
    · obtain ⟨_, hf⟩ := ea_ck_s hf
      obtain ⟨r4, M5, he, hf⟩ := ea_ci_s hf
      have hs := ScZ.trans ScZ.rf (zX11_colourOf he)
      rcases ea_if_s hf with ⟨_, hf⟩ | ⟨_, hf⟩
      · exact ScZ.trans hs (zX11_spanEnd_53 ih _ _ _ _ _ hf)
      · rcases ea_if_s hf with ⟨_, hf⟩ | ⟨_, hf⟩
        · rcases ea_if_s hf with ⟨_, hf⟩ | ⟨_, hf⟩
          · exact ScZ.trans hs (zX11_spanEnd_56 ih _ _ _ _ _ hf)
          · exact ScZ.trans hs (zX11_spanEnd_53 ih _ _ _ _ _ hf)
        · rcases ea_if_s hf with ⟨_, hf⟩ | ⟨_, hf⟩
          · exact ScZ.trans hs (zX11_spanEnd_56 ih _ _ _ _ _ hf)
          · exact ScZ.trans hs (zX11_spanEnd_53 ih _ _ _ _ _ hf)
theorem zX11_spanEnd_0 {res : Int32 × eM} : ∀ (x1 : Int32) (x2 : Int32) (M : eM), fX11_spanEnd_0 x1 x2 M = some res → ScZ M res.2 := by
  intro x1 x2 M hf
  replace hf := (fX11_spanEnd_0.eq_1 ..).symm.trans hf
  exact ScZ.trans ScZ.rf (zX11_spanEnd_5 ea_N _ _ _ _ _ hf)
theorem zX11_spanEnd {res : Int32 × eM} {x1 : Int32} {x2 : Int32} {M : eM} (hf : fX11_spanEnd x1 x2 M = some res) : ScZ M res.2 := zX11_spanEnd_0 _ _ _ hf
theorem zX11_greyOf_12 {res : Int32 × eM} {k43 : Int32 → eM → Option (Int32 × eM)} (hk43 : ∀ (x2 : Int32) (M : eM), k43 x2 M = some res → ScZ M res.2) : ∀ (n : Nat) (x1 : Int32) (x2 : Int32) (x3 : Int32) (M : eM), fX11_greyOf_12 k43 n x1 x2 x3 M = some res → ScZ M res.2 := by
  intro n
  induction n with
  | zero => intro x1 x2 x3 M hf; cases hf
  | succ n ih =>
    intro x1 x2 x3 M hf
    replace hf := (fX11_greyOf_12.eq_2 ..).symm.trans hf
    rcases ea_if_s hf with ⟨_, hf⟩ | ⟨_, hf⟩
    · exact ScZ.trans ScZ.rf (hk43 _ _ hf)
    · obtain ⟨r3, M4, he, hf⟩ := ea_ci_s hf
      have hs := ScZ.trans ScZ.rf (zX11_spanEnd he)
      obtain ⟨r6, M7, he, hf⟩ := ea_ci_s hf
      have hs := ScZ.trans hs (zX11_spanEnd he)
      rcases ea_if_s hf with ⟨_, hf⟩ | ⟨_, hf⟩
      · exact ScZ.trans hs (ih _ _ _ _ hf)
      · exact scz_endi hf hs
theorem zX11_greyOf_43 {res : Int32 × eM} : ∀ (x2 : Int32) (M : eM), fX11_greyOf_43 x2 M = some res → ScZ M res.2 := by
  intro x2 M hf
  replace hf := (fX11_greyOf_43.eq_1 ..).symm.trans hf
  obtain ⟨r2, M3, he, hf⟩ := ea_ci_s hf
  have hs := ScZ.trans ScZ.rf (zX11_spanEnd he)
  obtain ⟨r5, M6, he, hf⟩ := ea_ci_s hf
  have hs := ScZ.trans hs (zX11_spanEnd he)
  exact scz_endi hf hs
theorem zX11_greyOf_0 {res : Int32 × eM} : ∀ (x1 : Int32) (x2 : Int32) (M : eM), fX11_greyOf_0 x1 x2 M = some res → ScZ M res.2 := by
  intro x1 x2 M hf
  replace hf := (fX11_greyOf_0.eq_1 ..).symm.trans hf
  rcases ea_if_s hf with ⟨_, hf⟩ | ⟨_, hf⟩
  · exact scz_endi hf ScZ.rf
  · exact ScZ.trans ScZ.rf (zX11_greyOf_12 (zX11_greyOf_43) ea_N _ _ _ _ hf)
theorem zX11_greyOf {res : Int32 × eM} {x1 : Int32} {x2 : Int32} {M : eM} (hf : fX11_greyOf x1 x2 M = some res) : ScZ M res.2 := zX11_greyOf_0 _ _ _ hf
