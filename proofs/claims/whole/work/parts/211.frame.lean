theorem sX10_hoursPast_59 {res : Int32 × eM} {k11 : Int32 → Int32 → Int32 → Int32 → Int32 → Int32 → eM → Option (Int32 × eM)} (hk11 : ∀ (x1 : Int32) (x2 : Int32) (x3 : Int32) (x4 : Int32) (x5 : Int32) (x6 : Int32) (M : eM), k11 x1 x2 x3 x4 x5 x6 M = some res → Scr M res.2) : ∀ (x1 : Int32) (x2 : Int32) (x3 : Int32) (x4 : Int32) (x5 : Int32) (x6 : Int32) (M : eM), fX10_hoursPast_59 k11 x1 x2 x3 x4 x5 x6 M = some res → Scr M res.2 := by
  intro x1 x2 x3 x4 x5 x6 M hf
  replace hf := (fX10_hoursPast_59.eq_1 ..).symm.trans hf
  exact Scr.trans Scr.rf (hk11 _ _ _ _ _ _ _ hf)
theorem sX10_hoursPast_11 {res : Int32 × eM} : ∀ (n : Nat) (x1 : Int32) (x2 : Int32) (x3 : Int32) (x4 : Int32) (x5 : Int32) (x6 : Int32) (M : eM), fX10_hoursPast_11 n x1 x2 x3 x4 x5 x6 M = some res → Scr M res.2 := by
  intro n
  induction n with
  | zero => intro x1 x2 x3 x4 x5 x6 M hf; cases hf
  | succ n ih =>
    intro x1 x2 x3 x4 x5 x6 M hf
    replace hf := (fX10_hoursPast_11.eq_2 ..).symm.trans hf
    rcases ea_if_s hf with ⟨_, hf⟩ | ⟨_, hf⟩
    · exact scr_endi hf Scr.rf
    · rcases ea_if_s hf with ⟨_, hf⟩ | ⟨_, hf⟩
      · exact scr_endi hf Scr.rf
      · obtain ⟨r4, M5, he, hf⟩ := ea_ci_s hf
        have hs := Scr.trans Scr.rf (sX10_isPast he)
        rcases ea_if_s hf with ⟨_, hf⟩ | ⟨_, hf⟩
        · obtain ⟨y7, _, hf⟩ := ea_lt_s hf
          exact Scr.trans hs (sX10_hoursPast_59 ih _ _ _ _ _ _ _ hf)
        · exact Scr.trans hs (sX10_hoursPast_59 ih _ _ _ _ _ _ _ hf)
theorem sX10_hoursPast_0 {res : Int32 × eM} : ∀ (x1 : Int32) (x2 : Int32) (x3 : Int32) (M : eM), fX10_hoursPast_0 x1 x2 x3 M = some res → Scr M res.2 := by
  intro x1 x2 x3 M hf
  replace hf := (fX10_hoursPast_0.eq_1 ..).symm.trans hf
  exact Scr.trans Scr.rf (sX10_hoursPast_11 ea_N _ _ _ _ _ _ _ hf)
theorem sX10_hoursPast {res : Int32 × eM} {x1 : Int32} {x2 : Int32} {x3 : Int32} {M : eM} (hf : fX10_hoursPast x1 x2 x3 M = some res) : Scr M res.2 := sX10_hoursPast_0 _ _ _ _ hf
theorem sX10_isGoneInFront_0 {res : Int32 × eM} : ∀ (x1 : Int32) (M : eM), fX10_isGoneInFront_0 x1 M = some res → Scr M res.2 := by
  intro x1 M hf
  replace hf := (fX10_isGoneInFront_0.eq_1 ..).symm.trans hf
  obtain ⟨r2, M3, he, hf⟩ := ea_ci_s hf
  have hs := Scr.trans Scr.rf (sX8_latestLook he)
  obtain ⟨r5, M6, he, hf⟩ := ea_ci_s hf
  have hs := Scr.trans hs (sX8_lookShade he)
  rcases ea_if_s hf with ⟨_, hf⟩ | ⟨_, hf⟩
  · exact scr_endi hf hs
  · exact scr_endi hf hs
theorem sX10_isGoneInFront {res : Int32 × eM} {x1 : Int32} {M : eM} (hf : fX10_isGoneInFront x1 M = some res) : Scr M res.2 := sX10_isGoneInFront_0 _ _ hf
theorem sX10_isWithinSlack_16 {res : Int32 × eM} : ∀ (n : Nat) (x1 : Int32) (x2 : Int32) (x3 : Int32) (x4 : Int32) (M : eM), fX10_isWithinSlack_16 n x1 x2 x3 x4 M = some res → Scr M res.2 := by
  intro n
  induction n with
  | zero => intro x1 x2 x3 x4 M hf; cases hf
  | succ n ih =>
    intro x1 x2 x3 x4 M hf
    replace hf := (fX10_isWithinSlack_16.eq_2 ..).symm.trans hf
    rcases ea_if_s hf with ⟨_, hf⟩ | ⟨_, hf⟩
    · exact scr_endi hf Scr.rf
    · obtain ⟨r3, M4, he, hf⟩ := ea_ci_s hf
      have hs := Scr.trans Scr.rf (sX9_shadeOf he)
      obtain ⟨r6, M7, he, hf⟩ := ea_ci_s hf
      have hs := Scr.trans hs (sX8_lookShade he)
      obtain ⟨_, hf⟩ := ea_ck_s hf
      rcases ea_if_s hf with ⟨_, hf⟩ | ⟨_, hf⟩
      · exact Scr.trans hs (ih _ _ _ _ _ hf)
      · exact scr_endi hf hs
theorem sX10_isWithinSlack_0 {res : Int32 × eM} : ∀ (x1 : Int32) (x2 : Int32) (x3 : Int32) (M : eM), fX10_isWithinSlack_0 x1 x2 x3 M = some res → Scr M res.2 := by
  intro x1 x2 x3 M hf
  replace hf := (fX10_isWithinSlack_0.eq_1 ..).symm.trans hf
  obtain ⟨r2, M3, he, hf⟩ := ea_ci_s hf
  have hs := Scr.trans Scr.rf (sX10_isWithin he)
  rcases ea_if_s hf with ⟨_, hf⟩ | ⟨_, hf⟩
  · exact scr_endi hf hs
  · exact Scr.trans hs (sX10_isWithinSlack_16 ea_N _ _ _ _ _ hf)
theorem sX10_isWithinSlack {res : Int32 × eM} {x1 : Int32} {x2 : Int32} {x3 : Int32} {M : eM} (hf : fX10_isWithinSlack x1 x2 x3 M = some res) : Scr M res.2 := sX10_isWithinSlack_0 _ _ _ _ hf
theorem sX10_lightBack_0 {res : Int32 × eM} : ∀ (x1 : Int32) (x2 : Int32) (x3 : Int32) (x4 : Int32) (x5 : Int32) (M : eM), fX10_lightBack_0 x1 x2 x3 x4 x5 M = some res → Scr M res.2 := by
  intro x1 x2 x3 x4 x5 M hf
  replace hf := (fX10_lightBack_0.eq_1 ..).symm.trans hf
  obtain ⟨r2, M3, he, hf⟩ := ea_ci_s hf
  have hs := Scr.trans Scr.rf (sX10_isCell he)
  rcases ea_if_s hf with ⟨_, hf⟩ | ⟨_, hf⟩
  · exact scr_endi hf hs
  · obtain ⟨r6, M7, he, hf⟩ := ea_ci_s hf
    have hs := Scr.trans hs (sX10_isSide he)
    rcases ea_if_s hf with ⟨_, hf⟩ | ⟨_, hf⟩
    · exact scr_endi hf hs
    · obtain ⟨r10, M11, he, hf⟩ := ea_ci_s hf
      have hs := Scr.trans hs (sX10_isThread he)
      rcases ea_if_s hf with ⟨_, hf⟩ | ⟨_, hf⟩
      · exact scr_endi hf hs
      · obtain ⟨r14, M15, he, hf⟩ := ea_ci_s hf
        have hs := Scr.trans hs (sX10_isStep he)
        rcases ea_if_s hf with ⟨_, hf⟩ | ⟨_, hf⟩
        · exact scr_endi hf hs
        · obtain ⟨r18, M19, he, hf⟩ := ea_ci_s hf
          have hs := Scr.trans hs (sX8_latestLook he)
          obtain ⟨r21, M22, he, hf⟩ := ea_ci_s hf
          have hs := Scr.trans hs (sX8_isSeen he)
          rcases ea_if_s hf with ⟨_, hf⟩ | ⟨_, hf⟩
          · exact scr_endi hf hs
          · obtain ⟨_, hf⟩ := ea_ck_s hf
            obtain ⟨r26, M27, he, hf⟩ := ea_ci_s hf
            have hs := Scr.trans hs (sX10_hoursPast he)
            obtain ⟨_, hf⟩ := ea_ck_s hf
            obtain ⟨r30, M31, he, hf⟩ := ea_ci_s hf
            have hs := Scr.trans hs (sX10_hoursPast he)
            obtain ⟨r33, M34, he, hf⟩ := ea_ci_s hf
            have hs := Scr.trans hs (sX10_isWithinSlack he)
            rcases ea_if_s hf with ⟨_, hf⟩ | ⟨_, hf⟩
            · exact scr_endi hf hs
            · rcases ea_if_s hf with ⟨_, hf⟩ | ⟨_, hf⟩
              · exact scr_endi hf hs
              · exact scr_endi hf hs
theorem sX10_lightBack {res : Int32 × eM} {x1 : Int32} {x2 : Int32} {x3 : Int32} {x4 : Int32} {x5 : Int32} {M : eM} (hf : fX10_lightBack x1 x2 x3 x4 x5 M = some res) : Scr M res.2 := sX10_lightBack_0 _ _ _ _ _ _ hf
theorem sX10_mayBe_50 {res : Int32 × eM} {k2 : Int32 → Int32 → Int32 → eM → Option (Int32 × eM)} (hk2 : ∀ (x1 : Int32) (x2 : Int32) (x3 : Int32) (M : eM), k2 x1 x2 x3 M = some res → Scr M res.2) : ∀ (x1 : Int32) (x2 : Int32) (x3 : Int32) (M : eM), fX10_mayBe_50 k2 x1 x2 x3 M = some res → Scr M res.2 := by
  intro x1 x2 x3 M hf
  replace hf := (fX10_mayBe_50.eq_1 ..).symm.trans hf
  exact Scr.trans Scr.rf (hk2 _ _ _ _ hf)
theorem sX10_mayBe_2 {res : Int32 × eM} : ∀ (n : Nat) (x1 : Int32) (x2 : Int32) (x3 : Int32) (M : eM), fX10_mayBe_2 n x1 x2 x3 M = some res → Scr M res.2 := by
  intro n
  induction n with
  | zero => intro x1 x2 x3 M hf; cases hf
  | succ n ih =>
    intro x1 x2 x3 M hf
    replace hf := (fX10_mayBe_2.eq_2 ..).symm.trans hf
    obtain ⟨_, hf⟩ := ea_ck_s hf
    obtain ⟨r3, M4, he, hf⟩ := ea_ci_s hf
    have hs := Scr.trans Scr.rf (sX1_cells he)
    rcases ea_if_s hf with ⟨_, hf⟩ | ⟨_, hf⟩
    · exact scr_endi hf hs
    · obtain ⟨r7, M8, he, hf⟩ := ea_ci_s hf
      have hs := Scr.trans hs (sX8_isBlank he)
      rcases ea_if_s hf with ⟨_, hf⟩ | ⟨_, hf⟩
      · obtain ⟨M11, he, hf⟩ := ea_cv_s hf
        have hs := Scr.trans hs (sX3_find (by decide) he)
        rcases ea_if_s hf with ⟨_, hf⟩ | ⟨_, hf⟩
        · exact scr_endi hf hs
        · exact Scr.trans hs (sX10_mayBe_50 ih _ _ _ _ hf)
      · exact Scr.trans hs (sX10_mayBe_50 ih _ _ _ _ hf)
theorem sX10_mayBe_0 {res : Int32 × eM} : ∀ (x1 : Int32) (x2 : Int32) (M : eM), fX10_mayBe_0 x1 x2 M = some res → Scr M res.2 := by
  intro x1 x2 M hf
  replace hf := (fX10_mayBe_0.eq_1 ..).symm.trans hf
  exact Scr.trans Scr.rf (sX10_mayBe_2 ea_N _ _ _ _ hf)
theorem sX10_mayBe {res : Int32 × eM} {x1 : Int32} {x2 : Int32} {M : eM} (hf : fX10_mayBe x1 x2 M = some res) : Scr M res.2 := sX10_mayBe_0 _ _ _ hf
theorem sX10_mended_0 {res : Int32 × eM} : ∀ (x1 : Int32) (x2 : Int32) (x3 : Int32) (M : eM), fX10_mended_0 x1 x2 x3 M = some res → Scr M res.2 := by
  intro x1 x2 x3 M hf
  replace hf := (fX10_mended_0.eq_1 ..).symm.trans hf
  obtain ⟨r2, M3, he, hf⟩ := ea_ci_s hf
  have hs := Scr.trans Scr.rf (sX10_mayFit he)
  rcases ea_if_s hf with ⟨_, hf⟩ | ⟨_, hf⟩
  · exact scr_endi hf hs
  · obtain ⟨M6, he, hf⟩ := ea_cv_s hf
    have hs := Scr.trans hs (sX3_find (by decide) he)
    rcases ea_if_s hf with ⟨_, hf⟩ | ⟨_, hf⟩
    · exact scr_endi hf hs
    · rcases ea_if_s hf with ⟨_, hf⟩ | ⟨_, hf⟩
      · exact scr_endi hf hs
      · rcases ea_if_s hf with ⟨_, hf⟩ | ⟨_, hf⟩
        · exact scr_endi hf hs
        · exact scr_endi hf hs
theorem sX10_mended {res : Int32 × eM} {x1 : Int32} {x2 : Int32} {x3 : Int32} {M : eM} (hf : fX10_mended x1 x2 x3 M = some res) : Scr M res.2 := sX10_mended_0 _ _ _ _ hf
theorem sX4_addYear_96 {res : eM} {a1 : Nat} (ha1 : a1 = 50 ∨ a1 = 60) {k2 : Int32 → Int32 → eM → Option (eM)} (hk2 : ∀ (x2 : Int32) (x3 : Int32) (M : eM), k2 x2 x3 M = some res → Scr M res) : ∀ (x2 : Int32) (x3 : Int32) (M : eM), fX4_addYear_96 k2 a1 x2 x3 M = some res → Scr M res := by
  intro x2 x3 M hf
  replace hf := (fX4_addYear_96.eq_1 ..).symm.trans hf
  exact Scr.trans Scr.rf (hk2 _ _ _ hf)
theorem sX4_addYear_2 {res : eM} {a1 : Nat} (ha1 : a1 = 50 ∨ a1 = 60) : ∀ (n : Nat) (x2 : Int32) (x3 : Int32) (M : eM), fX4_addYear_2 a1 n x2 x3 M = some res → Scr M res := by
  intro n
  induction n with
  | zero => intro x2 x3 M hf; cases hf
  | succ n ih =>
    intro x2 x3 M hf
    replace hf := (fX4_addYear_2.eq_2 ..).symm.trans hf
    rcases ea_if_s hf with ⟨_, hf⟩ | ⟨_, hf⟩
    · exact scr_endv hf Scr.rf
    · obtain ⟨_, hf⟩ := ea_ck_s hf
      rcases ea_if_s hf with ⟨_, hf⟩ | ⟨_, hf⟩
      · exact Scr.trans Scr.rf (sX4_addYear_96 ha1 ih _ _ _ hf)
      · rcases ea_if_s hf with ⟨_, hf⟩ | ⟨_, hf⟩
        · exact Scr.trans Scr.rf (sX4_addYear_96 ha1 ih _ _ _ hf)
        · obtain ⟨r6, M7, he, hf⟩ := ea_ci_s hf
          have hs := Scr.trans Scr.rf (sX5_shadeOf (by rcases ha1 with rfl | rfl <;> decide) he)
          obtain ⟨r9, M10, he, hf⟩ := ea_ci_s hf
          have hs := Scr.trans hs (sX5_shadeOf (by rcases ha1 with rfl | rfl <;> decide) he)
          obtain ⟨y11, _, hf⟩ := ea_lt_s hf
          obtain ⟨r14, M15, he, hf⟩ := ea_ci_s hf
          have hs := Scr.trans hs (sX5_shadeOf (by rcases ha1 with rfl | rfl <;> decide) he)
          obtain ⟨_, hf⟩ := ea_ck_s hf
          exact Scr.trans ((hs.pI rfl).pI rfl) (sX4_addYear_96 ha1 ih _ _ _ hf)
theorem sX4_addYear_0 {res : eM} {a1 : Nat} (ha1 : a1 = 50 ∨ a1 = 60) : ∀ (x2 : Int32) (M : eM), fX4_addYear_0 a1 x2 M = some res → Scr M res := by
  intro x2 M hf
  replace hf := (fX4_addYear_0.eq_1 ..).symm.trans hf
  exact Scr.trans Scr.rf (sX4_addYear_2 ha1 ea_N _ _ _ hf)
theorem sX4_addYear {res : eM} {a1 : Nat} {x2 : Int32} (ha1 : a1 = 50 ∨ a1 = 60) {M : eM} (hf : fX4_addYear a1 x2 M = some res) : Scr M res := sX4_addYear_0 ha1 _ _ hf
theorem sX4_longestRun_42 {res : Int32 × eM} {k6 : Int32 → Int32 → Int32 → eM → Option (Int32 × eM)} (hk6 : ∀ (x1 : Int32) (x2 : Int32) (x3 : Int32) (M : eM), k6 x1 x2 x3 M = some res → Scr M res.2) : ∀ (x1 : Int32) (x3 : Int32) (t0 : Int32) (M : eM), fX4_longestRun_42 k6 x1 x3 t0 M = some res → Scr M res.2 := by
  intro x1 x3 t0 M hf
  replace hf := (fX4_longestRun_42.eq_1 ..).symm.trans hf
  exact Scr.trans Scr.rf (hk6 _ _ _ _ hf)
theorem sX4_longestRun_41 {res : Int32 × eM} {k6 : Int32 → Int32 → Int32 → eM → Option (Int32 × eM)} (hk6 : ∀ (x1 : Int32) (x2 : Int32) (x3 : Int32) (M : eM), k6 x1 x2 x3 M = some res → Scr M res.2) : ∀ (x1 : Int32) (x3 : Int32) (M : eM), fX4_longestRun_41 k6 x1 x3 M = some res → Scr M res.2 := by
  intro x1 x3 M hf
  replace hf := (fX4_longestRun_41.eq_1 ..).symm.trans hf
  exact Scr.trans Scr.rf (sX4_longestRun_42 hk6 _ _ _ _ hf)
theorem sX4_longestRun_6 {res : Int32 × eM} : ∀ (n : Nat) (x1 : Int32) (x2 : Int32) (x3 : Int32) (M : eM), fX4_longestRun_6 n x1 x2 x3 M = some res → Scr M res.2 := by
  intro n
  induction n with
  | zero => intro x1 x2 x3 M hf; cases hf
  | succ n ih =>
    intro x1 x2 x3 M hf
    replace hf := (fX4_longestRun_6.eq_2 ..).symm.trans hf
    rcases ea_if_s hf with ⟨_, hf⟩ | ⟨_, hf⟩
    · exact scr_endi hf Scr.rf
    · rcases ea_if_s hf with ⟨_, hf⟩ | ⟨_, hf⟩
      · exact Scr.trans Scr.rf (sX4_longestRun_41 ih _ _ _ hf)
      · obtain ⟨_, hf⟩ := ea_ck_s hf
        obtain ⟨_, hf⟩ := ea_ck_s hf
        rcases ea_if_s hf with ⟨_, hf⟩ | ⟨_, hf⟩
        · exact Scr.trans Scr.rf (sX4_longestRun_42 ih _ _ _ _ hf)
        · exact Scr.trans Scr.rf (sX4_longestRun_41 ih _ _ _ hf)
theorem sX4_longestRun_0 {res : Int32 × eM} : ∀ (M : eM), fX4_longestRun_0 M = some res → Scr M res.2 := by
  intro M hf
  replace hf := (fX4_longestRun_0.eq_1 ..).symm.trans hf
  exact Scr.trans Scr.rf (sX4_longestRun_6 ea_N _ _ _ _ hf)
theorem sX4_longestRun {res : Int32 × eM} {M : eM} (hf : fX4_longestRun M = some res) : Scr M res.2 := sX4_longestRun_0  _ hf
theorem sX4_sink_66 {res : eM} {k13 : Int32 → Int32 → Int32 → Int32 → eM → Option (eM)} (hk13 : ∀ (x2 : Int32) (x3 : Int32) (x4 : Int32) (x5 : Int32) (M : eM), k13 x2 x3 x4 x5 M = some res → Scr M res) {k78 : Int32 → Int32 → eM → Option (eM)} (hk78 : ∀ (x3 : Int32) (x4 : Int32) (M : eM), k78 x3 x4 M = some res → Scr M res) : ∀ (x2 : Int32) (x3 : Int32) (x4 : Int32) (x5 : Int32) (x6 : Int32) (M : eM), fX4_sink_66 k13 k78 x2 x3 x4 x5 x6 M = some res → Scr M res := by
  intro x2 x3 x4 x5 x6 M hf
  replace hf := (fX4_sink_66.eq_1 ..).symm.trans hf
  obtain ⟨_, hf⟩ := ea_ck_s hf
  rcases ea_if_s hf with ⟨_, hf⟩ | ⟨_, hf⟩
  · obtain ⟨_, hf⟩ := ea_ck_s hf
    obtain ⟨_, hf⟩ := ea_ck_s hf
    exact Scr.trans (Scr.rf.pI rfl) (hk13 _ _ _ _ _ hf)
  · exact Scr.trans Scr.rf (hk78 _ _ _ hf)
theorem sX4_sink_13 {res : eM} {k78 : Int32 → Int32 → eM → Option (eM)} (hk78 : ∀ (x3 : Int32) (x4 : Int32) (M : eM), k78 x3 x4 M = some res → Scr M res) {k103 : Int32 → Int32 → eM → Option (eM)} (hk103 : ∀ (x3 : Int32) (x4 : Int32) (M : eM), k103 x3 x4 M = some res → Scr M res) : ∀ (n : Nat) (x2 : Int32) (x3 : Int32) (x4 : Int32) (x5 : Int32) (M : eM), fX4_sink_13 k78 k103 n x2 x3 x4 x5 M = some res → Scr M res := by
  intro n
  induction n with
  | zero => intro x2 x3 x4 x5 M hf; cases hf
  | succ n ih =>
    intro x2 x3 x4 x5 M hf
    replace hf := (fX4_sink_13.eq_2 ..).symm.trans hf
    rcases ea_if_s hf with ⟨_, hf⟩ | ⟨_, hf⟩
    · exact Scr.trans Scr.rf (hk103 _ _ _ hf)
    · rcases ea_if_s hf with ⟨_, hf⟩ | ⟨_, hf⟩
      · exact Scr.trans Scr.rf (hk103 _ _ _ hf)
      · obtain ⟨y3, _, hf⟩ := ea_lt_s hf
        rcases ea_if_s hf with ⟨_, hf⟩ | ⟨_, hf⟩
        · exact Scr.trans Scr.rf (sX4_sink_66 ih hk78 _ _ _ _ _ _ hf)
        · obtain ⟨_, hf⟩ := ea_ck_s hf
          obtain ⟨_, hf⟩ := ea_ck_s hf
          rcases ea_if_s hf with ⟨_, hf⟩ | ⟨_, hf⟩
          · exact Scr.trans Scr.rf (sX4_sink_66 ih hk78 _ _ _ _ _ _ hf)
          · exact Scr.trans Scr.rf (sX4_sink_66 ih hk78 _ _ _ _ _ _ hf)
theorem sX4_sink_103 {res : eM} : ∀ (x3 : Int32) (x4 : Int32) (M : eM), fX4_sink_103 x3 x4 M = some res → Scr M res := by
  intro x3 x4 M hf
  replace hf := (fX4_sink_103.eq_1 ..).symm.trans hf
  obtain ⟨_, hf⟩ := ea_ck_s hf
  exact scr_endv hf (Scr.rf.pI rfl)
theorem sX4_sink_78 {res : eM} : ∀ (x3 : Int32) (x4 : Int32) (M : eM), fX4_sink_78 x3 x4 M = some res → Scr M res := by
  intro x3 x4 M hf
  replace hf := (fX4_sink_78.eq_1 ..).symm.trans hf
  exact Scr.trans Scr.rf (sX4_sink_103 _ _ _ hf)
theorem sX4_sink_0 {res : eM} : ∀ (x1 : Int32) (x2 : Int32) (M : eM), fX4_sink_0 x1 x2 M = some res → Scr M res := by
  intro x1 x2 M hf
  replace hf := (fX4_sink_0.eq_1 ..).symm.trans hf
  obtain ⟨_, hf⟩ := ea_ck_s hf
  exact Scr.trans Scr.rf (sX4_sink_13 (sX4_sink_78) (sX4_sink_103) ea_N _ _ _ _ _ hf)
theorem sX4_sink {res : eM} {x1 : Int32} {x2 : Int32} {M : eM} (hf : fX4_sink x1 x2 M = some res) : Scr M res := sX4_sink_0 _ _ _ hf
theorem sX4_sort_9 {res : eM} {k28 : eM → Option (eM)} (hk28 : ∀ (M : eM), k28 M = some res → Scr M res) : ∀ (n : Nat) (x1 : Int32) (M : eM), fX4_sort_9 k28 n x1 M = some res → Scr M res := by
  intro n
  induction n with
  | zero => intro x1 M hf; cases hf
  | succ n ih =>
    intro x1 M hf
    replace hf := (fX4_sort_9.eq_2 ..).symm.trans hf
    rcases ea_if_s hf with ⟨_, hf⟩ | ⟨_, hf⟩
    · exact Scr.trans Scr.rf (hk28 _ hf)
    · obtain ⟨M3, he, hf⟩ := ea_cv_s hf
      have hs := Scr.trans Scr.rf (sX4_sink he)
      exact Scr.trans hs (ih _ _ hf)
theorem sX4_sort_35 {res : eM} : ∀ (n : Nat) (x1 : Int32) (M : eM), fX4_sort_35 n x1 M = some res → Scr M res := by
  intro n
  induction n with
  | zero => intro x1 M hf; cases hf
  | succ n ih =>
    intro x1 M hf
    replace hf := (fX4_sort_35.eq_2 ..).symm.trans hf
    rcases ea_if_s hf with ⟨_, hf⟩ | ⟨_, hf⟩
    · exact scr_endv hf Scr.rf
    · obtain ⟨y2, _, hf⟩ := ea_lt_s hf
      obtain ⟨_, hf⟩ := ea_ck_s hf
      obtain ⟨_, hf⟩ := ea_ck_s hf
      obtain ⟨M7, he, hf⟩ := ea_cv_s hf
      have hs := Scr.trans ((Scr.rf.pI rfl).pI rfl) (sX4_sink he)
      exact Scr.trans hs (ih _ _ hf)
theorem sX4_sort_28 {res : eM} : ∀ (M : eM), fX4_sort_28 M = some res → Scr M res := by
  intro M hf
  replace hf := (fX4_sort_28.eq_1 ..).symm.trans hf
  exact Scr.trans Scr.rf (sX4_sort_35 ea_N _ _ hf)
theorem sX4_sort_0 {res : eM} : ∀ (M : eM), fX4_sort_0 M = some res → Scr M res := by
  intro M hf
  replace hf := (fX4_sort_0.eq_1 ..).symm.trans hf
  obtain ⟨y1, _, hf⟩ := ea_lt_s hf
  exact Scr.trans Scr.rf (sX4_sort_9 (sX4_sort_28) ea_N _ _ hf)
theorem sX4_sort {res : eM} {M : eM} (hf : fX4_sort M = some res) : Scr M res := sX4_sort_0  _ hf
theorem sX4_mostAlike_17 {res : Int32 × eM} {a1 : Nat} (ha1 : a1 = 50 ∨ a1 = 60) {k74 : eM → Option (Int32 × eM)} (hk74 : ∀ (M : eM), k74 M = some res → Scr M res.2) : ∀ (n : Nat) (x2 : Int32) (x3 : Int32) (x4 : Int32) (q5 : Nat) (x6 : Int32) (M : eM), fX4_mostAlike_17 k74 a1 n x2 x3 x4 q5 x6 M = some res → Scr M res.2 := by
  intro n
  induction n with
  | zero => intro x2 x3 x4 q5 x6 M hf; cases hf
  | succ n ih =>
    intro x2 x3 x4 q5 x6 M hf
    replace hf := (fX4_mostAlike_17.eq_2 ..).symm.trans hf
    rcases ea_if_s hf with ⟨_, hf⟩ | ⟨_, hf⟩
    · exact Scr.trans Scr.rf (hk74 _ hf)
    · obtain ⟨r3, M4, he, hf⟩ := ea_ci_s hf
      have hs := Scr.trans Scr.rf (sX1_columnOf he)
      obtain ⟨r6, M7, he, hf⟩ := ea_ci_s hf
      have hs := Scr.trans hs (sX1_yearFrom he)
      obtain ⟨r9, M10, he, hf⟩ := ea_ci_s hf
      have hs := Scr.trans hs (sX1_hoursOf he)
      obtain ⟨M12, he, hf⟩ := ea_cv_s hf
      have hs := Scr.trans hs (sX5_mix (by rcases ha1 with rfl | rfl <;> decide) he)
      obtain ⟨M14, he, hf⟩ := ea_cv_s hf
      have hs := Scr.trans hs (sX4_addYear ha1 he)
      exact Scr.trans hs (ih _ _ _ _ _ _ hf)
theorem sX4_mostAlike_74 {res : Int32 × eM} {a1 : Nat} (ha1 : a1 = 50 ∨ a1 = 60) : ∀ (M : eM), fX4_mostAlike_74 a1 M = some res → Scr M res.2 := by
  intro M hf
  replace hf := (fX4_mostAlike_74.eq_1 ..).symm.trans hf
  obtain ⟨M2, he, hf⟩ := ea_cv_s hf
  have hs := Scr.trans Scr.rf (sX4_sort he)
  obtain ⟨r4, M5, he, hf⟩ := ea_ci_s hf
  have hs := Scr.trans hs (sX4_longestRun he)
  exact scr_endi hf hs
theorem sX4_mostAlike_0 {res : Int32 × eM} {a1 : Nat} (ha1 : a1 = 50 ∨ a1 = 60) : ∀ (x2 : Int32) (x3 : Int32) (x4 : Int32) (M : eM), fX4_mostAlike_0 a1 x2 x3 x4 M = some res → Scr M res.2 := by
  intro x2 x3 x4 M hf
  replace hf := (fX4_mostAlike_0.eq_1 ..).symm.trans hf
  obtain ⟨_, hf⟩ := ea_ck_s hf
  obtain ⟨y2, _, hf⟩ := ea_lt_s hf
  exact Scr.trans (Scr.rf.pI rfl) (sX4_mostAlike_17 ha1 (sX4_mostAlike_74 ha1) ea_N _ _ _ _ _ _ hf)
theorem sX4_mostAlike {res : Int32 × eM} {a1 : Nat} {x2 : Int32} {x3 : Int32} {x4 : Int32} (ha1 : a1 = 50 ∨ a1 = 60) {M : eM} (hf : fX4_mostAlike a1 x2 x3 x4 M = some res) : Scr M res.2 := sX4_mostAlike_0 ha1 _ _ _ _ hf
theorem sX10_next_208 {res : Int32 × eM} {k36 : Int32 → Int32 → Int32 → Int32 → Int32 → Int32 → Int32 → eM → Option (Int32 × eM)} (hk36 : ∀ (x1 : Int32) (x2 : Int32) (x3 : Int32) (x4 : Int32) (x5 : Int32) (x6 : Int32) (x7 : Int32) (M : eM), k36 x1 x2 x3 x4 x5 x6 x7 M = some res → Scr M res.2) : ∀ (x1 : Int32) (x2 : Int32) (x3 : Int32) (x4 : Int32) (x5 : Int32) (x6 : Int32) (x7 : Int32) (M : eM), fX10_next_208 k36 x1 x2 x3 x4 x5 x6 x7 M = some res → Scr M res.2 := by
  intro x1 x2 x3 x4 x5 x6 x7 M hf
  replace hf := (fX10_next_208.eq_1 ..).symm.trans hf
  exact Scr.trans Scr.rf (hk36 _ _ _ _ _ _ _ _ hf)
theorem sX10_next_192 {res : Int32 × eM} {k36 : Int32 → Int32 → Int32 → Int32 → Int32 → Int32 → Int32 → eM → Option (Int32 × eM)} (hk36 : ∀ (x1 : Int32) (x2 : Int32) (x3 : Int32) (x4 : Int32) (x5 : Int32) (x6 : Int32) (x7 : Int32) (M : eM), k36 x1 x2 x3 x4 x5 x6 x7 M = some res → Scr M res.2) : ∀ (x1 : Int32) (x2 : Int32) (x6 : Int32) (x7 : Int32) (x8 : Int32) (M : eM), fX10_next_192 k36 x1 x2 x6 x7 x8 M = some res → Scr M res.2 := by
  intro x1 x2 x6 x7 x8 M hf
  replace hf := (fX10_next_192.eq_1 ..).symm.trans hf
  exact Scr.trans Scr.rf (sX10_next_208 hk36 _ _ _ _ _ _ _ _ hf)
theorem sX10_next_113 {res : Int32 × eM} {k36 : Int32 → Int32 → Int32 → Int32 → Int32 → Int32 → Int32 → eM → Option (Int32 × eM)} (hk36 : ∀ (x1 : Int32) (x2 : Int32) (x3 : Int32) (x4 : Int32) (x5 : Int32) (x6 : Int32) (x7 : Int32) (M : eM), k36 x1 x2 x3 x4 x5 x6 x7 M = some res → Scr M res.2) : ∀ (x1 : Int32) (x2 : Int32) (x3 : Int32) (x4 : Int32) (x5 : Int32) (x6 : Int32) (x7 : Int32) (M : eM), fX10_next_113 k36 x1 x2 x3 x4 x5 x6 x7 M = some res → Scr M res.2 := by
  intro x1 x2 x3 x4 x5 x6 x7 M hf
  replace hf := (fX10_next_113.eq_1 ..).symm.trans hf
  obtain ⟨r2, M3, he, hf⟩ := ea_ci_s hf
  have hs := Scr.trans Scr.rf (sX10_isGoneInFront he)
  rcases ea_if_s hf with ⟨_, hf⟩ | ⟨_, hf⟩
  · obtain ⟨M6, he, hf⟩ := ea_cv_s hf
    have hs := Scr.trans hs (sX3_find (by decide) he)
    rcases ea_if_s hf with ⟨_, hf⟩ | ⟨_, hf⟩
    · obtain ⟨r9, M10, he, hf⟩ := ea_ci_s hf
      have hs := Scr.trans hs (sX4_mostAlike (by decide) he)
      rcases ea_if_s hf with ⟨_, hf⟩ | ⟨_, hf⟩
      · exact Scr.trans hs (sX10_next_192 hk36 _ _ _ _ _ _ hf)
      · rcases ea_if_s hf with ⟨_, hf⟩ | ⟨_, hf⟩
        · exact Scr.trans hs (sX10_next_208 hk36 _ _ _ _ _ _ _ _ hf)
        · exact Scr.trans hs (sX10_next_192 hk36 _ _ _ _ _ _ hf)
    · exact Scr.trans hs (sX10_next_208 hk36 _ _ _ _ _ _ _ _ hf)
  · exact Scr.trans hs (sX10_next_208 hk36 _ _ _ _ _ _ _ _ hf)
theorem sX10_next_110 {res : Int32 × eM} {k36 : Int32 → Int32 → Int32 → Int32 → Int32 → Int32 → Int32 → eM → Option (Int32 × eM)} (hk36 : ∀ (x1 : Int32) (x2 : Int32) (x3 : Int32) (x4 : Int32) (x5 : Int32) (x6 : Int32) (x7 : Int32) (M : eM), k36 x1 x2 x3 x4 x5 x6 x7 M = some res → Scr M res.2) : ∀ (x1 : Int32) (x2 : Int32) (x3 : Int32) (x4 : Int32) (x5 : Int32) (x7 : Int32) (t0 : Int32) (t1 : Int32) (M : eM), fX10_next_110 k36 x1 x2 x3 x4 x5 x7 t0 t1 M = some res → Scr M res.2 := by
  intro x1 x2 x3 x4 x5 x7 t0 t1 M hf
  replace hf := (fX10_next_110.eq_1 ..).symm.trans hf
  exact Scr.trans Scr.rf (sX10_next_113 hk36 _ _ _ _ _ _ _ _ hf)
theorem sX10_next_36 {res : Int32 × eM} : ∀ (n : Nat) (x1 : Int32) (x2 : Int32) (x3 : Int32) (x4 : Int32) (x5 : Int32) (x6 : Int32) (x7 : Int32) (M : eM), fX10_next_36 n x1 x2 x3 x4 x5 x6 x7 M = some res → Scr M res.2 := by
  intro n
  induction n with
  | zero => intro x1 x2 x3 x4 x5 x6 x7 M hf; cases hf
  | succ n ih =>
    intro x1 x2 x3 x4 x5 x6 x7 M hf
    replace hf := (fX10_next_36.eq_2 ..).symm.trans hf
    obtain ⟨_, hf⟩ := ea_ck_s hf
    obtain ⟨r3, M4, he, hf⟩ := ea_ci_s hf
    have hs := Scr.trans Scr.rf (sX1_cells he)
    rcases ea_if_s hf with ⟨_, hf⟩ | ⟨_, hf⟩
    · exact scr_endi hf hs
    · obtain ⟨r7, M8, he, hf⟩ := ea_ci_s hf
      have hs := Scr.trans hs (sX8_isBlank he)
      rcases ea_if_s hf with ⟨_, hf⟩ | ⟨_, hf⟩
      · exact Scr.trans hs (sX10_next_113 ih _ _ _ _ _ _ _ _ hf)
      · obtain ⟨_, hf⟩ := ea_ck_s hf
        obtain ⟨r12, M13, he, hf⟩ := ea_ci_s hf
        have hs := Scr.trans hs (sX1_columnOf he)
        obtain ⟨y14, _, hf⟩ := ea_lt_s hf
        rcases ea_if_s hf with ⟨_, hf⟩ | ⟨_, hf⟩
        · obtain ⟨r18, M19, he, hf⟩ := ea_ci_s hf
          have hs := Scr.trans hs (sX10_isGoneInFront he)
          rcases ea_if_s hf with ⟨_, hf⟩ | ⟨_, hf⟩
          · exact Scr.trans hs (sX10_next_110 ih _ _ _ _ _ _ _ _ _ hf)
          · exact Scr.trans hs (sX10_next_110 ih _ _ _ _ _ _ _ _ _ hf)
        · exact Scr.trans hs (sX10_next_208 ih _ _ _ _ _ _ _ _ hf)
theorem sX10_next_0 {res : Int32 × eM} : ∀ (x1 : Int32) (x2 : Int32) (M : eM), fX10_next_0 x1 x2 M = some res → Scr M res.2 := by
  intro x1 x2 M hf
  replace hf := (fX10_next_0.eq_1 ..).symm.trans hf
  obtain ⟨r2, M3, he, hf⟩ := ea_ci_s hf
  have hs := Scr.trans Scr.rf (sX10_isStory he)
  rcases ea_if_s hf with ⟨_, hf⟩ | ⟨_, hf⟩
  · exact scr_endi hf hs
  · obtain ⟨r6, M7, he, hf⟩ := ea_ci_s hf
    have hs := Scr.trans hs (sX10_isWithin he)
    rcases ea_if_s hf with ⟨_, hf⟩ | ⟨_, hf⟩
    · exact scr_endi hf hs
    · exact Scr.trans hs (sX10_next_36 ea_N _ _ _ _ _ _ _ _ hf)
theorem sX10_next {res : Int32 × eM} {x1 : Int32} {x2 : Int32} {M : eM} (hf : fX10_next x1 x2 M = some res) : Scr M res.2 := sX10_next_0 _ _ _ hf
theorem sX10_pair_54 {res : Int32 × eM} : ∀ (t0 : Int32) (t1 : Int32) (M : eM), fX10_pair_54 t0 t1 M = some res → Scr M res.2 := by
  intro t0 t1 M hf
  replace hf := (fX10_pair_54.eq_1 ..).symm.trans hf
  obtain ⟨r2, M3, he, hf⟩ := ea_ci_s hf
  have hs := Scr.trans Scr.rf (sX3_pairPart (by decide) he)
  exact scr_endi hf hs
theorem sX10_pair_0 {res : Int32 × eM} : ∀ (x1 : Int32) (x2 : Int32) (x3 : Int32) (x4 : Int32) (x5 : Int32) (M : eM), fX10_pair_0 x1 x2 x3 x4 x5 M = some res → Scr M res.2 := by
  intro x1 x2 x3 x4 x5 M hf
  replace hf := (fX10_pair_0.eq_1 ..).symm.trans hf
  obtain ⟨r2, M3, he, hf⟩ := ea_ci_s hf
  have hs := Scr.trans Scr.rf (sX10_mayFit he)
  rcases ea_if_s hf with ⟨_, hf⟩ | ⟨_, hf⟩
  · exact scr_endi hf hs
  · rcases ea_if_s hf with ⟨_, hf⟩ | ⟨_, hf⟩
    · exact scr_endi hf hs
    · obtain ⟨r7, M8, he, hf⟩ := ea_ci_s hf
      have hs := Scr.trans hs (sX10_isWithin he)
      rcases ea_if_s hf with ⟨_, hf⟩ | ⟨_, hf⟩
      · exact scr_endi hf hs
      · obtain ⟨M11, he, hf⟩ := ea_cv_s hf
        have hs := Scr.trans hs (sX3_find (by decide) he)
        rcases ea_if_s hf with ⟨_, hf⟩ | ⟨_, hf⟩
        · exact Scr.trans hs (sX10_pair_54 _ _ _ hf)
        · exact Scr.trans hs (sX10_pair_54 _ _ _ hf)
theorem sX10_pair {res : Int32 × eM} {x1 : Int32} {x2 : Int32} {x3 : Int32} {x4 : Int32} {x5 : Int32} {M : eM} (hf : fX10_pair x1 x2 x3 x4 x5 M = some res) : Scr M res.2 := sX10_pair_0 _ _ _ _ _ _ hf
theorem sX8_rightsOf_33 {res : Int32 × eM} {a0 : Nat} {k4 : Int32 → Int32 → Int32 → eM → Option (Int32 × eM)} (hk4 : ∀ (x1 : Int32) (x2 : Int32) (x3 : Int32) (M : eM), k4 x1 x2 x3 M = some res → Scr M res.2) : ∀ (x1 : Int32) (x3 : Int32) (t0 : Int32) (t1 : Int32) (M : eM), fX8_rightsOf_33 k4 a0 x1 x3 t0 t1 M = some res → Scr M res.2 := by
  intro x1 x3 t0 t1 M hf
  replace hf := (fX8_rightsOf_33.eq_1 ..).symm.trans hf
  exact Scr.trans Scr.rf (hk4 _ _ _ _ hf)
theorem sX8_rightsOf_4 {res : Int32 × eM} {a0 : Nat} : ∀ (n : Nat) (x1 : Int32) (x2 : Int32) (x3 : Int32) (M : eM), fX8_rightsOf_4 a0 n x1 x2 x3 M = some res → Scr M res.2 := by
  intro n
  induction n with
  | zero => intro x1 x2 x3 M hf; cases hf
  | succ n ih =>
    intro x1 x2 x3 M hf
    replace hf := (fX8_rightsOf_4.eq_2 ..).symm.trans hf
    rcases ea_if_s hf with ⟨_, hf⟩ | ⟨_, hf⟩
    · exact scr_endi hf Scr.rf
    · obtain ⟨_, hf⟩ := ea_ck_s hf
      rcases ea_if_s hf with ⟨_, hf⟩ | ⟨_, hf⟩
      · exact Scr.trans Scr.rf (sX8_rightsOf_33 ih _ _ _ _ _ hf)
      · exact Scr.trans Scr.rf (sX8_rightsOf_33 ih _ _ _ _ _ hf)
theorem sX8_rightsOf_0 {res : Int32 × eM} {a0 : Nat} : ∀ (x1 : Int32) (M : eM), fX8_rightsOf_0 a0 x1 M = some res → Scr M res.2 := by
  intro x1 M hf
  replace hf := (fX8_rightsOf_0.eq_1 ..).symm.trans hf
  exact Scr.trans Scr.rf (sX8_rightsOf_4 ea_N _ _ _ _ hf)
theorem sX8_rightsOf {res : Int32 × eM} {a0 : Nat} {x1 : Int32} {M : eM} (hf : fX8_rightsOf a0 x1 M = some res) : Scr M res.2 := sX8_rightsOf_0 _ _ hf
theorem sX10_shows_0 {res : Int32 × eM} : ∀ (x1 : Int32) (x2 : Int32) (x3 : Int32) (x4 : Int32) (M : eM), fX10_shows_0 x1 x2 x3 x4 M = some res → Scr M res.2 := by
  intro x1 x2 x3 x4 M hf
  replace hf := (fX10_shows_0.eq_1 ..).symm.trans hf
  obtain ⟨r2, M3, he, hf⟩ := ea_ci_s hf
  have hs := Scr.trans Scr.rf (sX10_isCell he)
  rcases ea_if_s hf with ⟨_, hf⟩ | ⟨_, hf⟩
  · exact scr_endi hf hs
  · obtain ⟨r6, M7, he, hf⟩ := ea_ci_s hf
    have hs := Scr.trans hs (sX10_isSide he)
    rcases ea_if_s hf with ⟨_, hf⟩ | ⟨_, hf⟩
    · exact scr_endi hf hs
    · obtain ⟨r10, M11, he, hf⟩ := ea_ci_s hf
      have hs := Scr.trans hs (sX10_isStep he)
      rcases ea_if_s hf with ⟨_, hf⟩ | ⟨_, hf⟩
      · exact scr_endi hf hs
      · obtain ⟨r14, M15, he, hf⟩ := ea_ci_s hf
        have hs := Scr.trans hs (sX10_isColour he)
        rcases ea_if_s hf with ⟨_, hf⟩ | ⟨_, hf⟩
        · exact scr_endi hf hs
        · obtain ⟨r18, M19, he, hf⟩ := ea_ci_s hf
          have hs := Scr.trans hs (sX8_latestLook he)
          obtain ⟨r21, M22, he, hf⟩ := ea_ci_s hf
          have hs := Scr.trans hs (sX8_lookShade he)
          exact scr_endi hf hs
theorem sX10_shows {res : Int32 × eM} {x1 : Int32} {x2 : Int32} {x3 : Int32} {x4 : Int32} {M : eM} (hf : fX10_shows x1 x2 x3 x4 M = some res) : Scr M res.2 := sX10_shows_0 _ _ _ _ _ hf
theorem sX10_stories_43 {res : Int32 × eM} {k14 : Int32 → Int32 → Int32 → eM → Option (Int32 × eM)} (hk14 : ∀ (x1 : Int32) (x2 : Int32) (x3 : Int32) (M : eM), k14 x1 x2 x3 M = some res → Scr M res.2) : ∀ (x1 : Int32) (x2 : Int32) (x3 : Int32) (M : eM), fX10_stories_43 k14 x1 x2 x3 M = some res → Scr M res.2 := by
  intro x1 x2 x3 M hf
  replace hf := (fX10_stories_43.eq_1 ..).symm.trans hf
  exact Scr.trans Scr.rf (hk14 _ _ _ _ hf)
theorem sX10_stories_14 {res : Int32 × eM} : ∀ (n : Nat) (x1 : Int32) (x2 : Int32) (x3 : Int32) (M : eM), fX10_stories_14 n x1 x2 x3 M = some res → Scr M res.2 := by
  intro n
  induction n with
  | zero => intro x1 x2 x3 M hf; cases hf
  | succ n ih =>
    intro x1 x2 x3 M hf
    replace hf := (fX10_stories_14.eq_2 ..).symm.trans hf
    obtain ⟨_, hf⟩ := ea_ck_s hf
    rcases ea_if_s hf with ⟨_, hf⟩ | ⟨_, hf⟩
    · exact scr_endi hf Scr.rf
    · obtain ⟨r4, M5, he, hf⟩ := ea_ci_s hf
      have hs := Scr.trans Scr.rf (sX10_mayBe he)
      rcases ea_if_s hf with ⟨_, hf⟩ | ⟨_, hf⟩
      · exact Scr.trans hs (sX10_stories_43 ih _ _ _ _ hf)
      · obtain ⟨y7, _, hf⟩ := ea_lt_s hf
        exact Scr.trans hs (sX10_stories_43 ih _ _ _ _ hf)
theorem sX10_stories_0 {res : Int32 × eM} : ∀ (x1 : Int32) (M : eM), fX10_stories_0 x1 M = some res → Scr M res.2 := by
  intro x1 M hf
  replace hf := (fX10_stories_0.eq_1 ..).symm.trans hf
  obtain ⟨r2, M3, he, hf⟩ := ea_ci_s hf
  have hs := Scr.trans Scr.rf (sX10_isStep he)
  rcases ea_if_s hf with ⟨_, hf⟩ | ⟨_, hf⟩
  · exact scr_endi hf hs
  · exact Scr.trans hs (sX10_stories_14 ea_N _ _ _ _ hf)
theorem sX10_stories {res : Int32 × eM} {x1 : Int32} {M : eM} (hf : fX10_stories x1 M = some res) : Scr M res.2 := sX10_stories_0 _ _ hf
theorem sX10_strength_0 {res : Int32 × eM} : ∀ (x1 : Int32) (x2 : Int32) (M : eM), fX10_strength_0 x1 x2 M = some res → Scr M res.2 := by
  intro x1 x2 M hf
  replace hf := (fX10_strength_0.eq_1 ..).symm.trans hf
  obtain ⟨_, hf⟩ := ea_ck_s hf
  obtain ⟨r3, M4, he, hf⟩ := ea_ci_s hf
  have hs := Scr.trans Scr.rf (sX10_isWithin he)
  rcases ea_if_s hf with ⟨_, hf⟩ | ⟨_, hf⟩
  · exact scr_endi hf hs
  · obtain ⟨r7, M8, he, hf⟩ := ea_ci_s hf
    have hs := Scr.trans hs (sX10_isWithin he)
    rcases ea_if_s hf with ⟨_, hf⟩ | ⟨_, hf⟩
    · exact scr_endi hf hs
    · obtain ⟨_, hf⟩ := ea_ck_s hf
      obtain ⟨r12, M13, he, hf⟩ := ea_ci_s hf
      have hs := Scr.trans hs (sX1_strengthOf he)
      exact scr_endi hf hs
theorem sX10_strength {res : Int32 × eM} {x1 : Int32} {x2 : Int32} {M : eM} (hf : fX10_strength x1 x2 M = some res) : Scr M res.2 := sX10_strength_0 _ _ _ hf
theorem sX10_thread_0 {res : Int32 × eM} : ∀ (x1 : Int32) (x2 : Int32) (x3 : Int32) (x4 : Int32) (M : eM), fX10_thread_0 x1 x2 x3 x4 M = some res → Scr M res.2 := by
  intro x1 x2 x3 x4 M hf
  replace hf := (fX10_thread_0.eq_1 ..).symm.trans hf
  obtain ⟨_, hf⟩ := ea_ck_s hf
  obtain ⟨y2, _, hf⟩ := ea_lt_s hf
  obtain ⟨r5, M6, he, hf⟩ := ea_ci_s hf
  have hs := Scr.trans Scr.rf (sX10_isWithin he)
  rcases ea_if_s hf with ⟨_, hf⟩ | ⟨_, hf⟩
  · exact scr_endi hf hs
  · obtain ⟨r9, M10, he, hf⟩ := ea_ci_s hf
    have hs := Scr.trans hs (sX10_isWithin he)
    rcases ea_if_s hf with ⟨_, hf⟩ | ⟨_, hf⟩
    · exact scr_endi hf hs
    · obtain ⟨r13, M14, he, hf⟩ := ea_ci_s hf
      have hs := Scr.trans hs (sX9_rowOf he)
      rcases ea_if_s hf with ⟨_, hf⟩ | ⟨_, hf⟩
      · obtain ⟨r31, M32, he, hf⟩ := ea_ci_s hf
        have hs := Scr.trans hs (sX9_numberOf he)
        exact scr_endi hf hs
      · obtain ⟨r17, M18, he, hf⟩ := ea_ci_s hf
        have hs := Scr.trans hs (sX10_isWithin he)
        rcases ea_if_s hf with ⟨_, hf⟩ | ⟨_, hf⟩
        · exact scr_endi hf hs
        · obtain ⟨r21, M22, he, hf⟩ := ea_ci_s hf
          have hs := Scr.trans hs (sX10_isWithin he)
          rcases ea_if_s hf with ⟨_, hf⟩ | ⟨_, hf⟩
          · exact scr_endi hf hs
          · obtain ⟨r25, M26, he, hf⟩ := ea_ci_s hf
            have hs := Scr.trans hs (sX9_rowOf he)
            obtain ⟨r28, M29, he, hf⟩ := ea_ci_s hf
            have hs := Scr.trans hs (sX9_numberOf he)
            exact scr_endi hf hs
theorem sX10_thread {res : Int32 × eM} {x1 : Int32} {x2 : Int32} {x3 : Int32} {x4 : Int32} {M : eM} (hf : fX10_thread x1 x2 x3 x4 M = some res) : Scr M res.2 := sX10_thread_0 _ _ _ _ _ hf
theorem sX10_thrown_0 {res : Int32 × eM} : ∀ (x1 : Int32) (x2 : Int32) (x3 : Int32) (x4 : Int32) (x5 : Int32) (M : eM), fX10_thrown_0 x1 x2 x3 x4 x5 M = some res → Scr M res.2 := by
  intro x1 x2 x3 x4 x5 M hf
  replace hf := (fX10_thrown_0.eq_1 ..).symm.trans hf
  obtain ⟨r2, M3, he, hf⟩ := ea_ci_s hf
  have hs := Scr.trans Scr.rf (sX10_isCell he)
  rcases ea_if_s hf with ⟨_, hf⟩ | ⟨_, hf⟩
  · exact scr_endi hf hs
  · obtain ⟨r6, M7, he, hf⟩ := ea_ci_s hf
    have hs := Scr.trans hs (sX10_mayThrow he)
    rcases ea_if_s hf with ⟨_, hf⟩ | ⟨_, hf⟩
    · exact scr_endi hf hs
    · obtain ⟨r10, M11, he, hf⟩ := ea_ci_s hf
      have hs := Scr.trans hs (sX10_isWithin he)
      rcases ea_if_s hf with ⟨_, hf⟩ | ⟨_, hf⟩
      · exact scr_endi hf hs
      · obtain ⟨r14, M15, he, hf⟩ := ea_ci_s hf
        have hs := Scr.trans hs (sX8_latestLook he)
        obtain ⟨r17, M18, he, hf⟩ := ea_ci_s hf
        have hs := Scr.trans hs (sX8_isSeen he)
        rcases ea_if_s hf with ⟨_, hf⟩ | ⟨_, hf⟩
        · exact scr_endi hf hs
        · obtain ⟨M21, he, hf⟩ := ea_cv_s hf
          have hs := Scr.trans hs (sX10_throwLight he)
          rcases ea_if_s hf with ⟨_, hf⟩ | ⟨_, hf⟩
          · exact scr_endi hf hs
          · obtain ⟨_, hf⟩ := ea_ck_s hf
            exact scr_endi hf hs
theorem sX10_thrown {res : Int32 × eM} {x1 : Int32} {x2 : Int32} {x3 : Int32} {x4 : Int32} {x5 : Int32} {M : eM} (hf : fX10_thrown x1 x2 x3 x4 x5 M = some res) : Scr M res.2 := sX10_thrown_0 _ _ _ _ _ _ hf
theorem sX1_numberTold_0 {res : Int32 × eM} {a0 : Nat} : ∀ (x1 : Int32) (M : eM), fX1_numberTold_0 a0 x1 M = some res → Scr M res.2 := by
  intro x1 M hf
  replace hf := (fX1_numberTold_0.eq_1 ..).symm.trans hf
  rcases ea_if_s hf with ⟨_, hf⟩ | ⟨_, hf⟩
  · exact scr_endi hf Scr.rf
  · rcases ea_if_s hf with ⟨_, hf⟩ | ⟨_, hf⟩
    · exact scr_endi hf Scr.rf
    · rcases ea_if_s hf with ⟨_, hf⟩ | ⟨_, hf⟩
      · exact scr_endi hf Scr.rf
      · rcases ea_if_s hf with ⟨_, hf⟩ | ⟨_, hf⟩
        · exact scr_endi hf Scr.rf
        · rcases ea_if_s hf with ⟨_, hf⟩ | ⟨_, hf⟩
          · exact scr_endi hf Scr.rf
          · rcases ea_if_s hf with ⟨_, hf⟩ | ⟨_, hf⟩
            · exact scr_endi hf Scr.rf
            · rcases ea_if_s hf with ⟨_, hf⟩ | ⟨_, hf⟩
              · exact scr_endi hf Scr.rf
              · rcases ea_if_s hf with ⟨_, hf⟩ | ⟨_, hf⟩
                · exact scr_endi hf Scr.rf
                · exact scr_endi hf Scr.rf
theorem sX1_numberTold {res : Int32 × eM} {a0 : Nat} {x1 : Int32} {M : eM} (hf : fX1_numberTold a0 x1 M = some res) : Scr M res.2 := sX1_numberTold_0 _ _ hf
theorem sX1_yearsOf_4 {res : Int32 × eM} {a0 : Nat} : ∀ (n : Nat) (x1 : Int32) (x2 : Int32) (x3 : Int32) (M : eM), fX1_yearsOf_4 a0 n x1 x2 x3 M = some res → Scr M res.2 := by
  intro n
  induction n with
  | zero => intro x1 x2 x3 M hf; cases hf
  | succ n ih =>
    intro x1 x2 x3 M hf
    replace hf := (fX1_yearsOf_4.eq_2 ..).symm.trans hf
    obtain ⟨_, hf⟩ := ea_ck_s hf
    rcases ea_if_s hf with ⟨_, hf⟩ | ⟨_, hf⟩
    · exact scr_endi hf Scr.rf
    · obtain ⟨r4, M5, he, hf⟩ := ea_ci_s hf
      have hs := Scr.trans Scr.rf (sX1_hangPlace he)
      obtain ⟨_, hf⟩ := ea_ck_s hf
      obtain ⟨y7, _, hf⟩ := ea_lt_s hf
      exact Scr.trans hs (ih _ _ _ _ hf)
theorem sX1_yearsOf_0 {res : Int32 × eM} {a0 : Nat} : ∀ (x1 : Int32) (M : eM), fX1_yearsOf_0 a0 x1 M = some res → Scr M res.2 := by
  intro x1 M hf
  replace hf := (fX1_yearsOf_0.eq_1 ..).symm.trans hf
  exact Scr.trans Scr.rf (sX1_yearsOf_4 ea_N _ _ _ _ hf)
theorem sX1_yearsOf {res : Int32 × eM} {a0 : Nat} {x1 : Int32} {M : eM} (hf : fX1_yearsOf a0 x1 M = some res) : Scr M res.2 := sX1_yearsOf_0 _ _ hf
theorem sX10_told_24 {res : Int32 × eM} : ∀ (x1 : Int32) (q2 : Nat) (M : eM), fX10_told_24 x1 q2 M = some res → Scr M res.2 := by
  intro x1 q2 M hf
  replace hf := (fX10_told_24.eq_1 ..).symm.trans hf
  obtain ⟨r2, M3, he, hf⟩ := ea_ci_s hf
  have hs := Scr.trans Scr.rf (sX10_isWithin he)
  rcases ea_if_s hf with ⟨_, hf⟩ | ⟨_, hf⟩
  · obtain ⟨r6, M7, he, hf⟩ := ea_ci_s hf
    have hs := Scr.trans hs (sX10_isWithin he)
    rcases ea_if_s hf with ⟨_, hf⟩ | ⟨_, hf⟩
    · obtain ⟨r10, M11, he, hf⟩ := ea_ci_s hf
      have hs := Scr.trans hs (sX10_isWithin he)
      rcases ea_if_s hf with ⟨_, hf⟩ | ⟨_, hf⟩
      · obtain ⟨r14, M15, he, hf⟩ := ea_ci_s hf
        have hs := Scr.trans hs (sX10_isWithin he)
        rcases ea_if_s hf with ⟨_, hf⟩ | ⟨_, hf⟩
        · exact scr_endi hf hs
        · obtain ⟨r18, M19, he, hf⟩ := ea_ci_s hf
          have hs := Scr.trans hs (sX1_yearsOf he)
          exact scr_endi hf hs
      · obtain ⟨_, hf⟩ := ea_ck_s hf
        exact scr_endi hf hs
    · obtain ⟨_, hf⟩ := ea_ck_s hf
      exact scr_endi hf hs
  · obtain ⟨_, hf⟩ := ea_ck_s hf
    exact scr_endi hf hs
theorem sX10_told_0 {res : Int32 × eM} : ∀ (x1 : Int32) (M : eM), fX10_told_0 x1 M = some res → Scr M res.2 := by
  intro x1 M hf
  replace hf := (fX10_told_0.eq_1 ..).symm.trans hf
  obtain ⟨_, hf⟩ := ea_ck_s hf
  obtain ⟨y2, _, hf⟩ := ea_lt_s hf
  rcases ea_if_s hf with ⟨_, hf⟩ | ⟨_, hf⟩
  · exact Scr.trans Scr.rf (sX10_told_24 _ _ _ hf)
  · rcases ea_if_s hf with ⟨_, hf⟩ | ⟨_, hf⟩
    · exact Scr.trans Scr.rf (sX10_told_24 _ _ _ hf)
    · obtain ⟨r7, M8, he, hf⟩ := ea_ci_s hf
      have hs := Scr.trans Scr.rf (sX1_numberTold he)
      exact scr_endi hf hs
theorem sX10_told {res : Int32 × eM} {x1 : Int32} {M : eM} (hf : fX10_told x1 M = some res) : Scr M res.2 := sX10_told_0 _ _ hf
theorem sX10_vat_147 {res : Int32 × eM} {k58 : Int32 → Int32 → Int32 → Int32 → eM → Option (Int32 × eM)} (hk58 : ∀ (x5 : Int32) (x6 : Int32) (x7 : Int32) (x8 : Int32) (M : eM), k58 x5 x6 x7 x8 M = some res → Scr M res.2) : ∀ (x5 : Int32) (x6 : Int32) (x8 : Int32) (t0 : Int32) (t1 : Int32) (M : eM), fX10_vat_147 k58 x5 x6 x8 t0 t1 M = some res → Scr M res.2 := by
  intro x5 x6 x8 t0 t1 M hf
  replace hf := (fX10_vat_147.eq_1 ..).symm.trans hf
  exact Scr.trans Scr.rf (hk58 _ _ _ _ _ hf)
theorem sX10_vat_142 {res : Int32 × eM} {k58 : Int32 → Int32 → Int32 → Int32 → eM → Option (Int32 × eM)} (hk58 : ∀ (x5 : Int32) (x6 : Int32) (x7 : Int32) (x8 : Int32) (M : eM), k58 x5 x6 x7 x8 M = some res → Scr M res.2) : ∀ (x5 : Int32) (x6 : Int32) (x8 : Int32) (t0 : Int32) (M : eM), fX10_vat_142 k58 x5 x6 x8 t0 M = some res → Scr M res.2 := by
  intro x5 x6 x8 t0 M hf
  replace hf := (fX10_vat_142.eq_1 ..).symm.trans hf
  exact Scr.trans Scr.rf (sX10_vat_147 hk58 _ _ _ _ _ _ hf)
theorem sX10_vat_127 {res : Int32 × eM} {k58 : Int32 → Int32 → Int32 → Int32 → eM → Option (Int32 × eM)} (hk58 : ∀ (x5 : Int32) (x6 : Int32) (x7 : Int32) (x8 : Int32) (M : eM), k58 x5 x6 x7 x8 M = some res → Scr M res.2) : ∀ (x5 : Int32) (x7 : Int32) (x8 : Int32) (x9 : Int32) (x10 : Int32) (t0 : Int32) (t1 : Int32) (M : eM), fX10_vat_127 k58 x5 x7 x8 x9 x10 t0 t1 M = some res → Scr M res.2 := by
  intro x5 x7 x8 x9 x10 t0 t1 M hf
  replace hf := (fX10_vat_127.eq_1 ..).symm.trans hf
  rcases ea_if_s hf with ⟨_, hf⟩ | ⟨_, hf⟩
  · rcases ea_if_s hf with ⟨_, hf⟩ | ⟨_, hf⟩
    · exact Scr.trans Scr.rf (sX10_vat_147 hk58 _ _ _ _ _ _ hf)
    · exact Scr.trans Scr.rf (sX10_vat_142 hk58 _ _ _ _ _ hf)
  · exact Scr.trans Scr.rf (sX10_vat_142 hk58 _ _ _ _ _ hf)
theorem sX10_vat_126 {res : Int32 × eM} {k58 : Int32 → Int32 → Int32 → Int32 → eM → Option (Int32 × eM)} (hk58 : ∀ (x5 : Int32) (x6 : Int32) (x7 : Int32) (x8 : Int32) (M : eM), k58 x5 x6 x7 x8 M = some res → Scr M res.2) : ∀ (x5 : Int32) (x7 : Int32) (x8 : Int32) (x9 : Int32) (x10 : Int32) (t0 : Int32) (M : eM), fX10_vat_126 k58 x5 x7 x8 x9 x10 t0 M = some res → Scr M res.2 := by
  intro x5 x7 x8 x9 x10 t0 M hf
  replace hf := (fX10_vat_126.eq_1 ..).symm.trans hf
  exact Scr.trans Scr.rf (sX10_vat_127 hk58 _ _ _ _ _ _ _ _ hf)
theorem sX10_vat_108 {res : Int32 × eM} {k58 : Int32 → Int32 → Int32 → Int32 → eM → Option (Int32 × eM)} (hk58 : ∀ (x5 : Int32) (x6 : Int32) (x7 : Int32) (x8 : Int32) (M : eM), k58 x5 x6 x7 x8 M = some res → Scr M res.2) : ∀ (x5 : Int32) (x6 : Int32) (x7 : Int32) (x8 : Int32) (x9 : Int32) (t0 : Int32) (M : eM), fX10_vat_108 k58 x5 x6 x7 x8 x9 t0 M = some res → Scr M res.2 := by
  intro x5 x6 x7 x8 x9 t0 M hf
  replace hf := (fX10_vat_108.eq_1 ..).symm.trans hf
  rcases ea_if_s hf with ⟨_, hf⟩ | ⟨_, hf⟩
  · exact Scr.trans Scr.rf (sX10_vat_126 hk58 _ _ _ _ _ _ _ hf)
  · rcases ea_if_s hf with ⟨_, hf⟩ | ⟨_, hf⟩
    · exact Scr.trans Scr.rf (sX10_vat_126 hk58 _ _ _ _ _ _ _ hf)
    · exact Scr.trans Scr.rf (sX10_vat_127 hk58 _ _ _ _ _ _ _ _ hf)
theorem sX10_vat_88 {res : Int32 × eM} {k58 : Int32 → Int32 → Int32 → Int32 → eM → Option (Int32 × eM)} (hk58 : ∀ (x5 : Int32) (x6 : Int32) (x7 : Int32) (x8 : Int32) (M : eM), k58 x5 x6 x7 x8 M = some res → Scr M res.2) : ∀ (x5 : Int32) (x6 : Int32) (x7 : Int32) (x8 : Int32) (t0 : Int32) (M : eM), fX10_vat_88 k58 x5 x6 x7 x8 t0 M = some res → Scr M res.2 := by
  intro x5 x6 x7 x8 t0 M hf
  replace hf := (fX10_vat_88.eq_1 ..).symm.trans hf
  obtain ⟨_, hf⟩ := ea_ck_s hf
  rcases ea_if_s hf with ⟨_, hf⟩ | ⟨_, hf⟩
  · exact Scr.trans Scr.rf (sX10_vat_108 hk58 _ _ _ _ _ _ _ hf)
  · exact Scr.trans Scr.rf (sX10_vat_108 hk58 _ _ _ _ _ _ _ hf)
theorem sX10_vat_58 {res : Int32 × eM} {k156 : Int32 → Int32 → Int32 → eM → Option (Int32 × eM)} (hk156 : ∀ (x5 : Int32) (x6 : Int32) (x7 : Int32) (M : eM), k156 x5 x6 x7 M = some res → Scr M res.2) : ∀ (n : Nat) (x5 : Int32) (x6 : Int32) (x7 : Int32) (x8 : Int32) (M : eM), fX10_vat_58 k156 n x5 x6 x7 x8 M = some res → Scr M res.2 := by
  intro n
  induction n with
  | zero => intro x5 x6 x7 x8 M hf; cases hf
  | succ n ih =>
    intro x5 x6 x7 x8 M hf
    replace hf := (fX10_vat_58.eq_2 ..).symm.trans hf
    rcases ea_if_s hf with ⟨_, hf⟩ | ⟨_, hf⟩
    · exact Scr.trans Scr.rf (hk156 _ _ _ _ hf)
    · obtain ⟨_, hf⟩ := ea_ck_s hf
      rcases ea_if_s hf with ⟨_, hf⟩ | ⟨_, hf⟩
      · exact Scr.trans Scr.rf (sX10_vat_88 ih _ _ _ _ _ _ hf)
      · exact Scr.trans Scr.rf (sX10_vat_88 ih _ _ _ _ _ _ hf)
theorem sX10_vat_156 {res : Int32 × eM} : ∀ (x5 : Int32) (x6 : Int32) (x7 : Int32) (M : eM), fX10_vat_156 x5 x6 x7 M = some res → Scr M res.2 := by
  intro x5 x6 x7 M hf
  replace hf := (fX10_vat_156.eq_1 ..).symm.trans hf
  rcases ea_if_s hf with ⟨_, hf⟩ | ⟨_, hf⟩
  · rcases ea_if_s hf with ⟨_, hf⟩ | ⟨_, hf⟩
    · exact scr_endi hf Scr.rf
    · exact scr_endi hf Scr.rf
  · obtain ⟨r3, M4, he, hf⟩ := ea_ci_s hf
    have hs := Scr.trans Scr.rf (sX10_commonDivisor he)
    rcases ea_if_s hf with ⟨_, hf⟩ | ⟨_, hf⟩
    · obtain ⟨_, hf⟩ := ea_ck_s hf
      exact scr_endi hf hs
    · obtain ⟨_, hf⟩ := ea_ck_s hf
      exact scr_endi hf hs
theorem sX10_vat_0 {res : Int32 × eM} : ∀ (x1 : Int32) (x2 : Int32) (x3 : Int32) (x4 : Int32) (x5 : Int32) (M : eM), fX10_vat_0 x1 x2 x3 x4 x5 M = some res → Scr M res.2 := by
  intro x1 x2 x3 x4 x5 M hf
  replace hf := (fX10_vat_0.eq_1 ..).symm.trans hf
  obtain ⟨r2, M3, he, hf⟩ := ea_ci_s hf
  have hs := Scr.trans Scr.rf (sX10_mayFit he)
  rcases ea_if_s hf with ⟨_, hf⟩ | ⟨_, hf⟩
  · exact scr_endi hf hs
  · obtain ⟨r6, M7, he, hf⟩ := ea_ci_s hf
    have hs := Scr.trans hs (sX10_isCell he)
    rcases ea_if_s hf with ⟨_, hf⟩ | ⟨_, hf⟩
    · exact scr_endi hf hs
    · rcases ea_if_s hf with ⟨_, hf⟩ | ⟨_, hf⟩
      · exact scr_endi hf hs
      · obtain ⟨M11, he, hf⟩ := ea_cv_s hf
        have hs := Scr.trans hs (sX3_find (by decide) he)
        obtain ⟨M13, he, hf⟩ := ea_cv_s hf
        have hs := Scr.trans hs (sX3_find (by decide) he)
        exact Scr.trans hs (sX10_vat_58 (sX10_vat_156) ea_N _ _ _ _ _ hf)
theorem sX10_vat {res : Int32 × eM} {x1 : Int32} {x2 : Int32} {x3 : Int32} {x4 : Int32} {x5 : Int32} {M : eM} (hf : fX10_vat x1 x2 x3 x4 x5 M = some res) : Scr M res.2 := sX10_vat_0 _ _ _ _ _ _ hf
theorem sX10_vats_32 {res : Int32 × eM} {k59 : Int32 → eM → Option (Int32 × eM)} (hk59 : ∀ (x3 : Int32) (M : eM), k59 x3 M = some res → Scr M res.2) : ∀ (n : Nat) (x1 : Int32) (x2 : Int32) (x3 : Int32) (x4 : Int32) (M : eM), fX10_vats_32 k59 n x1 x2 x3 x4 M = some res → Scr M res.2 := by
  intro n
  induction n with
  | zero => intro x1 x2 x3 x4 M hf; cases hf
  | succ n ih =>
    intro x1 x2 x3 x4 M hf
    replace hf := (fX10_vats_32.eq_2 ..).symm.trans hf
    rcases ea_if_s hf with ⟨_, hf⟩ | ⟨_, hf⟩
    · exact Scr.trans Scr.rf (hk59 _ _ hf)
    · obtain ⟨r3, M4, he, hf⟩ := ea_ci_s hf
      have hs := Scr.trans Scr.rf (sX10_sureThread he)
      obtain ⟨_, hf⟩ := ea_ck_s hf
      exact Scr.trans (hs.pI rfl) (ih _ _ _ _ _ hf)
theorem sX10_vats_121 {res : Int32 × eM} {k65 : Int32 → Int32 → Int32 → eM → Option (Int32 × eM)} (hk65 : ∀ (x3 : Int32) (x4 : Int32) (x5 : Int32) (M : eM), k65 x3 x4 x5 M = some res → Scr M res.2) : ∀ (x3 : Int32) (x4 : Int32) (x5 : Int32) (M : eM), fX10_vats_121 k65 x3 x4 x5 M = some res → Scr M res.2 := by
  intro x3 x4 x5 M hf
  replace hf := (fX10_vats_121.eq_1 ..).symm.trans hf
  exact Scr.trans Scr.rf (hk65 _ _ _ _ hf)
theorem sX10_vats_65 {res : Int32 × eM} : ∀ (n : Nat) (x3 : Int32) (x4 : Int32) (x5 : Int32) (M : eM), fX10_vats_65 n x3 x4 x5 M = some res → Scr M res.2 := by
  intro n
  induction n with
  | zero => intro x3 x4 x5 M hf; cases hf
  | succ n ih =>
    intro x3 x4 x5 M hf
    replace hf := (fX10_vats_65.eq_2 ..).symm.trans hf
    rcases ea_if_s hf with ⟨_, hf⟩ | ⟨_, hf⟩
    · exact scr_endi hf Scr.rf
    · obtain ⟨_, hf⟩ := ea_ck_s hf
      rcases ea_if_s hf with ⟨_, hf⟩ | ⟨_, hf⟩
      · exact Scr.trans Scr.rf (sX10_vats_121 ih _ _ _ _ hf)
      · obtain ⟨_, hf⟩ := ea_ck_s hf
        obtain ⟨r6, M7, he, hf⟩ := ea_ci_s hf
        have hs := Scr.trans Scr.rf (sX10_sureAmong he)
        rcases ea_if_s hf with ⟨_, hf⟩ | ⟨_, hf⟩
        · obtain ⟨_, hf⟩ := ea_ck_s hf
          obtain ⟨r11, M12, he, hf⟩ := ea_ci_s hf
          have hs := Scr.trans hs (sX10_sureAmong he)
          rcases ea_if_s hf with ⟨_, hf⟩ | ⟨_, hf⟩
          · exact Scr.trans hs (sX10_vats_121 ih _ _ _ _ hf)
          · exact Scr.trans hs (sX10_vats_121 ih _ _ _ _ hf)
        · exact Scr.trans hs (sX10_vats_121 ih _ _ _ _ hf)
theorem sX10_vats_59 {res : Int32 × eM} : ∀ (x3 : Int32) (M : eM), fX10_vats_59 x3 M = some res → Scr M res.2 := by
  intro x3 M hf
  replace hf := (fX10_vats_59.eq_1 ..).symm.trans hf
  exact Scr.trans Scr.rf (sX10_vats_65 ea_N _ _ _ _ hf)
theorem sX10_vats_0 {res : Int32 × eM} : ∀ (x1 : Int32) (x2 : Int32) (M : eM), fX10_vats_0 x1 x2 M = some res → Scr M res.2 := by
  intro x1 x2 M hf
  replace hf := (fX10_vats_0.eq_1 ..).symm.trans hf
  obtain ⟨r2, M3, he, hf⟩ := ea_ci_s hf
  have hs := Scr.trans Scr.rf (sX10_isStory he)
  rcases ea_if_s hf with ⟨_, hf⟩ | ⟨_, hf⟩
  · exact scr_endi hf hs
  · obtain ⟨r6, M7, he, hf⟩ := ea_ci_s hf
    have hs := Scr.trans hs (sX10_isStep he)
    rcases ea_if_s hf with ⟨_, hf⟩ | ⟨_, hf⟩
    · exact scr_endi hf hs
    · obtain ⟨_, hf⟩ := ea_ck_s hf
      obtain ⟨r11, M12, he, hf⟩ := ea_ci_s hf
      have hs := Scr.trans hs (sX1_cells he)
      exact Scr.trans hs (sX10_vats_32 (sX10_vats_59) ea_N _ _ _ _ _ hf)
theorem sX10_vats {res : Int32 × eM} {x1 : Int32} {x2 : Int32} {M : eM} (hf : fX10_vats x1 x2 M = some res) : Scr M res.2 := sX10_vats_0 _ _ _ hf
theorem sX10_was_0 {res : Int32 × eM} : ∀ (x1 : Int32) (x2 : Int32) (x3 : Int32) (x4 : Int32) (x5 : Int32) (M : eM), fX10_was_0 x1 x2 x3 x4 x5 M = some res → Scr M res.2 := by
  intro x1 x2 x3 x4 x5 M hf
  replace hf := (fX10_was_0.eq_1 ..).symm.trans hf
  obtain ⟨r2, M3, he, hf⟩ := ea_ci_s hf
  have hs := Scr.trans Scr.rf (sX10_mayFit he)
  rcases ea_if_s hf with ⟨_, hf⟩ | ⟨_, hf⟩
  · exact scr_endi hf hs
  · obtain ⟨r6, M7, he, hf⟩ := ea_ci_s hf
    have hs := Scr.trans hs (sX10_isColour he)
    rcases ea_if_s hf with ⟨_, hf⟩ | ⟨_, hf⟩
    · exact scr_endi hf hs
    · obtain ⟨M10, he, hf⟩ := ea_cv_s hf
      have hs := Scr.trans hs (sX3_find (by decide) he)
      rcases ea_if_s hf with ⟨_, hf⟩ | ⟨_, hf⟩
      · exact scr_endi hf hs
      · obtain ⟨M13, he, hf⟩ := ea_cv_s hf
        have hs := Scr.trans hs (sX3_measureSpan (by decide) he)
        rcases ea_if_s hf with ⟨_, hf⟩ | ⟨_, hf⟩
        · obtain ⟨_, hf⟩ := ea_ck_s hf
          exact scr_endi hf hs
        · obtain ⟨_, hf⟩ := ea_ck_s hf
          exact scr_endi hf hs
theorem sX10_was {res : Int32 × eM} {x1 : Int32} {x2 : Int32} {x3 : Int32} {x4 : Int32} {x5 : Int32} {M : eM} (hf : fX10_was x1 x2 x3 x4 x5 M = some res) : Scr M res.2 := sX10_was_0 _ _ _ _ _ _ hf
theorem sX11_addWord_23 {res : eM} {k58 : eM → Option (eM)} (hk58 : ∀ (M : eM), k58 M = some res → Scr M res) : ∀ (n : Nat) (x3 : Int32) (x4 : Int32) (M : eM), fX11_addWord_23 k58 n x3 x4 M = some res → Scr M res := by
  intro n
  induction n with
  | zero => intro x3 x4 M hf; cases hf
  | succ n ih =>
    intro x3 x4 M hf
    replace hf := (fX11_addWord_23.eq_2 ..).symm.trans hf
    rcases ea_if_s hf with ⟨_, hf⟩ | ⟨_, hf⟩
    · exact Scr.trans Scr.rf (hk58 _ hf)
    · obtain ⟨_, hf⟩ := ea_ck_s hf
      obtain ⟨_, hf⟩ := ea_ck_s hf
      exact Scr.trans (Scr.rf.pI rfl) (ih _ _ _ hf)
theorem sX11_addWord_58 {res : eM} : ∀ (M : eM), fX11_addWord_58 M = some res → Scr M res := by
  intro M hf
  replace hf := (fX11_addWord_58.eq_1 ..).symm.trans hf
  exact scr_endv hf (Scr.rf.pI rfl)
theorem sX11_addWord_0 {res : eM} : ∀ (x1 : Int32) (x2 : Int32) (x3 : Int32) (M : eM), fX11_addWord_0 x1 x2 x3 M = some res → Scr M res := by
  intro x1 x2 x3 M hf
  replace hf := (fX11_addWord_0.eq_1 ..).symm.trans hf
  obtain ⟨_, hf⟩ := ea_ck_s hf
  obtain ⟨_, hf⟩ := ea_ck_s hf
  exact Scr.trans ((Scr.rf.pI rfl).pI rfl) (sX11_addWord_23 (sX11_addWord_58) ea_N _ _ _ hf)
theorem sX11_addWord {res : eM} {x1 : Int32} {x2 : Int32} {x3 : Int32} {M : eM} (hf : fX11_addWord x1 x2 x3 M = some res) : Scr M res := sX11_addWord_0 _ _ _ _ hf
theorem sX11_in_0 {res : Int32 × eM} : ∀ (x0 : Int32) (x1 : Int32) (x2 : Int32) (M : eM), fX11_in_0 x0 x1 x2 M = some res → Scr M res.2 := by
  intro x0 x1 x2 M hf
  replace hf := (fX11_in_0.eq_1 ..).symm.trans hf
  rcases ea_if_s hf with ⟨_, hf⟩ | ⟨_, hf⟩
  · exact scr_endi hf Scr.rf
  · rcases ea_if_s hf with ⟨_, hf⟩ | ⟨_, hf⟩
    · exact scr_endi hf Scr.rf
    · exact scr_endi hf Scr.rf
theorem sX11_in {res : Int32 × eM} {x0 : Int32} {x1 : Int32} {x2 : Int32} {M : eM} (hf : fX11_in x0 x1 x2 M = some res) : Scr M res.2 := sX11_in_0 _ _ _ _ hf
theorem sX11_areColours_0 {res : Int32 × eM} : ∀ (x0 : Int32) (x1 : Int32) (x2 : Int32) (M : eM), fX11_areColours_0 x0 x1 x2 M = some res → Scr M res.2 := by
  intro x0 x1 x2 M hf
  replace hf := (fX11_areColours_0.eq_1 ..).symm.trans hf
  obtain ⟨r2, M3, he, hf⟩ := ea_ci_s hf
  have hs := Scr.trans Scr.rf (sX11_in he)
  rcases ea_if_s hf with ⟨_, hf⟩ | ⟨_, hf⟩
  · exact scr_endi hf hs
  · obtain ⟨r6, M7, he, hf⟩ := ea_ci_s hf
    have hs := Scr.trans hs (sX11_in he)
    rcases ea_if_s hf with ⟨_, hf⟩ | ⟨_, hf⟩
    · exact scr_endi hf hs
    · obtain ⟨r10, M11, he, hf⟩ := ea_ci_s hf
      have hs := Scr.trans hs (sX11_in he)
      rcases ea_if_s hf with ⟨_, hf⟩ | ⟨_, hf⟩
      · exact scr_endi hf hs
      · exact scr_endi hf hs
theorem sX11_areColours {res : Int32 × eM} {x0 : Int32} {x1 : Int32} {x2 : Int32} {M : eM} (hf : fX11_areColours x0 x1 x2 M = some res) : Scr M res.2 := sX11_areColours_0 _ _ _ _ hf
theorem sX11_areHours_0 {res : Int32 × eM} : ∀ (x0 : Int32) (M : eM), fX11_areHours_0 x0 M = some res → Scr M res.2 := by
  intro x0 M hf
  replace hf := (fX11_areHours_0.eq_1 ..).symm.trans hf
  obtain ⟨r2, M3, he, hf⟩ := ea_ci_s hf
  have hs := Scr.trans Scr.rf (sX11_in he)
  obtain ⟨_, hf⟩ := ea_ck_s hf
  exact scr_endi hf hs
theorem sX11_areHours {res : Int32 × eM} {x0 : Int32} {M : eM} (hf : fX11_areHours x0 M = some res) : Scr M res.2 := sX11_areHours_0 _ _ hf
theorem sX11_cells_0 {res : Int32 × eM} : ∀ (M : eM), fX11_cells_0 M = some res → Scr M res.2 := by
  intro M hf
  replace hf := (fX11_cells_0.eq_1 ..).symm.trans hf
  exact scr_endi hf Scr.rf
theorem sX11_cells {res : Int32 × eM} {M : eM} (hf : fX11_cells M = some res) : Scr M res.2 := sX11_cells_0  _ hf
theorem sX11_isCell_0 {res : Int32 × eM} : ∀ (x1 : Int32) (M : eM), fX11_isCell_0 x1 M = some res → Scr M res.2 := by
  intro x1 M hf
  replace hf := (fX11_isCell_0.eq_1 ..).symm.trans hf
  obtain ⟨r2, M3, he, hf⟩ := ea_ci_s hf
  have hs := Scr.trans Scr.rf (sX11_cells he)
  obtain ⟨r5, M6, he, hf⟩ := ea_ci_s hf
  have hs := Scr.trans hs (sX11_in he)
  obtain ⟨_, hf⟩ := ea_ck_s hf
  exact scr_endi hf hs
theorem sX11_isCell {res : Int32 × eM} {x1 : Int32} {M : eM} (hf : fX11_isCell x1 M = some res) : Scr M res.2 := sX11_isCell_0 _ _ hf
theorem sX11_isTelling_0 {res : Int32 × eM} : ∀ (x1 : Int32) (M : eM), fX11_isTelling_0 x1 M = some res → Scr M res.2 := by
  intro x1 M hf
  replace hf := (fX11_isTelling_0.eq_1 ..).symm.trans hf
  obtain ⟨r2, M3, he, hf⟩ := ea_ci_s hf
  have hs := Scr.trans Scr.rf (sX11_in he)
  obtain ⟨_, hf⟩ := ea_ck_s hf
  exact scr_endi hf hs
theorem sX11_isTelling {res : Int32 × eM} {x1 : Int32} {M : eM} (hf : fX11_isTelling x1 M = some res) : Scr M res.2 := sX11_isTelling_0 _ _ hf
theorem sX11_halved_0 {res : Int32 × eM} : ∀ (x0 : Int32) (x1 : Int32) (M : eM), fX11_halved_0 x0 x1 M = some res → Scr M res.2 := by
  intro x0 x1 M hf
  replace hf := (fX11_halved_0.eq_1 ..).symm.trans hf
  rcases ea_if_s hf with ⟨_, hf⟩ | ⟨_, hf⟩
  · exact scr_endi hf Scr.rf
  · exact scr_endi hf Scr.rf
theorem sX11_halved {res : Int32 × eM} {x0 : Int32} {x1 : Int32} {M : eM} (hf : fX11_halved x0 x1 M = some res) : Scr M res.2 := sX11_halved_0 _ _ _ hf
theorem sX11_strengthOf_0 {res : Int32 × eM} : ∀ (x1 : Int32) (x2 : Int32) (M : eM), fX11_strengthOf_0 x1 x2 M = some res → Scr M res.2 := by
  intro x1 x2 M hf
  replace hf := (fX11_strengthOf_0.eq_1 ..).symm.trans hf
  obtain ⟨_, hf⟩ := ea_ck_s hf
  obtain ⟨_, hf⟩ := ea_ck_s hf
  obtain ⟨_, hf⟩ := ea_ck_s hf
  obtain ⟨r5, M6, he, hf⟩ := ea_ci_s hf
  have hs := Scr.trans Scr.rf (sX11_halved he)
  obtain ⟨_, hf⟩ := ea_ck_s hf
  obtain ⟨_, hf⟩ := ea_ck_s hf
  obtain ⟨_, hf⟩ := ea_ck_s hf
  obtain ⟨r11, M12, he, hf⟩ := ea_ci_s hf
  have hs := Scr.trans hs (sX11_halved he)
  exact scr_endi hf hs
theorem sX11_strengthOf {res : Int32 × eM} {x1 : Int32} {x2 : Int32} {M : eM} (hf : fX11_strengthOf x1 x2 M = some res) : Scr M res.2 := sX11_strengthOf_0 _ _ _ hf
theorem sX11_partOf_0 {res : Int32 × eM} : ∀ (x1 : Int32) (x2 : Int32) (x3 : Int32) (x4 : Int32) (M : eM), fX11_partOf_0 x1 x2 x3 x4 M = some res → Scr M res.2 := by
  intro x1 x2 x3 x4 M hf
  replace hf := (fX11_partOf_0.eq_1 ..).symm.trans hf
  obtain ⟨_, hf⟩ := ea_ck_s hf
  obtain ⟨r3, M4, he, hf⟩ := ea_ci_s hf
  have hs := Scr.trans Scr.rf (sX11_strengthOf he)
  exact scr_endi hf hs
theorem sX11_partOf {res : Int32 × eM} {x1 : Int32} {x2 : Int32} {x3 : Int32} {x4 : Int32} {M : eM} (hf : fX11_partOf x1 x2 x3 x4 M = some res) : Scr M res.2 := sX11_partOf_0 _ _ _ _ _ hf
theorem sX11_colourOf_53 {res : Int32 × eM} : ∀ (t0 : Int32) (t1 : Int32) (M : eM), fX11_colourOf_53 t0 t1 M = some res → Scr M res.2 := by
  intro t0 t1 M hf
  replace hf := (fX11_colourOf_53.eq_1 ..).symm.trans hf
  rcases ea_if_s hf with ⟨_, hf⟩ | ⟨_, hf⟩
  · exact scr_endi hf Scr.rf
  · exact scr_endi hf Scr.rf
theorem sX11_colourOf_0 {res : Int32 × eM} : ∀ (x1 : Int32) (x2 : Int32) (x3 : Int32) (M : eM), fX11_colourOf_0 x1 x2 x3 M = some res → Scr M res.2 := by
  intro x1 x2 x3 M hf
  replace hf := (fX11_colourOf_0.eq_1 ..).symm.trans hf
  obtain ⟨_, hf⟩ := ea_ck_s hf
  obtain ⟨_, hf⟩ := ea_ck_s hf
  obtain ⟨r4, M5, he, hf⟩ := ea_ci_s hf
  have hs := Scr.trans Scr.rf (sX11_partOf he)
  obtain ⟨_, hf⟩ := ea_ck_s hf
  rcases ea_if_s hf with ⟨_, hf⟩ | ⟨_, hf⟩
  · exact Scr.trans hs (sX11_colourOf_53 _ _ _ hf)
  · obtain ⟨_, hf⟩ := ea_ck_s hf
    obtain ⟨_, hf⟩ := ea_ck_s hf
    obtain ⟨r11, M12, he, hf⟩ := ea_ci_s hf
    have hs := Scr.trans hs (sX11_partOf he)
    exact Scr.trans hs (sX11_colourOf_53 _ _ _ hf)
theorem sX11_colourOf {res : Int32 × eM} {x1 : Int32} {x2 : Int32} {x3 : Int32} {M : eM} (hf : fX11_colourOf x1 x2 x3 M = some res) : Scr M res.2 := sX11_colourOf_0 _ _ _ _ hf
theorem sX11_bears_3 {res : Int32 × eM} : ∀ (n : Nat) (x1 : Int32) (x2 : Int32) (x3 : Int32) (x4 : Int32) (x5 : Int32) (M : eM), fX11_bears_3 n x1 x2 x3 x4 x5 M = some res → Scr M res.2 := by
  intro n
  induction n with
  | zero => intro x1 x2 x3 x4 x5 M hf; cases hf
  | succ n ih =>
    intro x1 x2 x3 x4 x5 M hf
    replace hf := (fX11_bears_3.eq_2 ..).symm.trans hf
    rcases ea_if_s hf with ⟨_, hf⟩ | ⟨_, hf⟩
    · exact scr_endi hf Scr.rf
    · obtain ⟨r3, M4, he, hf⟩ := ea_ci_s hf
      have hs := Scr.trans Scr.rf (sX11_colourOf he)
      obtain ⟨r6, M7, he, hf⟩ := ea_ci_s hf
      have hs := Scr.trans hs (sX11_colourOf he)
      rcases ea_if_s hf with ⟨_, hf⟩ | ⟨_, hf⟩
      · exact Scr.trans hs (ih _ _ _ _ _ _ hf)
      · exact scr_endi hf hs
theorem sX11_bears_0 {res : Int32 × eM} : ∀ (x1 : Int32) (x2 : Int32) (x3 : Int32) (x4 : Int32) (M : eM), fX11_bears_0 x1 x2 x3 x4 M = some res → Scr M res.2 := by
  intro x1 x2 x3 x4 M hf
  replace hf := (fX11_bears_0.eq_1 ..).symm.trans hf
  exact Scr.trans Scr.rf (sX11_bears_3 ea_N _ _ _ _ _ _ hf)
theorem sX11_bears {res : Int32 × eM} {x1 : Int32} {x2 : Int32} {x3 : Int32} {x4 : Int32} {M : eM} (hf : fX11_bears x1 x2 x3 x4 M = some res) : Scr M res.2 := sX11_bears_0 _ _ _ _ _ hf
theorem sX11_lookAt_67 {res : Int32 × eM} {k6 : Int32 → Int32 → Int32 → Int32 → Int32 → eM → Option (Int32 × eM)} (hk6 : ∀ (x1 : Int32) (x2 : Int32) (x3 : Int32) (x4 : Int32) (x5 : Int32) (M : eM), k6 x1 x2 x3 x4 x5 M = some res → Scr M res.2) : ∀ (x1 : Int32) (x2 : Int32) (x3 : Int32) (x4 : Int32) (x5 : Int32) (M : eM), fX11_lookAt_67 k6 x1 x2 x3 x4 x5 M = some res → Scr M res.2 := by
  intro x1 x2 x3 x4 x5 M hf
  replace hf := (fX11_lookAt_67.eq_1 ..).symm.trans hf
  exact Scr.trans Scr.rf (hk6 _ _ _ _ _ _ hf)
theorem sX11_lookAt_6 {res : Int32 × eM} : ∀ (n : Nat) (x1 : Int32) (x2 : Int32) (x3 : Int32) (x4 : Int32) (x5 : Int32) (M : eM), fX11_lookAt_6 n x1 x2 x3 x4 x5 M = some res → Scr M res.2 := by
  intro n
  induction n with
  | zero => intro x1 x2 x3 x4 x5 M hf; cases hf
  | succ n ih =>
    intro x1 x2 x3 x4 x5 M hf
    replace hf := (fX11_lookAt_6.eq_2 ..).symm.trans hf
    rcases ea_if_s hf with ⟨_, hf⟩ | ⟨_, hf⟩
    · exact scr_endi hf Scr.rf
    · obtain ⟨y2, _, hf⟩ := ea_lt_s hf
      obtain ⟨_, hf⟩ := ea_ck_s hf
      rcases ea_if_s hf with ⟨_, hf⟩ | ⟨_, hf⟩
      · exact Scr.trans Scr.rf (sX11_lookAt_67 ih _ _ _ _ _ _ hf)
      · obtain ⟨_, hf⟩ := ea_ck_s hf
        rcases ea_if_s hf with ⟨_, hf⟩ | ⟨_, hf⟩
        · obtain ⟨_, hf⟩ := ea_ck_s hf
          rcases ea_if_s hf with ⟨_, hf⟩ | ⟨_, hf⟩
          · exact Scr.trans Scr.rf (sX11_lookAt_67 ih _ _ _ _ _ _ hf)
          · exact Scr.trans Scr.rf (sX11_lookAt_67 ih _ _ _ _ _ _ hf)
        · exact Scr.trans Scr.rf (sX11_lookAt_67 ih _ _ _ _ _ _ hf)
theorem sX11_lookAt_0 {res : Int32 × eM} : ∀ (x1 : Int32) (x2 : Int32) (x3 : Int32) (M : eM), fX11_lookAt_0 x1 x2 x3 M = some res → Scr M res.2 := by
  intro x1 x2 x3 M hf
  replace hf := (fX11_lookAt_0.eq_1 ..).symm.trans hf
  exact Scr.trans Scr.rf (sX11_lookAt_6 ea_N _ _ _ _ _ _ hf)
theorem sX11_lookAt {res : Int32 × eM} {x1 : Int32} {x2 : Int32} {x3 : Int32} {M : eM} (hf : fX11_lookAt x1 x2 x3 M = some res) : Scr M res.2 := sX11_lookAt_0 _ _ _ _ hf
theorem sX11_findWords_49 {res : eM} {k7 : Int32 → Int32 → Int32 → eM → Option (eM)} (hk7 : ∀ (x1 : Int32) (x2 : Int32) (x3 : Int32) (M : eM), k7 x1 x2 x3 M = some res → Scr M res) : ∀ (x1 : Int32) (x2 : Int32) (x3 : Int32) (M : eM), fX11_findWords_49 k7 x1 x2 x3 M = some res → Scr M res := by
  intro x1 x2 x3 M hf
  replace hf := (fX11_findWords_49.eq_1 ..).symm.trans hf
  exact Scr.trans Scr.rf (hk7 _ _ _ _ hf)
theorem sX11_findWords_7 {res : eM} {k55 : Int32 → Int32 → eM → Option (eM)} (hk55 : ∀ (x1 : Int32) (x2 : Int32) (M : eM), k55 x1 x2 M = some res → Scr M res) : ∀ (n : Nat) (x1 : Int32) (x2 : Int32) (x3 : Int32) (M : eM), fX11_findWords_7 k55 n x1 x2 x3 M = some res → Scr M res := by
  intro n
  induction n with
  | zero => intro x1 x2 x3 M hf; cases hf
  | succ n ih =>
    intro x1 x2 x3 M hf
    replace hf := (fX11_findWords_7.eq_2 ..).symm.trans hf
    rcases ea_if_s hf with ⟨_, hf⟩ | ⟨_, hf⟩
    · exact Scr.trans Scr.rf (hk55 _ _ _ hf)
    · obtain ⟨r3, M4, he, hf⟩ := ea_ci_s hf
      have hs := Scr.trans Scr.rf (sX11_lookAt he)
      rcases ea_if_s hf with ⟨_, hf⟩ | ⟨_, hf⟩
      · exact Scr.trans hs (sX11_findWords_49 ih _ _ _ _ hf)
      · obtain ⟨_, hf⟩ := ea_ck_s hf
        rcases ea_if_s hf with ⟨_, hf⟩ | ⟨_, hf⟩
        · obtain ⟨M9, he, hf⟩ := ea_cv_s hf
          have hs := Scr.trans hs (sX11_addWord he)
          exact Scr.trans hs (sX11_findWords_49 ih _ _ _ _ hf)
        · exact Scr.trans hs (sX11_findWords_49 ih _ _ _ _ hf)
theorem sX11_findWords_172 {res : eM} {k113 : Int32 → Int32 → Int32 → Int32 → Int32 → Int32 → eM → Option (eM)} (hk113 : ∀ (x1 : Int32) (x2 : Int32) (x3 : Int32) (x4 : Int32) (x5 : Int32) (x6 : Int32) (M : eM), k113 x1 x2 x3 x4 x5 x6 M = some res → Scr M res) : ∀ (x1 : Int32) (x2 : Int32) (x3 : Int32) (x4 : Int32) (x5 : Int32) (x6 : Int32) (M : eM), fX11_findWords_172 k113 x1 x2 x3 x4 x5 x6 M = some res → Scr M res := by
  intro x1 x2 x3 x4 x5 x6 M hf
  replace hf := (fX11_findWords_172.eq_1 ..).symm.trans hf
  exact Scr.trans Scr.rf (hk113 _ _ _ _ _ _ _ hf)
theorem sX11_findWords_113 {res : eM} {k178 : Int32 → Int32 → Int32 → Int32 → Int32 → eM → Option (eM)} (hk178 : ∀ (x1 : Int32) (x2 : Int32) (x3 : Int32) (x4 : Int32) (x5 : Int32) (M : eM), k178 x1 x2 x3 x4 x5 M = some res → Scr M res) : ∀ (n : Nat) (x1 : Int32) (x2 : Int32) (x3 : Int32) (x4 : Int32) (x5 : Int32) (x6 : Int32) (M : eM), fX11_findWords_113 k178 n x1 x2 x3 x4 x5 x6 M = some res → Scr M res := by
  intro n
  induction n with
  | zero => intro x1 x2 x3 x4 x5 x6 M hf; cases hf
  | succ n ih =>
    intro x1 x2 x3 x4 x5 x6 M hf
    replace hf := (fX11_findWords_113.eq_2 ..).symm.trans hf
    rcases ea_if_s hf with ⟨_, hf⟩ | ⟨_, hf⟩
    · exact Scr.trans Scr.rf (hk178 _ _ _ _ _ _ hf)
    · obtain ⟨_, hf⟩ := ea_ck_s hf
      rcases ea_if_s hf with ⟨_, hf⟩ | ⟨_, hf⟩
      · obtain ⟨_, hf⟩ := ea_ck_s hf
        rcases ea_if_s hf with ⟨_, hf⟩ | ⟨_, hf⟩
        · exact Scr.trans Scr.rf (sX11_findWords_172 ih _ _ _ _ _ _ _ hf)
        · obtain ⟨y6, _, hf⟩ := ea_lt_s hf
          exact Scr.trans Scr.rf (sX11_findWords_172 ih _ _ _ _ _ _ _ hf)
      · exact Scr.trans Scr.rf (sX11_findWords_172 ih _ _ _ _ _ _ _ hf)
theorem sX11_findWords_194 {res : eM} {k57 : Int32 → Int32 → Int32 → eM → Option (eM)} (hk57 : ∀ (x1 : Int32) (x2 : Int32) (x3 : Int32) (M : eM), k57 x1 x2 x3 M = some res → Scr M res) : ∀ (x1 : Int32) (x2 : Int32) (x3 : Int32) (M : eM), fX11_findWords_194 k57 x1 x2 x3 M = some res → Scr M res := by
  intro x1 x2 x3 M hf
  replace hf := (fX11_findWords_194.eq_1 ..).symm.trans hf
  exact Scr.trans Scr.rf (hk57 _ _ _ _ hf)
theorem sX11_findWords_178 {res : eM} {k57 : Int32 → Int32 → Int32 → eM → Option (eM)} (hk57 : ∀ (x1 : Int32) (x2 : Int32) (x3 : Int32) (M : eM), k57 x1 x2 x3 M = some res → Scr M res) : ∀ (x1 : Int32) (x2 : Int32) (x3 : Int32) (x4 : Int32) (x5 : Int32) (M : eM), fX11_findWords_178 k57 x1 x2 x3 x4 x5 M = some res → Scr M res := by
  intro x1 x2 x3 x4 x5 M hf
  replace hf := (fX11_findWords_178.eq_1 ..).symm.trans hf
  obtain ⟨_, hf⟩ := ea_ck_s hf
  obtain ⟨M3, he, hf⟩ := ea_cv_s hf
  have hs := Scr.trans Scr.rf (sX11_addWord he)
  exact Scr.trans hs (sX11_findWords_194 hk57 _ _ _ _ hf)
theorem sX11_findWords_57 {res : eM} : ∀ (n : Nat) (x1 : Int32) (x2 : Int32) (x3 : Int32) (M : eM), fX11_findWords_57 n x1 x2 x3 M = some res → Scr M res := by
  intro n
  induction n with
  | zero => intro x1 x2 x3 M hf; cases hf
  | succ n ih =>
    intro x1 x2 x3 M hf
    replace hf := (fX11_findWords_57.eq_2 ..).symm.trans hf
    rcases ea_if_s hf with ⟨_, hf⟩ | ⟨_, hf⟩
    · exact scr_endv hf Scr.rf
    · obtain ⟨y2, _, hf⟩ := ea_lt_s hf
      obtain ⟨_, hf⟩ := ea_ck_s hf
      rcases ea_if_s hf with ⟨_, hf⟩ | ⟨_, hf⟩
      · exact Scr.trans Scr.rf (sX11_findWords_194 ih _ _ _ _ hf)
      · obtain ⟨_, hf⟩ := ea_ck_s hf
        rcases ea_if_s hf with ⟨_, hf⟩ | ⟨_, hf⟩
        · exact Scr.trans Scr.rf (sX11_findWords_113 (sX11_findWords_178 ih) ea_N _ _ _ _ _ _ _ hf)
        · exact Scr.trans Scr.rf (sX11_findWords_194 ih _ _ _ _ hf)
theorem sX11_findWords_55 {res : eM} : ∀ (x1 : Int32) (x2 : Int32) (M : eM), fX11_findWords_55 x1 x2 M = some res → Scr M res := by
  intro x1 x2 M hf
  replace hf := (fX11_findWords_55.eq_1 ..).symm.trans hf
  exact Scr.trans Scr.rf (sX11_findWords_57 ea_N _ _ _ _ hf)
theorem sX11_findWords_0 {res : eM} : ∀ (x1 : Int32) (x2 : Int32) (M : eM), fX11_findWords_0 x1 x2 M = some res → Scr M res := by
  intro x1 x2 M hf
  replace hf := (fX11_findWords_0.eq_1 ..).symm.trans hf
  exact Scr.trans (Scr.rf.pI rfl) (sX11_findWords_7 (sX11_findWords_55) ea_N _ _ _ _ hf)
theorem sX11_findWords {res : eM} {x1 : Int32} {x2 : Int32} {M : eM} (hf : fX11_findWords x1 x2 M = some res) : Scr M res := sX11_findWords_0 _ _ _ hf
theorem sX11_lightAt_0 {res : Int32 × eM} : ∀ (x1 : Int32) (x2 : Int32) (M : eM), fX11_lightAt_0 x1 x2 M = some res → Scr M res.2 := by
  intro x1 x2 M hf
  replace hf := (fX11_lightAt_0.eq_1 ..).symm.trans hf
  obtain ⟨_, hf⟩ := ea_ck_s hf
  obtain ⟨y2, _, hf⟩ := ea_lt_s hf
  rcases ea_if_s hf with ⟨_, hf⟩ | ⟨_, hf⟩
  · exact scr_endi hf Scr.rf
  · obtain ⟨_, hf⟩ := ea_ck_s hf
    obtain ⟨_, hf⟩ := ea_ck_s hf
    exact scr_endi hf Scr.rf
theorem sX11_lightAt {res : Int32 × eM} {x1 : Int32} {x2 : Int32} {M : eM} (hf : fX11_lightAt x1 x2 M = some res) : Scr M res.2 := sX11_lightAt_0 _ _ _ hf
theorem sX11_hoursOf_110 {res : Int32 × eM} {k9 : Int32 → Int32 → Int32 → Int32 → Int32 → Int32 → Int32 → eM → Option (Int32 × eM)} (hk9 : ∀ (x1 : Int32) (x2 : Int32) (x3 : Int32) (x4 : Int32) (x5 : Int32) (x6 : Int32) (x7 : Int32) (M : eM), k9 x1 x2 x3 x4 x5 x6 x7 M = some res → Scr M res.2) : ∀ (x1 : Int32) (x2 : Int32) (x3 : Int32) (x4 : Int32) (x7 : Int32) (x9 : Int32) (t0 : Int32) (t1 : Int32) (M : eM), fX11_hoursOf_110 k9 x1 x2 x3 x4 x7 x9 t0 t1 M = some res → Scr M res.2 := by
  intro x1 x2 x3 x4 x7 x9 t0 t1 M hf
  replace hf := (fX11_hoursOf_110.eq_1 ..).symm.trans hf
  exact Scr.trans Scr.rf (hk9 _ _ _ _ _ _ _ _ hf)
theorem sX11_hoursOf_79 {res : Int32 × eM} {k9 : Int32 → Int32 → Int32 → Int32 → Int32 → Int32 → Int32 → eM → Option (Int32 × eM)} (hk9 : ∀ (x1 : Int32) (x2 : Int32) (x3 : Int32) (x4 : Int32) (x5 : Int32) (x6 : Int32) (x7 : Int32) (M : eM), k9 x1 x2 x3 x4 x5 x6 x7 M = some res → Scr M res.2) : ∀ (x1 : Int32) (x2 : Int32) (x3 : Int32) (x4 : Int32) (x5 : Int32) (x7 : Int32) (x8 : Int32) (x9 : Int32) (t0 : Int32) (M : eM), fX11_hoursOf_79 k9 x1 x2 x3 x4 x5 x7 x8 x9 t0 M = some res → Scr M res.2 := by
  intro x1 x2 x3 x4 x5 x7 x8 x9 t0 M hf
  replace hf := (fX11_hoursOf_79.eq_1 ..).symm.trans hf
  rcases ea_if_s hf with ⟨_, hf⟩ | ⟨_, hf⟩
  · exact Scr.trans Scr.rf (sX11_hoursOf_110 hk9 _ _ _ _ _ _ _ _ _ hf)
  · obtain ⟨_, hf⟩ := ea_ck_s hf
    exact Scr.trans Scr.rf (sX11_hoursOf_110 hk9 _ _ _ _ _ _ _ _ _ hf)
theorem sX11_hoursOf_57 {res : Int32 × eM} {k9 : Int32 → Int32 → Int32 → Int32 → Int32 → Int32 → Int32 → eM → Option (Int32 × eM)} (hk9 : ∀ (x1 : Int32) (x2 : Int32) (x3 : Int32) (x4 : Int32) (x5 : Int32) (x6 : Int32) (x7 : Int32) (M : eM), k9 x1 x2 x3 x4 x5 x6 x7 M = some res → Scr M res.2) : ∀ (x1 : Int32) (x2 : Int32) (x3 : Int32) (x4 : Int32) (x5 : Int32) (x7 : Int32) (x8 : Int32) (x9 : Int32) (t0 : Int32) (t1 : Int32) (M : eM), fX11_hoursOf_57 k9 x1 x2 x3 x4 x5 x7 x8 x9 t0 t1 M = some res → Scr M res.2 := by
  intro x1 x2 x3 x4 x5 x7 x8 x9 t0 t1 M hf
  replace hf := (fX11_hoursOf_57.eq_1 ..).symm.trans hf
  rcases ea_if_s hf with ⟨_, hf⟩ | ⟨_, hf⟩
  · exact Scr.trans Scr.rf (sX11_hoursOf_79 hk9 _ _ _ _ _ _ _ _ _ _ hf)
  · obtain ⟨r3, M4, he, hf⟩ := ea_ci_s hf
    have hs := Scr.trans Scr.rf (sX11_lightAt he)
    exact Scr.trans hs (sX11_hoursOf_79 hk9 _ _ _ _ _ _ _ _ _ _ hf)
theorem sX11_hoursOf_9 {res : Int32 × eM} : ∀ (n : Nat) (x1 : Int32) (x2 : Int32) (x3 : Int32) (x4 : Int32) (x5 : Int32) (x6 : Int32) (x7 : Int32) (M : eM), fX11_hoursOf_9 n x1 x2 x3 x4 x5 x6 x7 M = some res → Scr M res.2 := by
  intro n
  induction n with
  | zero => intro x1 x2 x3 x4 x5 x6 x7 M hf; cases hf
  | succ n ih =>
    intro x1 x2 x3 x4 x5 x6 x7 M hf
    replace hf := (fX11_hoursOf_9.eq_2 ..).symm.trans hf
    obtain ⟨_, hf⟩ := ea_ck_s hf
    rcases ea_if_s hf with ⟨_, hf⟩ | ⟨_, hf⟩
    · exact scr_endi hf Scr.rf
    · obtain ⟨_, hf⟩ := ea_ck_s hf
      obtain ⟨y4, _, hf⟩ := ea_lt_s hf
      rcases ea_if_s hf with ⟨_, hf⟩ | ⟨_, hf⟩
      · exact Scr.trans Scr.rf (sX11_hoursOf_57 ih _ _ _ _ _ _ _ _ _ _ _ hf)
      · exact Scr.trans Scr.rf (sX11_hoursOf_57 ih _ _ _ _ _ _ _ _ _ _ _ hf)
theorem sX11_hoursOf_0 {res : Int32 × eM} : ∀ (x1 : Int32) (x2 : Int32) (x3 : Int32) (x4 : Int32) (M : eM), fX11_hoursOf_0 x1 x2 x3 x4 M = some res → Scr M res.2 := by
  intro x1 x2 x3 x4 M hf
  replace hf := (fX11_hoursOf_0.eq_1 ..).symm.trans hf
  exact Scr.trans Scr.rf (sX11_hoursOf_9 ea_N _ _ _ _ _ _ _ _ hf)
theorem sX11_hoursOf {res : Int32 × eM} {x1 : Int32} {x2 : Int32} {x3 : Int32} {x4 : Int32} {M : eM} (hf : fX11_hoursOf x1 x2 x3 x4 M = some res) : Scr M res.2 := sX11_hoursOf_0 _ _ _ _ _ hf
theorem sX11_plain_0 {res : Int32 × eM} : ∀ (x0 : Int32) (M : eM), fX11_plain_0 x0 M = some res → Scr M res.2 := by
  intro x0 M hf
  replace hf := (fX11_plain_0.eq_1 ..).symm.trans hf
  rcases ea_if_s hf with ⟨_, hf⟩ | ⟨_, hf⟩
  · exact scr_endi hf Scr.rf
  · exact scr_endi hf Scr.rf
theorem sX11_plain {res : Int32 × eM} {x0 : Int32} {M : eM} (hf : fX11_plain x0 M = some res) : Scr M res.2 := sX11_plain_0 _ _ hf
theorem sX11_isSo_15 {res : Int32 × eM} {a2 : Nat} (ha2 : ∀ k, isInv a2 k = false) {k67 : Int32 → Int32 → Int32 → eM → Option (Int32 × eM)} (hk67 : ∀ (x1 : Int32) (x3 : Int32) (x4 : Int32) (M : eM), k67 x1 x3 x4 M = some res → Scr M res.2) : ∀ (n : Nat) (x1 : Int32) (x3 : Int32) (x4 : Int32) (x5 : Int32) (M : eM), fX11_isSo_15 k67 a2 n x1 x3 x4 x5 M = some res → Scr M res.2 := by
  intro n
  induction n with
  | zero => intro x1 x3 x4 x5 M hf; cases hf
  | succ n ih =>
    intro x1 x3 x4 x5 M hf
    replace hf := (fX11_isSo_15.eq_2 ..).symm.trans hf
    rcases ea_if_s hf with ⟨_, hf⟩ | ⟨_, hf⟩
    · exact Scr.trans Scr.rf (hk67 _ _ _ _ hf)
    · obtain ⟨_, hf⟩ := ea_ck_s hf
      obtain ⟨r4, M5, he, hf⟩ := ea_ci_s hf
      have hs := Scr.trans Scr.rf (sX11_colourOf he)
      obtain ⟨_, hf⟩ := ea_ck_s hf
      obtain ⟨r8, M9, he, hf⟩ := ea_ci_s hf
      have hs := Scr.trans hs (sX11_plain he)
      rcases ea_if_s hf with ⟨_, hf⟩ | ⟨_, hf⟩
      · exact Scr.trans hs (ih _ _ _ _ _ hf)
      · exact scr_endi hf hs
theorem sX11_isSo_67 {res : Int32 × eM} {a2 : Nat} (ha2 : ∀ k, isInv a2 k = false) {k3 : Int32 → Int32 → Int32 → eM → Option (Int32 × eM)} (hk3 : ∀ (x1 : Int32) (x3 : Int32) (x4 : Int32) (M : eM), k3 x1 x3 x4 M = some res → Scr M res.2) : ∀ (x1 : Int32) (x3 : Int32) (x4 : Int32) (M : eM), fX11_isSo_67 k3 a2 x1 x3 x4 M = some res → Scr M res.2 := by
  intro x1 x3 x4 M hf
  replace hf := (fX11_isSo_67.eq_1 ..).symm.trans hf
  exact Scr.trans Scr.rf (hk3 _ _ _ _ hf)
theorem sX11_isSo_3 {res : Int32 × eM} {a2 : Nat} (ha2 : ∀ k, isInv a2 k = false) : ∀ (n : Nat) (x1 : Int32) (x3 : Int32) (x4 : Int32) (M : eM), fX11_isSo_3 a2 n x1 x3 x4 M = some res → Scr M res.2 := by
  intro n
  induction n with
  | zero => intro x1 x3 x4 M hf; cases hf
  | succ n ih =>
    intro x1 x3 x4 M hf
    replace hf := (fX11_isSo_3.eq_2 ..).symm.trans hf
    rcases ea_if_s hf with ⟨_, hf⟩ | ⟨_, hf⟩
    · exact scr_endi hf Scr.rf
    · exact Scr.trans Scr.rf (sX11_isSo_15 ha2 (sX11_isSo_67 ha2 ih) ea_N _ _ _ _ _ hf)
theorem sX11_isSo_0 {res : Int32 × eM} {a2 : Nat} (ha2 : ∀ k, isInv a2 k = false) : ∀ (x1 : Int32) (x3 : Int32) (M : eM), fX11_isSo_0 a2 x1 x3 M = some res → Scr M res.2 := by
  intro x1 x3 M hf
  replace hf := (fX11_isSo_0.eq_1 ..).symm.trans hf
  exact Scr.trans Scr.rf (sX11_isSo_3 ha2 ea_N _ _ _ _ hf)
theorem sX11_isSo {res : Int32 × eM} {x1 : Int32} {a2 : Nat} {x3 : Int32} (ha2 : ∀ k, isInv a2 k = false) {M : eM} (hf : fX11_isSo a2 x1 x3 M = some res) : Scr M res.2 := sX11_isSo_0 ha2 _ _ _ hf
theorem sX11_yearAt_0 {res : Int32 × eM} : ∀ (x1 : Int32) (M : eM), fX11_yearAt_0 x1 M = some res → Scr M res.2 := by
  intro x1 M hf
  replace hf := (fX11_yearAt_0.eq_1 ..).symm.trans hf
  rcases ea_if_s hf with ⟨_, hf⟩ | ⟨_, hf⟩
  · exact scr_endi hf Scr.rf
  · obtain ⟨_, hf⟩ := ea_ck_s hf
    exact scr_endi hf Scr.rf
theorem sX11_yearAt {res : Int32 × eM} {x1 : Int32} {M : eM} (hf : fX11_yearAt x1 M = some res) : Scr M res.2 := sX11_yearAt_0 _ _ hf
theorem sX11_findFits_34 {res : eM} {k90 : Int32 → Int32 → Int32 → eM → Option (eM)} (hk90 : ∀ (x2 : Int32) (x4 : Int32) (x5 : Int32) (M : eM), k90 x2 x4 x5 M = some res → Scr M res) : ∀ (n : Nat) (x2 : Int32) (x4 : Int32) (x5 : Int32) (x6 : Int32) (M : eM), fX11_findFits_34 k90 n x2 x4 x5 x6 M = some res → Scr M res := by
  intro n
  induction n with
  | zero => intro x2 x4 x5 x6 M hf; cases hf
  | succ n ih =>
    intro x2 x4 x5 x6 M hf
    replace hf := (fX11_findFits_34.eq_2 ..).symm.trans hf
    rcases ea_if_s hf with ⟨_, hf⟩ | ⟨_, hf⟩
    · exact Scr.trans Scr.rf (hk90 _ _ _ _ hf)
    · obtain ⟨r3, M4, he, hf⟩ := ea_ci_s hf
      have hs := Scr.trans Scr.rf (sX11_yearAt he)
      obtain ⟨_, hf⟩ := ea_ck_s hf
      obtain ⟨r7, M8, he, hf⟩ := ea_ci_s hf
      have hs := Scr.trans hs (sX11_hoursOf he)
      obtain ⟨_, hf⟩ := ea_ck_s hf
      obtain ⟨_, hf⟩ := ea_ck_s hf
      exact Scr.trans (hs.pI rfl) (ih _ _ _ _ _ hf)
theorem sX11_findFits_90 {res : eM} {k19 : Int32 → Int32 → Int32 → eM → Option (eM)} (hk19 : ∀ (x2 : Int32) (x4 : Int32) (x5 : Int32) (M : eM), k19 x2 x4 x5 M = some res → Scr M res) : ∀ (x2 : Int32) (x4 : Int32) (x5 : Int32) (M : eM), fX11_findFits_90 k19 x2 x4 x5 M = some res → Scr M res := by
  intro x2 x4 x5 M hf
  replace hf := (fX11_findFits_90.eq_1 ..).symm.trans hf
  exact Scr.trans Scr.rf (hk19 _ _ _ _ hf)
theorem sX11_findFits_19 {res : eM} {k96 : eM → Option (eM)} (hk96 : ∀ (M : eM), k96 M = some res → Scr M res) : ∀ (n : Nat) (x2 : Int32) (x4 : Int32) (x5 : Int32) (M : eM), fX11_findFits_19 k96 n x2 x4 x5 M = some res → Scr M res := by
  intro n
  induction n with
  | zero => intro x2 x4 x5 M hf; cases hf
  | succ n ih =>
    intro x2 x4 x5 M hf
    replace hf := (fX11_findFits_19.eq_2 ..).symm.trans hf
    rcases ea_if_s hf with ⟨_, hf⟩ | ⟨_, hf⟩
    · exact Scr.trans Scr.rf (hk96 _ hf)
    · exact Scr.trans Scr.rf (sX11_findFits_34 (sX11_findFits_90 ih) ea_N _ _ _ _ _ hf)
theorem sX11_findFits_196 {res : eM} {k127 : Int32 → Int32 → Int32 → eM → Option (eM)} (hk127 : ∀ (x5 : Int32) (x6 : Int32) (x7 : Int32) (M : eM), k127 x5 x6 x7 M = some res → Scr M res) : ∀ (x5 : Int32) (x6 : Int32) (x7 : Int32) (M : eM), fX11_findFits_196 k127 x5 x6 x7 M = some res → Scr M res := by
  intro x5 x6 x7 M hf
  replace hf := (fX11_findFits_196.eq_1 ..).symm.trans hf
  exact Scr.trans Scr.rf (hk127 _ _ _ _ hf)
theorem sX11_findFits_127 {res : eM} {k202 : Int32 → Int32 → eM → Option (eM)} (hk202 : ∀ (x5 : Int32) (x6 : Int32) (M : eM), k202 x5 x6 M = some res → Scr M res) : ∀ (n : Nat) (x5 : Int32) (x6 : Int32) (x7 : Int32) (M : eM), fX11_findFits_127 k202 n x5 x6 x7 M = some res → Scr M res := by
  intro n
  induction n with
  | zero => intro x5 x6 x7 M hf; cases hf
  | succ n ih =>
    intro x5 x6 x7 M hf
    replace hf := (fX11_findFits_127.eq_2 ..).symm.trans hf
    rcases ea_if_s hf with ⟨_, hf⟩ | ⟨_, hf⟩
    · exact Scr.trans Scr.rf (hk202 _ _ _ hf)
    · obtain ⟨r3, M4, he, hf⟩ := ea_ci_s hf
      have hs := Scr.trans Scr.rf (sX11_isSo (fun _ => rfl) he)
      rcases ea_if_s hf with ⟨_, hf⟩ | ⟨_, hf⟩
      · exact Scr.trans hs (sX11_findFits_196 ih _ _ _ _ hf)
      · obtain ⟨_, hf⟩ := ea_ck_s hf
        obtain ⟨r8, M9, he, hf⟩ := ea_ci_s hf
        have hs := Scr.trans (hs.pI rfl) (sX11_yearAt he)
        obtain ⟨_, hf⟩ := ea_ck_s hf
        exact Scr.trans ((hs.pI rfl).pI rfl) (sX11_findFits_196 ih _ _ _ _ hf)
theorem sX11_findFits_221 {res : eM} {k109 : Int32 → eM → Option (eM)} (hk109 : ∀ (x5 : Int32) (M : eM), k109 x5 M = some res → Scr M res) : ∀ (x5 : Int32) (t0 : Int32) (t1 : Int32) (M : eM), fX11_findFits_221 k109 x5 t0 t1 M = some res → Scr M res := by
  intro x5 t0 t1 M hf
  replace hf := (fX11_findFits_221.eq_1 ..).symm.trans hf
  exact Scr.trans (Scr.rf.pI rfl) (hk109 _ _ hf)
theorem sX11_findFits_202 {res : eM} {k109 : Int32 → eM → Option (eM)} (hk109 : ∀ (x5 : Int32) (M : eM), k109 x5 M = some res → Scr M res) : ∀ (x5 : Int32) (x6 : Int32) (M : eM), fX11_findFits_202 k109 x5 x6 M = some res → Scr M res := by
  intro x5 x6 M hf
  replace hf := (fX11_findFits_202.eq_1 ..).symm.trans hf
  rcases ea_if_s hf with ⟨_, hf⟩ | ⟨_, hf⟩
  · exact Scr.trans Scr.rf (sX11_findFits_221 hk109 _ _ _ _ hf)
  · exact Scr.trans Scr.rf (sX11_findFits_221 hk109 _ _ _ _ hf)
theorem sX11_findFits_109 {res : eM} : ∀ (n : Nat) (x5 : Int32) (M : eM), fX11_findFits_109 n x5 M = some res → Scr M res := by
  intro n
  induction n with
  | zero => intro x5 M hf; cases hf
  | succ n ih =>
    intro x5 M hf
    replace hf := (fX11_findFits_109.eq_2 ..).symm.trans hf
    rcases ea_if_s hf with ⟨_, hf⟩ | ⟨_, hf⟩
    · exact scr_endv hf Scr.rf
    · exact Scr.trans Scr.rf (sX11_findFits_127 (sX11_findFits_202 ih) ea_N _ _ _ _ hf)
theorem sX11_findFits_96 {res : eM} : ∀ (M : eM), fX11_findFits_96 M = some res → Scr M res := by
  intro M hf
  replace hf := (fX11_findFits_96.eq_1 ..).symm.trans hf
  exact Scr.trans ((Scr.rf.pI rfl).pI rfl) (sX11_findFits_109 ea_N _ _ hf)
theorem sX11_findFits_0 {res : eM} : ∀ (x1 : Int32) (x2 : Int32) (x3 : Int32) (M : eM), fX11_findFits_0 x1 x2 x3 M = some res → Scr M res := by
  intro x1 x2 x3 M hf
  replace hf := (fX11_findFits_0.eq_1 ..).symm.trans hf
  obtain ⟨M2, he, hf⟩ := ea_cv_s hf
  have hs := Scr.trans Scr.rf (sX11_findWords he)
  obtain ⟨_, hf⟩ := ea_ck_s hf
  obtain ⟨y4, _, hf⟩ := ea_lt_s hf
  exact Scr.trans hs (sX11_findFits_19 (sX11_findFits_96) ea_N _ _ _ _ hf)
theorem sX11_findFits {res : eM} {x1 : Int32} {x2 : Int32} {x3 : Int32} {M : eM} (hf : fX11_findFits x1 x2 x3 M = some res) : Scr M res := sX11_findFits_0 _ _ _ _ hf
theorem sX11_isBound_0 {res : Int32 × eM} : ∀ (x0 : Int32) (M : eM), fX11_isBound_0 x0 M = some res → Scr M res.2 := by
  intro x0 M hf
  replace hf := (fX11_isBound_0.eq_1 ..).symm.trans hf
  obtain ⟨r2, M3, he, hf⟩ := ea_ci_s hf
  have hs := Scr.trans Scr.rf (sX11_in he)
  obtain ⟨_, hf⟩ := ea_ck_s hf
  exact scr_endi hf hs
theorem sX11_isBound {res : Int32 × eM} {x0 : Int32} {M : eM} (hf : fX11_isBound x0 M = some res) : Scr M res.2 := sX11_isBound_0 _ _ hf
theorem sX11_isStory_0 {res : Int32 × eM} : ∀ (x1 : Int32) (M : eM), fX11_isStory_0 x1 M = some res → Scr M res.2 := by
  intro x1 M hf
  replace hf := (fX11_isStory_0.eq_1 ..).symm.trans hf
  obtain ⟨r2, M3, he, hf⟩ := ea_ci_s hf
  have hs := Scr.trans Scr.rf (sX11_in he)
  obtain ⟨_, hf⟩ := ea_ck_s hf
  exact scr_endi hf hs
theorem sX11_isStory {res : Int32 × eM} {x1 : Int32} {M : eM} (hf : fX11_isStory x1 M = some res) : Scr M res.2 := sX11_isStory_0 _ _ hf
theorem sX11_bear_92 {res : Int32 × eM} {k127 : Int32 → Int32 → Int32 → Int32 → Int32 → eM → Option (Int32 × eM)} (hk127 : ∀ (x1 : Int32) (x2 : Int32) (x3 : Int32) (x5 : Int32) (x7 : Int32) (M : eM), k127 x1 x2 x3 x5 x7 M = some res → Scr M res.2) : ∀ (n : Nat) (x1 : Int32) (x2 : Int32) (x3 : Int32) (x4 : Int32) (x5 : Int32) (x6 : Int32) (x7 : Int32) (M : eM), fX11_bear_92 k127 n x1 x2 x3 x4 x5 x6 x7 M = some res → Scr M res.2 := by
  intro n
  induction n with
  | zero => intro x1 x2 x3 x4 x5 x6 x7 M hf; cases hf
  | succ n ih =>
    intro x1 x2 x3 x4 x5 x6 x7 M hf
    replace hf := (fX11_bear_92.eq_2 ..).symm.trans hf
    rcases ea_if_s hf with ⟨_, hf⟩ | ⟨_, hf⟩
    · exact Scr.trans Scr.rf (hk127 _ _ _ _ _ _ hf)
    · obtain ⟨r3, M4, he, hf⟩ := ea_ci_s hf
      have hs := Scr.trans Scr.rf (sX11_bears he)
      rcases ea_if_s hf with ⟨_, hf⟩ | ⟨_, hf⟩
      · exact Scr.trans hs (hk127 _ _ _ _ _ _ hf)
      · exact Scr.trans hs (ih _ _ _ _ _ _ _ _ hf)
theorem sX11_bear_131 {res : Int32 × eM} {k36 : Int32 → Int32 → Int32 → Int32 → Int32 → eM → Option (Int32 × eM)} (hk36 : ∀ (x1 : Int32) (x2 : Int32) (x3 : Int32) (x4 : Int32) (x5 : Int32) (M : eM), k36 x1 x2 x3 x4 x5 M = some res → Scr M res.2) : ∀ (x1 : Int32) (x2 : Int32) (x3 : Int32) (x4 : Int32) (x5 : Int32) (M : eM), fX11_bear_131 k36 x1 x2 x3 x4 x5 M = some res → Scr M res.2 := by
  intro x1 x2 x3 x4 x5 M hf
  replace hf := (fX11_bear_131.eq_1 ..).symm.trans hf
  exact Scr.trans Scr.rf (hk36 _ _ _ _ _ _ hf)
theorem sX11_bear_127 {res : Int32 × eM} {k36 : Int32 → Int32 → Int32 → Int32 → Int32 → eM → Option (Int32 × eM)} (hk36 : ∀ (x1 : Int32) (x2 : Int32) (x3 : Int32) (x4 : Int32) (x5 : Int32) (M : eM), k36 x1 x2 x3 x4 x5 M = some res → Scr M res.2) : ∀ (x1 : Int32) (x2 : Int32) (x3 : Int32) (x5 : Int32) (x7 : Int32) (M : eM), fX11_bear_127 k36 x1 x2 x3 x5 x7 M = some res → Scr M res.2 := by
  intro x1 x2 x3 x5 x7 M hf
  replace hf := (fX11_bear_127.eq_1 ..).symm.trans hf
  exact Scr.trans Scr.rf (sX11_bear_131 hk36 _ _ _ _ _ _ hf)
theorem sX11_bear_36 {res : Int32 × eM} : ∀ (n : Nat) (x1 : Int32) (x2 : Int32) (x3 : Int32) (x4 : Int32) (x5 : Int32) (M : eM), fX11_bear_36 n x1 x2 x3 x4 x5 M = some res → Scr M res.2 := by
  intro n
  induction n with
  | zero => intro x1 x2 x3 x4 x5 M hf; cases hf
  | succ n ih =>
    intro x1 x2 x3 x4 x5 M hf
    replace hf := (fX11_bear_36.eq_2 ..).symm.trans hf
    obtain ⟨r2, M3, he, hf⟩ := ea_ci_s hf
    have hs := Scr.trans Scr.rf (sX11_cells he)
    rcases ea_if_s hf with ⟨_, hf⟩ | ⟨_, hf⟩
    · exact scr_endi hf hs
    · obtain ⟨M6, he, hf⟩ := ea_cv_s hf
      have hs := Scr.trans hs (sX11_findFits he)
      rcases ea_if_s hf with ⟨_, hf⟩ | ⟨_, hf⟩
      · obtain ⟨_, hf⟩ := ea_ck_s hf
        obtain ⟨r10, M11, he, hf⟩ := ea_ci_s hf
        have hs := Scr.trans hs (sX11_hoursOf he)
        exact Scr.trans hs (sX11_bear_92 (sX11_bear_127 ih) ea_N _ _ _ _ _ _ _ _ hf)
      · exact Scr.trans hs (sX11_bear_131 ih _ _ _ _ _ _ hf)
theorem sX11_bear_0 {res : Int32 × eM} : ∀ (x1 : Int32) (x2 : Int32) (x3 : Int32) (M : eM), fX11_bear_0 x1 x2 x3 M = some res → Scr M res.2 := by
  intro x1 x2 x3 M hf
  replace hf := (fX11_bear_0.eq_1 ..).symm.trans hf
  obtain ⟨r2, M3, he, hf⟩ := ea_ci_s hf
  have hs := Scr.trans Scr.rf (sX11_isStory he)
  rcases ea_if_s hf with ⟨_, hf⟩ | ⟨_, hf⟩
  · exact scr_endi hf hs
  · obtain ⟨r6, M7, he, hf⟩ := ea_ci_s hf
    have hs := Scr.trans hs (sX11_in he)
    rcases ea_if_s hf with ⟨_, hf⟩ | ⟨_, hf⟩
    · exact scr_endi hf hs
    · obtain ⟨r10, M11, he, hf⟩ := ea_ci_s hf
      have hs := Scr.trans hs (sX11_isBound he)
      rcases ea_if_s hf with ⟨_, hf⟩ | ⟨_, hf⟩
      · exact scr_endi hf hs
      · exact Scr.trans hs (sX11_bear_36 ea_N _ _ _ _ _ _ hf)
theorem sX11_bear {res : Int32 × eM} {x1 : Int32} {x2 : Int32} {x3 : Int32} {M : eM} (hf : fX11_bear x1 x2 x3 M = some res) : Scr M res.2 := sX11_bear_0 _ _ _ _ hf
theorem sX11_isStep_0 {res : Int32 × eM} : ∀ (x0 : Int32) (M : eM), fX11_isStep_0 x0 M = some res → Scr M res.2 := by
  intro x0 M hf
  replace hf := (fX11_isStep_0.eq_1 ..).symm.trans hf
  obtain ⟨r2, M3, he, hf⟩ := ea_ci_s hf
  have hs := Scr.trans Scr.rf (sX11_in he)
  obtain ⟨_, hf⟩ := ea_ck_s hf
  exact scr_endi hf hs
theorem sX11_isStep {res : Int32 × eM} {x0 : Int32} {M : eM} (hf : fX11_isStep x0 M = some res) : Scr M res.2 := sX11_isStep_0 _ _ hf
theorem sX11_isAsked_0 {res : Int32 × eM} : ∀ (x1 : Int32) (x2 : Int32) (x3 : Int32) (M : eM), fX11_isAsked_0 x1 x2 x3 M = some res → Scr M res.2 := by
  intro x1 x2 x3 M hf
  replace hf := (fX11_isAsked_0.eq_1 ..).symm.trans hf
  obtain ⟨r2, M3, he, hf⟩ := ea_ci_s hf
  have hs := Scr.trans Scr.rf (sX11_isCell he)
  rcases ea_if_s hf with ⟨_, hf⟩ | ⟨_, hf⟩
  · exact scr_endi hf hs
  · obtain ⟨r6, M7, he, hf⟩ := ea_ci_s hf
    have hs := Scr.trans hs (sX11_isStory he)
    rcases ea_if_s hf with ⟨_, hf⟩ | ⟨_, hf⟩
    · exact scr_endi hf hs
    · obtain ⟨r10, M11, he, hf⟩ := ea_ci_s hf
      have hs := Scr.trans hs (sX11_isStep he)
      rcases ea_if_s hf with ⟨_, hf⟩ | ⟨_, hf⟩
      · exact scr_endi hf hs
      · exact scr_endi hf hs
theorem sX11_isAsked {res : Int32 × eM} {x1 : Int32} {x2 : Int32} {x3 : Int32} {M : eM} (hf : fX11_isAsked x1 x2 x3 M = some res) : Scr M res.2 := sX11_isAsked_0 _ _ _ _ hf
theorem sX11_onlyThread_0 {res : Int32 × eM} : ∀ (x1 : Int32) (x2 : Int32) (x3 : Int32) (M : eM), fX11_onlyThread_0 x1 x2 x3 M = some res → Scr M res.2 := by
  intro x1 x2 x3 M hf
  replace hf := (fX11_onlyThread_0.eq_1 ..).symm.trans hf
  obtain ⟨M2, he, hf⟩ := ea_cv_s hf
  have hs := Scr.trans Scr.rf (sX11_findFits he)
  rcases ea_if_s hf with ⟨_, hf⟩ | ⟨_, hf⟩
  · exact scr_endi hf hs
  · exact scr_endi hf hs
theorem sX11_onlyThread {res : Int32 × eM} {x1 : Int32} {x2 : Int32} {x3 : Int32} {M : eM} (hf : fX11_onlyThread x1 x2 x3 M = some res) : Scr M res.2 := sX11_onlyThread_0 _ _ _ _ hf
theorem sX11_beside_139 {res : Int32 × eM} {k61 : Int32 → Int32 → Int32 → Int32 → Int32 → Int32 → Int32 → Int32 → eM → Option (Int32 × eM)} (hk61 : ∀ (x1 : Int32) (x2 : Int32) (x3 : Int32) (x4 : Int32) (x5 : Int32) (x6 : Int32) (x7 : Int32) (x8 : Int32) (M : eM), k61 x1 x2 x3 x4 x5 x6 x7 x8 M = some res → Scr M res.2) : ∀ (x1 : Int32) (x2 : Int32) (x3 : Int32) (x4 : Int32) (x5 : Int32) (x6 : Int32) (x7 : Int32) (x8 : Int32) (M : eM), fX11_beside_139 k61 x1 x2 x3 x4 x5 x6 x7 x8 M = some res → Scr M res.2 := by
  intro x1 x2 x3 x4 x5 x6 x7 x8 M hf
  replace hf := (fX11_beside_139.eq_1 ..).symm.trans hf
  exact Scr.trans Scr.rf (hk61 _ _ _ _ _ _ _ _ _ hf)
theorem sX11_beside_61 {res : Int32 × eM} {k145 : Int32 → Int32 → Int32 → Int32 → Int32 → Int32 → Int32 → eM → Option (Int32 × eM)} (hk145 : ∀ (x1 : Int32) (x2 : Int32) (x3 : Int32) (x4 : Int32) (x5 : Int32) (x6 : Int32) (x7 : Int32) (M : eM), k145 x1 x2 x3 x4 x5 x6 x7 M = some res → Scr M res.2) : ∀ (n : Nat) (x1 : Int32) (x2 : Int32) (x3 : Int32) (x4 : Int32) (x5 : Int32) (x6 : Int32) (x7 : Int32) (x8 : Int32) (M : eM), fX11_beside_61 k145 n x1 x2 x3 x4 x5 x6 x7 x8 M = some res → Scr M res.2 := by
  intro n
  induction n with
  | zero => intro x1 x2 x3 x4 x5 x6 x7 x8 M hf; cases hf
  | succ n ih =>
    intro x1 x2 x3 x4 x5 x6 x7 x8 M hf
    replace hf := (fX11_beside_61.eq_2 ..).symm.trans hf
    obtain ⟨_, hf⟩ := ea_ck_s hf
    rcases ea_if_s hf with ⟨_, hf⟩ | ⟨_, hf⟩
    · exact Scr.trans Scr.rf (hk145 _ _ _ _ _ _ _ _ hf)
    · obtain ⟨r4, M5, he, hf⟩ := ea_ci_s hf
      have hs := Scr.trans Scr.rf (sX11_in he)
      rcases ea_if_s hf with ⟨_, hf⟩ | ⟨_, hf⟩
      · exact Scr.trans hs (sX11_beside_139 ih _ _ _ _ _ _ _ _ _ hf)
      · obtain ⟨r8, M9, he, hf⟩ := ea_ci_s hf
        have hs := Scr.trans hs (sX11_in he)
        rcases ea_if_s hf with ⟨_, hf⟩ | ⟨_, hf⟩
        · exact Scr.trans hs (sX11_beside_139 ih _ _ _ _ _ _ _ _ _ hf)
        · rcases ea_if_s hf with ⟨_, hf⟩ | ⟨_, hf⟩
          · exact Scr.trans hs (sX11_beside_139 ih _ _ _ _ _ _ _ _ _ hf)
          · obtain ⟨r13, M14, he, hf⟩ := ea_ci_s hf
            have hs := Scr.trans hs (sX11_onlyThread he)
            obtain ⟨_, hf⟩ := ea_ck_s hf
            exact Scr.trans (hs.pI rfl) (sX11_beside_139 ih _ _ _ _ _ _ _ _ _ hf)
theorem sX11_beside_145 {res : Int32 × eM} {k42 : Int32 → Int32 → Int32 → Int32 → Int32 → Int32 → Int32 → eM → Option (Int32 × eM)} (hk42 : ∀ (x1 : Int32) (x2 : Int32) (x3 : Int32) (x4 : Int32) (x5 : Int32) (x6 : Int32) (x7 : Int32) (M : eM), k42 x1 x2 x3 x4 x5 x6 x7 M = some res → Scr M res.2) : ∀ (x1 : Int32) (x2 : Int32) (x3 : Int32) (x4 : Int32) (x5 : Int32) (x6 : Int32) (x7 : Int32) (M : eM), fX11_beside_145 k42 x1 x2 x3 x4 x5 x6 x7 M = some res → Scr M res.2 := by
  intro x1 x2 x3 x4 x5 x6 x7 M hf
  replace hf := (fX11_beside_145.eq_1 ..).symm.trans hf
  exact Scr.trans Scr.rf (hk42 _ _ _ _ _ _ _ _ hf)
theorem sX11_beside_42 {res : Int32 × eM} {k151 : Int32 → Int32 → eM → Option (Int32 × eM)} (hk151 : ∀ (x4 : Int32) (x6 : Int32) (M : eM), k151 x4 x6 M = some res → Scr M res.2) : ∀ (n : Nat) (x1 : Int32) (x2 : Int32) (x3 : Int32) (x4 : Int32) (x5 : Int32) (x6 : Int32) (x7 : Int32) (M : eM), fX11_beside_42 k151 n x1 x2 x3 x4 x5 x6 x7 M = some res → Scr M res.2 := by
  intro n
  induction n with
  | zero => intro x1 x2 x3 x4 x5 x6 x7 M hf; cases hf
  | succ n ih =>
    intro x1 x2 x3 x4 x5 x6 x7 M hf
    replace hf := (fX11_beside_42.eq_2 ..).symm.trans hf
    obtain ⟨_, hf⟩ := ea_ck_s hf
    rcases ea_if_s hf with ⟨_, hf⟩ | ⟨_, hf⟩
    · exact Scr.trans Scr.rf (hk151 _ _ _ hf)
    · obtain ⟨_, hf⟩ := ea_ck_s hf
      obtain ⟨y4, _, hf⟩ := ea_lt_s hf
      exact Scr.trans Scr.rf (sX11_beside_61 (sX11_beside_145 ih) ea_N _ _ _ _ _ _ _ _ _ hf)
theorem sX11_beside_223 {res : Int32 × eM} {k182 : Int32 → Int32 → Int32 → Int32 → Int32 → Int32 → Int32 → eM → Option (Int32 × eM)} (hk182 : ∀ (x4 : Int32) (x6 : Int32) (x7 : Int32) (x8 : Int32) (x9 : Int32) (x10 : Int32) (x11 : Int32) (M : eM), k182 x4 x6 x7 x8 x9 x10 x11 M = some res → Scr M res.2) : ∀ (x4 : Int32) (x6 : Int32) (x7 : Int32) (x8 : Int32) (x9 : Int32) (x11 : Int32) (t0 : Int32) (t1 : Int32) (M : eM), fX11_beside_223 k182 x4 x6 x7 x8 x9 x11 t0 t1 M = some res → Scr M res.2 := by
  intro x4 x6 x7 x8 x9 x11 t0 t1 M hf
  replace hf := (fX11_beside_223.eq_1 ..).symm.trans hf
  exact Scr.trans Scr.rf (hk182 _ _ _ _ _ _ _ _ hf)
theorem sX11_beside_182 {res : Int32 × eM} {k232 : Int32 → Int32 → Int32 → Int32 → Int32 → Int32 → eM → Option (Int32 × eM)} (hk232 : ∀ (x4 : Int32) (x6 : Int32) (x7 : Int32) (x8 : Int32) (x9 : Int32) (x10 : Int32) (M : eM), k232 x4 x6 x7 x8 x9 x10 M = some res → Scr M res.2) : ∀ (n : Nat) (x4 : Int32) (x6 : Int32) (x7 : Int32) (x8 : Int32) (x9 : Int32) (x10 : Int32) (x11 : Int32) (M : eM), fX11_beside_182 k232 n x4 x6 x7 x8 x9 x10 x11 M = some res → Scr M res.2 := by
  intro n
  induction n with
  | zero => intro x4 x6 x7 x8 x9 x10 x11 M hf; cases hf
  | succ n ih =>
    intro x4 x6 x7 x8 x9 x10 x11 M hf
    replace hf := (fX11_beside_182.eq_2 ..).symm.trans hf
    rcases ea_if_s hf with ⟨_, hf⟩ | ⟨_, hf⟩
    · exact Scr.trans Scr.rf (hk232 _ _ _ _ _ _ _ hf)
    · obtain ⟨_, hf⟩ := ea_ck_s hf
      rcases ea_if_s hf with ⟨_, hf⟩ | ⟨_, hf⟩
      · exact Scr.trans Scr.rf (hk232 _ _ _ _ _ _ _ hf)
      · obtain ⟨_, hf⟩ := ea_ck_s hf
        obtain ⟨_, hf⟩ := ea_ck_s hf
        rcases ea_if_s hf with ⟨_, hf⟩ | ⟨_, hf⟩
        · exact Scr.trans Scr.rf (sX11_beside_223 ih _ _ _ _ _ _ _ _ _ hf)
        · exact Scr.trans Scr.rf (sX11_beside_223 ih _ _ _ _ _ _ _ _ _ hf)
theorem sX11_beside_279 {res : Int32 × eM} {k169 : Int32 → Int32 → Int32 → Int32 → Int32 → eM → Option (Int32 × eM)} (hk169 : ∀ (x4 : Int32) (x6 : Int32) (x7 : Int32) (x8 : Int32) (x9 : Int32) (M : eM), k169 x4 x6 x7 x8 x9 M = some res → Scr M res.2) : ∀ (x4 : Int32) (x6 : Int32) (x7 : Int32) (x8 : Int32) (x9 : Int32) (M : eM), fX11_beside_279 k169 x4 x6 x7 x8 x9 M = some res → Scr M res.2 := by
  intro x4 x6 x7 x8 x9 M hf
  replace hf := (fX11_beside_279.eq_1 ..).symm.trans hf
  exact Scr.trans Scr.rf (hk169 _ _ _ _ _ _ hf)
theorem sX11_beside_266 {res : Int32 × eM} {k169 : Int32 → Int32 → Int32 → Int32 → Int32 → eM → Option (Int32 × eM)} (hk169 : ∀ (x4 : Int32) (x6 : Int32) (x7 : Int32) (x8 : Int32) (x9 : Int32) (M : eM), k169 x4 x6 x7 x8 x9 M = some res → Scr M res.2) : ∀ (x4 : Int32) (x6 : Int32) (x9 : Int32) (x10 : Int32) (M : eM), fX11_beside_266 k169 x4 x6 x9 x10 M = some res → Scr M res.2 := by
  intro x4 x6 x9 x10 M hf
  replace hf := (fX11_beside_266.eq_1 ..).symm.trans hf
  obtain ⟨_, hf⟩ := ea_ck_s hf
  exact Scr.trans Scr.rf (sX11_beside_279 hk169 _ _ _ _ _ _ hf)
theorem sX11_beside_232 {res : Int32 × eM} {k169 : Int32 → Int32 → Int32 → Int32 → Int32 → eM → Option (Int32 × eM)} (hk169 : ∀ (x4 : Int32) (x6 : Int32) (x7 : Int32) (x8 : Int32) (x9 : Int32) (M : eM), k169 x4 x6 x7 x8 x9 M = some res → Scr M res.2) : ∀ (x4 : Int32) (x6 : Int32) (x7 : Int32) (x8 : Int32) (x9 : Int32) (x10 : Int32) (M : eM), fX11_beside_232 k169 x4 x6 x7 x8 x9 x10 M = some res → Scr M res.2 := by
  intro x4 x6 x7 x8 x9 x10 M hf
  replace hf := (fX11_beside_232.eq_1 ..).symm.trans hf
  rcases ea_if_s hf with ⟨_, hf⟩ | ⟨_, hf⟩
  · exact Scr.trans Scr.rf (sX11_beside_279 hk169 _ _ _ _ _ _ hf)
  · rcases ea_if_s hf with ⟨_, hf⟩ | ⟨_, hf⟩
    · exact Scr.trans Scr.rf (sX11_beside_279 hk169 _ _ _ _ _ _ hf)
    · rcases ea_if_s hf with ⟨_, hf⟩ | ⟨_, hf⟩
      · obtain ⟨_, hf⟩ := ea_ck_s hf
        rcases ea_if_s hf with ⟨_, hf⟩ | ⟨_, hf⟩
        · exact Scr.trans Scr.rf (sX11_beside_266 hk169 _ _ _ _ _ hf)
        · exact Scr.trans Scr.rf (sX11_beside_279 hk169 _ _ _ _ _ _ hf)
      · exact Scr.trans Scr.rf (sX11_beside_266 hk169 _ _ _ _ _ hf)
theorem sX11_beside_169 {res : Int32 × eM} {k285 : Int32 → Int32 → Int32 → eM → Option (Int32 × eM)} (hk285 : ∀ (x4 : Int32) (x7 : Int32) (x8 : Int32) (M : eM), k285 x4 x7 x8 M = some res → Scr M res.2) : ∀ (n : Nat) (x4 : Int32) (x6 : Int32) (x7 : Int32) (x8 : Int32) (x9 : Int32) (M : eM), fX11_beside_169 k285 n x4 x6 x7 x8 x9 M = some res → Scr M res.2 := by
  intro n
  induction n with
  | zero => intro x4 x6 x7 x8 x9 M hf; cases hf
  | succ n ih =>
    intro x4 x6 x7 x8 x9 M hf
    replace hf := (fX11_beside_169.eq_2 ..).symm.trans hf
    rcases ea_if_s hf with ⟨_, hf⟩ | ⟨_, hf⟩
    · exact Scr.trans Scr.rf (hk285 _ _ _ _ hf)
    · exact Scr.trans Scr.rf (sX11_beside_182 (sX11_beside_232 ih) ea_N _ _ _ _ _ _ _ _ hf)
theorem sX11_beside_285 {res : Int32 × eM} : ∀ (x4 : Int32) (x7 : Int32) (x8 : Int32) (M : eM), fX11_beside_285 x4 x7 x8 M = some res → Scr M res.2 := by
  intro x4 x7 x8 M hf
  replace hf := (fX11_beside_285.eq_1 ..).symm.trans hf
  rcases ea_if_s hf with ⟨_, hf⟩ | ⟨_, hf⟩
  · exact scr_endi hf Scr.rf
  · exact scr_endi hf Scr.rf
theorem sX11_beside_151 {res : Int32 × eM} : ∀ (x4 : Int32) (x6 : Int32) (M : eM), fX11_beside_151 x4 x6 M = some res → Scr M res.2 := by
  intro x4 x6 M hf
  replace hf := (fX11_beside_151.eq_1 ..).symm.trans hf
  rcases ea_if_s hf with ⟨_, hf⟩ | ⟨_, hf⟩
  · exact scr_endi hf Scr.rf
  · exact Scr.trans Scr.rf (sX11_beside_169 (sX11_beside_285) ea_N _ _ _ _ _ _ hf)
theorem sX11_beside_0 {res : Int32 × eM} : ∀ (x1 : Int32) (x2 : Int32) (x3 : Int32) (x4 : Int32) (M : eM), fX11_beside_0 x1 x2 x3 x4 M = some res → Scr M res.2 := by
  intro x1 x2 x3 x4 M hf
  replace hf := (fX11_beside_0.eq_1 ..).symm.trans hf
  obtain ⟨r2, M3, he, hf⟩ := ea_ci_s hf
  have hs := Scr.trans Scr.rf (sX11_isAsked he)
  rcases ea_if_s hf with ⟨_, hf⟩ | ⟨_, hf⟩
  · exact scr_endi hf hs
  · obtain ⟨r6, M7, he, hf⟩ := ea_ci_s hf
    have hs := Scr.trans hs (sX11_in he)
    rcases ea_if_s hf with ⟨_, hf⟩ | ⟨_, hf⟩
    · exact scr_endi hf hs
    · obtain ⟨y9, _, hf⟩ := ea_lt_s hf
      obtain ⟨_, hf⟩ := ea_ck_s hf
      exact Scr.trans hs (sX11_beside_42 (sX11_beside_151) ea_N _ _ _ _ _ _ _ _ hf)
theorem sX11_beside {res : Int32 × eM} {x1 : Int32} {x2 : Int32} {x3 : Int32} {x4 : Int32} {M : eM} (hf : fX11_beside x1 x2 x3 x4 M = some res) : Scr M res.2 := sX11_beside_0 _ _ _ _ _ hf
theorem sX11_byteAt_0 {res : Int32 × eM} : ∀ (x1 : Int32) (M : eM), fX11_byteAt_0 x1 M = some res → Scr M res.2 := by
  intro x1 M hf
  replace hf := (fX11_byteAt_0.eq_1 ..).symm.trans hf
  rcases ea_if_s hf with ⟨_, hf⟩ | ⟨_, hf⟩
  · exact scr_endi hf Scr.rf
  · obtain ⟨_, hf⟩ := ea_ck_s hf
    exact scr_endi hf Scr.rf
theorem sX11_byteAt {res : Int32 × eM} {x1 : Int32} {M : eM} (hf : fX11_byteAt x1 M = some res) : Scr M res.2 := sX11_byteAt_0 _ _ hf
theorem sX11_frontOf_27 {res : Int32 × eM} : ∀ (M : eM), fX11_frontOf_27 M = some res → Scr M res.2 := by
  intro M hf
  replace hf := (fX11_frontOf_27.eq_1 ..).symm.trans hf
  exact scr_endi hf Scr.rf
theorem sX11_frontOf_0 {res : Int32 × eM} : ∀ (x1 : Int32) (M : eM), fX11_frontOf_0 x1 M = some res → Scr M res.2 := by
  intro x1 M hf
  replace hf := (fX11_frontOf_0.eq_1 ..).symm.trans hf
  obtain ⟨r2, M3, he, hf⟩ := ea_ci_s hf
  have hs := Scr.trans Scr.rf (sX11_lookAt he)
  rcases ea_if_s hf with ⟨_, hf⟩ | ⟨_, hf⟩
  · exact Scr.trans hs (sX11_frontOf_27 _ hf)
  · obtain ⟨_, hf⟩ := ea_ck_s hf
    rcases ea_if_s hf with ⟨_, hf⟩ | ⟨_, hf⟩
    · exact Scr.trans hs (sX11_frontOf_27 _ hf)
    · exact scr_endi hf hs
theorem sX11_frontOf {res : Int32 × eM} {x1 : Int32} {M : eM} (hf : fX11_frontOf x1 M = some res) : Scr M res.2 := sX11_frontOf_0 _ _ hf
theorem sX11_isEye_0 {res : Int32 × eM} : ∀ (x1 : Int32) (M : eM), fX11_isEye_0 x1 M = some res → Scr M res.2 := by
  intro x1 M hf
  replace hf := (fX11_isEye_0.eq_1 ..).symm.trans hf
  obtain ⟨r2, M3, he, hf⟩ := ea_ci_s hf
  have hs := Scr.trans Scr.rf (sX11_in he)
  obtain ⟨_, hf⟩ := ea_ck_s hf
  exact scr_endi hf hs
theorem sX11_isEye {res : Int32 × eM} {x1 : Int32} {M : eM} (hf : fX11_isEye x1 M = some res) : Scr M res.2 := sX11_isEye_0 _ _ hf
theorem sX11_spanEnd_56 {res : Int32 × eM} {k5 : Int32 → Int32 → Int32 → Int32 → eM → Option (Int32 × eM)} (hk5 : ∀ (x1 : Int32) (x2 : Int32) (x3 : Int32) (x4 : Int32) (M : eM), k5 x1 x2 x3 x4 M = some res → Scr M res.2) : ∀ (x1 : Int32) (x2 : Int32) (x3 : Int32) (x4 : Int32) (M : eM), fX11_spanEnd_56 k5 x1 x2 x3 x4 M = some res → Scr M res.2 := by
  intro x1 x2 x3 x4 M hf
  replace hf := (fX11_spanEnd_56.eq_1 ..).symm.trans hf
  exact Scr.trans Scr.rf (hk5 _ _ _ _ _ hf)
theorem sX11_spanEnd_53 {res : Int32 × eM} {k5 : Int32 → Int32 → Int32 → Int32 → eM → Option (Int32 × eM)} (hk5 : ∀ (x1 : Int32) (x2 : Int32) (x3 : Int32) (x4 : Int32) (M : eM), k5 x1 x2 x3 x4 M = some res → Scr M res.2) : ∀ (x1 : Int32) (x2 : Int32) (x4 : Int32) (x5 : Int32) (M : eM), fX11_spanEnd_53 k5 x1 x2 x4 x5 M = some res → Scr M res.2 := by
  intro x1 x2 x4 x5 M hf
  replace hf := (fX11_spanEnd_53.eq_1 ..).symm.trans hf
  exact Scr.trans Scr.rf (sX11_spanEnd_56 hk5 _ _ _ _ _ hf)
theorem sX11_spanEnd_5 {res : Int32 × eM} : ∀ (n : Nat) (x1 : Int32) (x2 : Int32) (x3 : Int32) (x4 : Int32) (M : eM), fX11_spanEnd_5 n x1 x2 x3 x4 M = some res → Scr M res.2 := by
  intro n
  induction n with
  | zero => intro x1 x2 x3 x4 M hf; cases hf
  | succ n ih =>
    intro x1 x2 x3 x4 M hf
    replace hf := (fX11_spanEnd_5.eq_2 ..).symm.trans hf
    rcases ea_if_s hf with ⟨_, hf⟩ | ⟨_, hf⟩
    · exact scr_endi hf Scr.rf
    · obtain ⟨_, hf⟩ := ea_ck_s hf
      obtain ⟨r4, M5, he, hf⟩ := ea_ci_s hf
      have hs := Scr.trans Scr.rf (sX11_colourOf he)
      rcases ea_if_s hf with ⟨_, hf⟩ | ⟨_, hf⟩
      · exact Scr.trans hs (sX11_spanEnd_53 ih _ _ _ _ _ hf)
      · rcases ea_if_s hf with ⟨_, hf⟩ | ⟨_, hf⟩
        · rcases ea_if_s hf with ⟨_, hf⟩ | ⟨_, hf⟩
          · exact Scr.trans hs (sX11_spanEnd_56 ih _ _ _ _ _ hf)
          · exact Scr.trans hs (sX11_spanEnd_53 ih _ _ _ _ _ hf)
        · rcases ea_if_s hf with ⟨_, hf⟩ | ⟨_, hf⟩
          · exact Scr.trans hs (sX11_spanEnd_56 ih _ _ _ _ _ hf)
          · exact Scr.trans hs (sX11_spanEnd_53 ih _ _ _ _ _ hf)
theorem sX11_spanEnd_0 {res : Int32 × eM} : ∀ (x1 : Int32) (x2 : Int32) (M : eM), fX11_spanEnd_0 x1 x2 M = some res → Scr M res.2 := by
  intro x1 x2 M hf
  replace hf := (fX11_spanEnd_0.eq_1 ..).symm.trans hf
  exact Scr.trans Scr.rf (sX11_spanEnd_5 ea_N _ _ _ _ _ hf)
theorem sX11_spanEnd {res : Int32 × eM} {x1 : Int32} {x2 : Int32} {M : eM} (hf : fX11_spanEnd x1 x2 M = some res) : Scr M res.2 := sX11_spanEnd_0 _ _ _ hf
theorem sX11_greyOf_12 {res : Int32 × eM} {k43 : Int32 → eM → Option (Int32 × eM)} (hk43 : ∀ (x2 : Int32) (M : eM), k43 x2 M = some res → Scr M res.2) : ∀ (n : Nat) (x1 : Int32) (x2 : Int32) (x3 : Int32) (M : eM), fX11_greyOf_12 k43 n x1 x2 x3 M = some res → Scr M res.2 := by
  intro n
  induction n with
  | zero => intro x1 x2 x3 M hf; cases hf
  | succ n ih =>
    intro x1 x2 x3 M hf
    replace hf := (fX11_greyOf_12.eq_2 ..).symm.trans hf
    rcases ea_if_s hf with ⟨_, hf⟩ | ⟨_, hf⟩
    · exact Scr.trans Scr.rf (hk43 _ _ hf)
    · obtain ⟨r3, M4, he, hf⟩ := ea_ci_s hf
      have hs := Scr.trans Scr.rf (sX11_spanEnd he)
      obtain ⟨r6, M7, he, hf⟩ := ea_ci_s hf
      have hs := Scr.trans hs (sX11_spanEnd he)
      rcases ea_if_s hf with ⟨_, hf⟩ | ⟨_, hf⟩
      · exact Scr.trans hs (ih _ _ _ _ hf)
      · exact scr_endi hf hs
theorem sX11_greyOf_43 {res : Int32 × eM} : ∀ (x2 : Int32) (M : eM), fX11_greyOf_43 x2 M = some res → Scr M res.2 := by
  intro x2 M hf
  replace hf := (fX11_greyOf_43.eq_1 ..).symm.trans hf
  obtain ⟨r2, M3, he, hf⟩ := ea_ci_s hf
  have hs := Scr.trans Scr.rf (sX11_spanEnd he)
  obtain ⟨r5, M6, he, hf⟩ := ea_ci_s hf
  have hs := Scr.trans hs (sX11_spanEnd he)
  exact scr_endi hf hs
theorem sX11_greyOf_0 {res : Int32 × eM} : ∀ (x1 : Int32) (x2 : Int32) (M : eM), fX11_greyOf_0 x1 x2 M = some res → Scr M res.2 := by
  intro x1 x2 M hf
  replace hf := (fX11_greyOf_0.eq_1 ..).symm.trans hf
  rcases ea_if_s hf with ⟨_, hf⟩ | ⟨_, hf⟩
  · exact scr_endi hf Scr.rf
  · exact Scr.trans Scr.rf (sX11_greyOf_12 (sX11_greyOf_43) ea_N _ _ _ _ hf)
theorem sX11_greyOf {res : Int32 × eM} {x1 : Int32} {x2 : Int32} {M : eM} (hf : fX11_greyOf x1 x2 M = some res) : Scr M res.2 := sX11_greyOf_0 _ _ _ hf
theorem sX11_seenBy_6 {res : Int32 × eM} : ∀ (n : Nat) (x1 : Int32) (x2 : Int32) (x3 : Int32) (x4 : Int32) (x5 : Int32) (M : eM), fX11_seenBy_6 n x1 x2 x3 x4 x5 M = some res → Scr M res.2 := by
  intro n
  induction n with
  | zero => intro x1 x2 x3 x4 x5 M hf; cases hf
  | succ n ih =>
    intro x1 x2 x3 x4 x5 M hf
    replace hf := (fX11_seenBy_6.eq_2 ..).symm.trans hf
    rcases ea_if_s hf with ⟨_, hf⟩ | ⟨_, hf⟩
    · exact scr_endi hf Scr.rf
    · obtain ⟨_, hf⟩ := ea_ck_s hf
      obtain ⟨_, hf⟩ := ea_ck_s hf
      obtain ⟨_, hf⟩ := ea_ck_s hf
      obtain ⟨y5, _, hf⟩ := ea_lt_s hf
      exact Scr.trans Scr.rf (ih _ _ _ _ _ _ hf)
theorem sX11_seenBy_0 {res : Int32 × eM} : ∀ (x1 : Int32) (x2 : Int32) (x3 : Int32) (M : eM), fX11_seenBy_0 x1 x2 x3 M = some res → Scr M res.2 := by
  intro x1 x2 x3 M hf
  replace hf := (fX11_seenBy_0.eq_1 ..).symm.trans hf
  exact Scr.trans Scr.rf (sX11_seenBy_6 ea_N _ _ _ _ _ _ hf)
theorem sX11_seenBy {res : Int32 × eM} {x1 : Int32} {x2 : Int32} {x3 : Int32} {M : eM} (hf : fX11_seenBy x1 x2 x3 M = some res) : Scr M res.2 := sX11_seenBy_0 _ _ _ _ hf
theorem sX11_throwLight_30 {res : eM} {k78 : Int32 → Int32 → Int32 → Int32 → eM → Option (eM)} (hk78 : ∀ (x2 : Int32) (x3 : Int32) (x5 : Int32) (x6 : Int32) (M : eM), k78 x2 x3 x5 x6 M = some res → Scr M res) : ∀ (n : Nat) (x2 : Int32) (x3 : Int32) (x5 : Int32) (x6 : Int32) (x7 : Int32) (M : eM), fX11_throwLight_30 k78 n x2 x3 x5 x6 x7 M = some res → Scr M res := by
  intro n
  induction n with
  | zero => intro x2 x3 x5 x6 x7 M hf; cases hf
  | succ n ih =>
    intro x2 x3 x5 x6 x7 M hf
    replace hf := (fX11_throwLight_30.eq_2 ..).symm.trans hf
    rcases ea_if_s hf with ⟨_, hf⟩ | ⟨_, hf⟩
    · exact Scr.trans Scr.rf (hk78 _ _ _ _ _ hf)
    · obtain ⟨_, hf⟩ := ea_ck_s hf
      obtain ⟨_, hf⟩ := ea_ck_s hf
      obtain ⟨r5, M6, he, hf⟩ := ea_ci_s hf
      have hs := Scr.trans Scr.rf (sX11_greyOf he)
      obtain ⟨_, hf⟩ := ea_ck_s hf
      exact Scr.trans (hs.pI rfl) (ih _ _ _ _ _ _ hf)
theorem sX11_throwLight_78 {res : eM} {k13 : Int32 → Int32 → Int32 → Int32 → eM → Option (eM)} (hk13 : ∀ (x2 : Int32) (x3 : Int32) (x5 : Int32) (x6 : Int32) (M : eM), k13 x2 x3 x5 x6 M = some res → Scr M res) : ∀ (x2 : Int32) (x3 : Int32) (x5 : Int32) (x6 : Int32) (M : eM), fX11_throwLight_78 k13 x2 x3 x5 x6 M = some res → Scr M res := by
  intro x2 x3 x5 x6 M hf
  replace hf := (fX11_throwLight_78.eq_1 ..).symm.trans hf
  exact Scr.trans Scr.rf (hk13 _ _ _ _ _ hf)
theorem sX11_throwLight_13 {res : eM} {k84 : Int32 → Int32 → eM → Option (eM)} (hk84 : ∀ (x2 : Int32) (x3 : Int32) (M : eM), k84 x2 x3 M = some res → Scr M res) : ∀ (n : Nat) (x2 : Int32) (x3 : Int32) (x5 : Int32) (x6 : Int32) (M : eM), fX11_throwLight_13 k84 n x2 x3 x5 x6 M = some res → Scr M res := by
  intro n
  induction n with
  | zero => intro x2 x3 x5 x6 M hf; cases hf
  | succ n ih =>
    intro x2 x3 x5 x6 M hf
    replace hf := (fX11_throwLight_13.eq_2 ..).symm.trans hf
    rcases ea_if_s hf with ⟨_, hf⟩ | ⟨_, hf⟩
    · exact Scr.trans Scr.rf (hk84 _ _ _ hf)
    · obtain ⟨_, hf⟩ := ea_ck_s hf
      exact Scr.trans (Scr.rf.pI rfl) (sX11_throwLight_30 (sX11_throwLight_78 ih) ea_N _ _ _ _ _ _ hf)
theorem sX11_throwLight_212 {res : eM} {k171 : Int32 → Int32 → Int32 → Int32 → Int32 → Int32 → Int32 → Int32 → eM → Option (eM)} (hk171 : ∀ (x2 : Int32) (x3 : Int32) (x6 : Int32) (x7 : Int32) (x8 : Int32) (x9 : Int32) (x10 : Int32) (x11 : Int32) (M : eM), k171 x2 x3 x6 x7 x8 x9 x10 x11 M = some res → Scr M res) : ∀ (x2 : Int32) (x3 : Int32) (x6 : Int32) (x7 : Int32) (x8 : Int32) (x9 : Int32) (x11 : Int32) (t0 : Int32) (M : eM), fX11_throwLight_212 k171 x2 x3 x6 x7 x8 x9 x11 t0 M = some res → Scr M res := by
  intro x2 x3 x6 x7 x8 x9 x11 t0 M hf
  replace hf := (fX11_throwLight_212.eq_1 ..).symm.trans hf
  exact Scr.trans Scr.rf (hk171 _ _ _ _ _ _ _ _ _ hf)
theorem sX11_throwLight_171 {res : eM} {k220 : Int32 → Int32 → Int32 → Int32 → Int32 → Int32 → Int32 → eM → Option (eM)} (hk220 : ∀ (x2 : Int32) (x3 : Int32) (x6 : Int32) (x7 : Int32) (x8 : Int32) (x9 : Int32) (x10 : Int32) (M : eM), k220 x2 x3 x6 x7 x8 x9 x10 M = some res → Scr M res) : ∀ (n : Nat) (x2 : Int32) (x3 : Int32) (x6 : Int32) (x7 : Int32) (x8 : Int32) (x9 : Int32) (x10 : Int32) (x11 : Int32) (M : eM), fX11_throwLight_171 k220 n x2 x3 x6 x7 x8 x9 x10 x11 M = some res → Scr M res := by
  intro n
  induction n with
  | zero => intro x2 x3 x6 x7 x8 x9 x10 x11 M hf; cases hf
  | succ n ih =>
    intro x2 x3 x6 x7 x8 x9 x10 x11 M hf
    replace hf := (fX11_throwLight_171.eq_2 ..).symm.trans hf
    rcases ea_if_s hf with ⟨_, hf⟩ | ⟨_, hf⟩
    · exact Scr.trans Scr.rf (hk220 _ _ _ _ _ _ _ _ hf)
    · obtain ⟨r3, M4, he, hf⟩ := ea_ci_s hf
      have hs := Scr.trans Scr.rf (sX11_seenBy he)
      obtain ⟨_, hf⟩ := ea_ck_s hf
      obtain ⟨r7, M8, he, hf⟩ := ea_ci_s hf
      have hs := Scr.trans hs (sX11_plain he)
      rcases ea_if_s hf with ⟨_, hf⟩ | ⟨_, hf⟩
      · exact Scr.trans hs (sX11_throwLight_212 ih _ _ _ _ _ _ _ _ _ hf)
      · exact Scr.trans hs (sX11_throwLight_212 ih _ _ _ _ _ _ _ _ _ hf)
theorem sX11_throwLight_314 {res : eM} {k149 : Int32 → Int32 → Int32 → Int32 → Int32 → Int32 → eM → Option (eM)} (hk149 : ∀ (x2 : Int32) (x3 : Int32) (x6 : Int32) (x7 : Int32) (x8 : Int32) (x9 : Int32) (M : eM), k149 x2 x3 x6 x7 x8 x9 M = some res → Scr M res) : ∀ (x2 : Int32) (x3 : Int32) (x6 : Int32) (x7 : Int32) (x8 : Int32) (x9 : Int32) (M : eM), fX11_throwLight_314 k149 x2 x3 x6 x7 x8 x9 M = some res → Scr M res := by
  intro x2 x3 x6 x7 x8 x9 M hf
  replace hf := (fX11_throwLight_314.eq_1 ..).symm.trans hf
  exact Scr.trans (Scr.rf.pI rfl) (hk149 _ _ _ _ _ _ _ hf)
theorem sX11_throwLight_276 {res : eM} {k149 : Int32 → Int32 → Int32 → Int32 → Int32 → Int32 → eM → Option (eM)} (hk149 : ∀ (x2 : Int32) (x3 : Int32) (x6 : Int32) (x7 : Int32) (x8 : Int32) (x9 : Int32) (M : eM), k149 x2 x3 x6 x7 x8 x9 M = some res → Scr M res) : ∀ (x2 : Int32) (x3 : Int32) (x6 : Int32) (x7 : Int32) (x8 : Int32) (x9 : Int32) (x10 : Int32) (t0 : Int32) (M : eM), fX11_throwLight_276 k149 x2 x3 x6 x7 x8 x9 x10 t0 M = some res → Scr M res := by
  intro x2 x3 x6 x7 x8 x9 x10 t0 M hf
  replace hf := (fX11_throwLight_276.eq_1 ..).symm.trans hf
  rcases ea_if_s hf with ⟨_, hf⟩ | ⟨_, hf⟩
  · exact Scr.trans Scr.rf (sX11_throwLight_314 hk149 _ _ _ _ _ _ _ hf)
  · obtain ⟨y2, _, hf⟩ := ea_lt_s hf
    obtain ⟨y4, _, hf⟩ := ea_lt_s hf
    obtain ⟨y6, _, hf⟩ := ea_lt_s hf
    exact Scr.trans Scr.rf (sX11_throwLight_314 hk149 _ _ _ _ _ _ _ hf)
theorem sX11_throwLight_271 {res : eM} {k149 : Int32 → Int32 → Int32 → Int32 → Int32 → Int32 → eM → Option (eM)} (hk149 : ∀ (x2 : Int32) (x3 : Int32) (x6 : Int32) (x7 : Int32) (x8 : Int32) (x9 : Int32) (M : eM), k149 x2 x3 x6 x7 x8 x9 M = some res → Scr M res) : ∀ (x2 : Int32) (x3 : Int32) (x6 : Int32) (x7 : Int32) (x8 : Int32) (x9 : Int32) (x10 : Int32) (M : eM), fX11_throwLight_271 k149 x2 x3 x6 x7 x8 x9 x10 M = some res → Scr M res := by
  intro x2 x3 x6 x7 x8 x9 x10 M hf
  replace hf := (fX11_throwLight_271.eq_1 ..).symm.trans hf
  exact Scr.trans Scr.rf (sX11_throwLight_276 hk149 _ _ _ _ _ _ _ _ _ hf)
theorem sX11_throwLight_275 {res : eM} {k149 : Int32 → Int32 → Int32 → Int32 → Int32 → Int32 → eM → Option (eM)} (hk149 : ∀ (x2 : Int32) (x3 : Int32) (x6 : Int32) (x7 : Int32) (x8 : Int32) (x9 : Int32) (M : eM), k149 x2 x3 x6 x7 x8 x9 M = some res → Scr M res) : ∀ (x2 : Int32) (x3 : Int32) (x6 : Int32) (x7 : Int32) (x8 : Int32) (x9 : Int32) (x10 : Int32) (M : eM), fX11_throwLight_275 k149 x2 x3 x6 x7 x8 x9 x10 M = some res → Scr M res := by
  intro x2 x3 x6 x7 x8 x9 x10 M hf
  replace hf := (fX11_throwLight_275.eq_1 ..).symm.trans hf
  exact Scr.trans Scr.rf (sX11_throwLight_276 hk149 _ _ _ _ _ _ _ _ _ hf)
theorem sX11_throwLight_220 {res : eM} {k149 : Int32 → Int32 → Int32 → Int32 → Int32 → Int32 → eM → Option (eM)} (hk149 : ∀ (x2 : Int32) (x3 : Int32) (x6 : Int32) (x7 : Int32) (x8 : Int32) (x9 : Int32) (M : eM), k149 x2 x3 x6 x7 x8 x9 M = some res → Scr M res) : ∀ (x2 : Int32) (x3 : Int32) (x6 : Int32) (x7 : Int32) (x8 : Int32) (x9 : Int32) (x10 : Int32) (M : eM), fX11_throwLight_220 k149 x2 x3 x6 x7 x8 x9 x10 M = some res → Scr M res := by
  intro x2 x3 x6 x7 x8 x9 x10 M hf
  replace hf := (fX11_throwLight_220.eq_1 ..).symm.trans hf
  rcases ea_if_s hf with ⟨_, hf⟩ | ⟨_, hf⟩
  · exact Scr.trans Scr.rf (sX11_throwLight_271 hk149 _ _ _ _ _ _ _ _ hf)
  · rcases ea_if_s hf with ⟨_, hf⟩ | ⟨_, hf⟩
    · exact Scr.trans Scr.rf (sX11_throwLight_271 hk149 _ _ _ _ _ _ _ _ hf)
    · rcases ea_if_s hf with ⟨_, hf⟩ | ⟨_, hf⟩
      · rcases ea_if_s hf with ⟨_, hf⟩ | ⟨_, hf⟩
        · exact Scr.trans Scr.rf (sX11_throwLight_275 hk149 _ _ _ _ _ _ _ _ hf)
        · exact Scr.trans Scr.rf (sX11_throwLight_271 hk149 _ _ _ _ _ _ _ _ hf)
      · exact Scr.trans Scr.rf (sX11_throwLight_275 hk149 _ _ _ _ _ _ _ _ hf)
theorem sX11_throwLight_149 {res : eM} {k328 : Int32 → Int32 → Int32 → Int32 → Int32 → Int32 → eM → Option (eM)} (hk328 : ∀ (x2 : Int32) (x3 : Int32) (x6 : Int32) (x7 : Int32) (x8 : Int32) (x9 : Int32) (M : eM), k328 x2 x3 x6 x7 x8 x9 M = some res → Scr M res) : ∀ (n : Nat) (x2 : Int32) (x3 : Int32) (x6 : Int32) (x7 : Int32) (x8 : Int32) (x9 : Int32) (M : eM), fX11_throwLight_149 k328 n x2 x3 x6 x7 x8 x9 M = some res → Scr M res := by
  intro n
  induction n with
  | zero => intro x2 x3 x6 x7 x8 x9 M hf; cases hf
  | succ n ih =>
    intro x2 x3 x6 x7 x8 x9 M hf
    replace hf := (fX11_throwLight_149.eq_2 ..).symm.trans hf
    rcases ea_if_s hf with ⟨_, hf⟩ | ⟨_, hf⟩
    · exact Scr.trans Scr.rf (hk328 _ _ _ _ _ _ _ hf)
    · exact Scr.trans Scr.rf (sX11_throwLight_171 (sX11_throwLight_220 ih) ea_N _ _ _ _ _ _ _ _ _ hf)
theorem sX11_throwLight_328 {res : eM} {k126 : Int32 → Int32 → Int32 → Int32 → Int32 → Int32 → eM → Option (eM)} (hk126 : ∀ (x2 : Int32) (x3 : Int32) (x6 : Int32) (x7 : Int32) (x8 : Int32) (x9 : Int32) (M : eM), k126 x2 x3 x6 x7 x8 x9 M = some res → Scr M res) : ∀ (x2 : Int32) (x3 : Int32) (x6 : Int32) (x7 : Int32) (x8 : Int32) (x9 : Int32) (M : eM), fX11_throwLight_328 k126 x2 x3 x6 x7 x8 x9 M = some res → Scr M res := by
  intro x2 x3 x6 x7 x8 x9 M hf
  replace hf := (fX11_throwLight_328.eq_1 ..).symm.trans hf
  exact Scr.trans (Scr.rf.pI rfl) (hk126 _ _ _ _ _ _ _ hf)
theorem sX11_throwLight_126 {res : eM} {k342 : Int32 → Int32 → Int32 → Int32 → Int32 → Int32 → eM → Option (eM)} (hk342 : ∀ (x2 : Int32) (x3 : Int32) (x6 : Int32) (x7 : Int32) (x8 : Int32) (x9 : Int32) (M : eM), k342 x2 x3 x6 x7 x8 x9 M = some res → Scr M res) : ∀ (n : Nat) (x2 : Int32) (x3 : Int32) (x6 : Int32) (x7 : Int32) (x8 : Int32) (x9 : Int32) (M : eM), fX11_throwLight_126 k342 n x2 x3 x6 x7 x8 x9 M = some res → Scr M res := by
  intro n
  induction n with
  | zero => intro x2 x3 x6 x7 x8 x9 M hf; cases hf
  | succ n ih =>
    intro x2 x3 x6 x7 x8 x9 M hf
    replace hf := (fX11_throwLight_126.eq_2 ..).symm.trans hf
    rcases ea_if_s hf with ⟨_, hf⟩ | ⟨_, hf⟩
    · exact Scr.trans Scr.rf (hk342 _ _ _ _ _ _ _ hf)
    · exact Scr.trans (Scr.rf.pI rfl) (sX11_throwLight_149 (sX11_throwLight_328 ih) ea_N _ _ _ _ _ _ _ hf)
theorem sX11_throwLight_342 {res : eM} {k103 : Int32 → Int32 → Int32 → Int32 → Int32 → Int32 → eM → Option (eM)} (hk103 : ∀ (x2 : Int32) (x3 : Int32) (x6 : Int32) (x7 : Int32) (x8 : Int32) (x9 : Int32) (M : eM), k103 x2 x3 x6 x7 x8 x9 M = some res → Scr M res) : ∀ (x2 : Int32) (x3 : Int32) (x6 : Int32) (x7 : Int32) (x8 : Int32) (x9 : Int32) (M : eM), fX11_throwLight_342 k103 x2 x3 x6 x7 x8 x9 M = some res → Scr M res := by
  intro x2 x3 x6 x7 x8 x9 M hf
  replace hf := (fX11_throwLight_342.eq_1 ..).symm.trans hf
  exact Scr.trans (Scr.rf.pI rfl) (hk103 _ _ _ _ _ _ _ hf)
theorem sX11_throwLight_103 {res : eM} {k356 : Int32 → Int32 → Int32 → Int32 → eM → Option (eM)} (hk356 : ∀ (x6 : Int32) (x7 : Int32) (x8 : Int32) (x9 : Int32) (M : eM), k356 x6 x7 x8 x9 M = some res → Scr M res) : ∀ (n : Nat) (x2 : Int32) (x3 : Int32) (x6 : Int32) (x7 : Int32) (x8 : Int32) (x9 : Int32) (M : eM), fX11_throwLight_103 k356 n x2 x3 x6 x7 x8 x9 M = some res → Scr M res := by
  intro n
  induction n with
  | zero => intro x2 x3 x6 x7 x8 x9 M hf; cases hf
  | succ n ih =>
    intro x2 x3 x6 x7 x8 x9 M hf
    replace hf := (fX11_throwLight_103.eq_2 ..).symm.trans hf
    rcases ea_if_s hf with ⟨_, hf⟩ | ⟨_, hf⟩
    · exact Scr.trans Scr.rf (hk356 _ _ _ _ _ hf)
    · exact Scr.trans (Scr.rf.pI rfl) (sX11_throwLight_126 (sX11_throwLight_342 ih) ea_N _ _ _ _ _ _ _ hf)
theorem sX11_throwLight_356 {res : eM} : ∀ (x6 : Int32) (x7 : Int32) (x8 : Int32) (x9 : Int32) (M : eM), fX11_throwLight_356 x6 x7 x8 x9 M = some res → Scr M res := by
  intro x6 x7 x8 x9 M hf
  replace hf := (fX11_throwLight_356.eq_1 ..).symm.trans hf
  exact scr_endv hf ((((Scr.rf.pI rfl).pI rfl).pI rfl).pI rfl)
theorem sX11_throwLight_84 {res : eM} : ∀ (x2 : Int32) (x3 : Int32) (M : eM), fX11_throwLight_84 x2 x3 M = some res → Scr M res := by
  intro x2 x3 M hf
  replace hf := (fX11_throwLight_84.eq_1 ..).symm.trans hf
  exact Scr.trans (Scr.rf.pI rfl) (sX11_throwLight_103 (sX11_throwLight_356) ea_N _ _ _ _ _ _ _ hf)
theorem sX11_throwLight_0 {res : eM} : ∀ (x1 : Int32) (x2 : Int32) (x3 : Int32) (x4 : Int32) (x5 : Int32) (M : eM), fX11_throwLight_0 x1 x2 x3 x4 x5 M = some res → Scr M res := by
  intro x1 x2 x3 x4 x5 M hf
  replace hf := (fX11_throwLight_0.eq_1 ..).symm.trans hf
  obtain ⟨M2, he, hf⟩ := ea_cv_s hf
  have hs := Scr.trans Scr.rf (sX11_findFits he)
  exact Scr.trans hs (sX11_throwLight_13 (sX11_throwLight_84) ea_N _ _ _ _ _ hf)
theorem sX11_throwLight {res : eM} {x1 : Int32} {x2 : Int32} {x3 : Int32} {x4 : Int32} {x5 : Int32} {M : eM} (hf : fX11_throwLight x1 x2 x3 x4 x5 M = some res) : Scr M res := sX11_throwLight_0 _ _ _ _ _ _ hf
theorem sX11_cannot_99 {res : Int32 × eM} {k44 : Int32 → Int32 → Int32 → Int32 → Int32 → Int32 → eM → Option (Int32 × eM)} (hk44 : ∀ (x1 : Int32) (x2 : Int32) (x3 : Int32) (x4 : Int32) (x5 : Int32) (x6 : Int32) (M : eM), k44 x1 x2 x3 x4 x5 x6 M = some res → Scr M res.2) : ∀ (x1 : Int32) (x2 : Int32) (x3 : Int32) (x4 : Int32) (x5 : Int32) (x6 : Int32) (M : eM), fX11_cannot_99 k44 x1 x2 x3 x4 x5 x6 M = some res → Scr M res.2 := by
  intro x1 x2 x3 x4 x5 x6 M hf
  replace hf := (fX11_cannot_99.eq_1 ..).symm.trans hf
  exact Scr.trans Scr.rf (hk44 _ _ _ _ _ _ _ hf)
theorem sX11_cannot_96 {res : Int32 × eM} {k44 : Int32 → Int32 → Int32 → Int32 → Int32 → Int32 → eM → Option (Int32 × eM)} (hk44 : ∀ (x1 : Int32) (x2 : Int32) (x3 : Int32) (x4 : Int32) (x5 : Int32) (x6 : Int32) (M : eM), k44 x1 x2 x3 x4 x5 x6 M = some res → Scr M res.2) : ∀ (x1 : Int32) (x2 : Int32) (x3 : Int32) (x4 : Int32) (x6 : Int32) (t0 : Int32) (t1 : Int32) (M : eM), fX11_cannot_96 k44 x1 x2 x3 x4 x6 t0 t1 M = some res → Scr M res.2 := by
  intro x1 x2 x3 x4 x6 t0 t1 M hf
  replace hf := (fX11_cannot_96.eq_1 ..).symm.trans hf
  exact Scr.trans Scr.rf (sX11_cannot_99 hk44 _ _ _ _ _ _ _ hf)
theorem sX11_cannot_44 {res : Int32 × eM} : ∀ (n : Nat) (x1 : Int32) (x2 : Int32) (x3 : Int32) (x4 : Int32) (x5 : Int32) (x6 : Int32) (M : eM), fX11_cannot_44 n x1 x2 x3 x4 x5 x6 M = some res → Scr M res.2 := by
  intro n
  induction n with
  | zero => intro x1 x2 x3 x4 x5 x6 M hf; cases hf
  | succ n ih =>
    intro x1 x2 x3 x4 x5 x6 M hf
    replace hf := (fX11_cannot_44.eq_2 ..).symm.trans hf
    obtain ⟨r2, M3, he, hf⟩ := ea_ci_s hf
    have hs := Scr.trans Scr.rf (sX11_cells he)
    rcases ea_if_s hf with ⟨_, hf⟩ | ⟨_, hf⟩
    · exact scr_endi hf hs
    · obtain ⟨r6, M7, he, hf⟩ := ea_ci_s hf
      have hs := Scr.trans hs (sX11_frontOf he)
      rcases ea_if_s hf with ⟨_, hf⟩ | ⟨_, hf⟩
      · obtain ⟨M10, he, hf⟩ := ea_cv_s hf
        have hs := Scr.trans hs (sX11_throwLight he)
        rcases ea_if_s hf with ⟨_, hf⟩ | ⟨_, hf⟩
        · exact Scr.trans hs (sX11_cannot_96 ih _ _ _ _ _ _ _ _ hf)
        · exact Scr.trans hs (sX11_cannot_96 ih _ _ _ _ _ _ _ _ hf)
      · exact Scr.trans hs (sX11_cannot_99 ih _ _ _ _ _ _ _ hf)
theorem sX11_cannot_0 {res : Int32 × eM} : ∀ (x1 : Int32) (x2 : Int32) (x3 : Int32) (x4 : Int32) (M : eM), fX11_cannot_0 x1 x2 x3 x4 M = some res → Scr M res.2 := by
  intro x1 x2 x3 x4 M hf
  replace hf := (fX11_cannot_0.eq_1 ..).symm.trans hf
  obtain ⟨r2, M3, he, hf⟩ := ea_ci_s hf
  have hs := Scr.trans Scr.rf (sX11_isEye he)
  rcases ea_if_s hf with ⟨_, hf⟩ | ⟨_, hf⟩
  · exact scr_endi hf hs
  · obtain ⟨r6, M7, he, hf⟩ := ea_ci_s hf
    have hs := Scr.trans hs (sX11_isStory he)
    rcases ea_if_s hf with ⟨_, hf⟩ | ⟨_, hf⟩
    · exact scr_endi hf hs
    · obtain ⟨r10, M11, he, hf⟩ := ea_ci_s hf
      have hs := Scr.trans hs (sX11_isBound he)
      rcases ea_if_s hf with ⟨_, hf⟩ | ⟨_, hf⟩
      · exact scr_endi hf hs
      · obtain ⟨r14, M15, he, hf⟩ := ea_ci_s hf
        have hs := Scr.trans hs (sX11_in he)
        rcases ea_if_s hf with ⟨_, hf⟩ | ⟨_, hf⟩
        · exact scr_endi hf hs
        · exact Scr.trans hs (sX11_cannot_44 ea_N _ _ _ _ _ _ _ hf)
theorem sX11_cannot {res : Int32 × eM} {x1 : Int32} {x2 : Int32} {x3 : Int32} {x4 : Int32} {M : eM} (hf : fX11_cannot x1 x2 x3 x4 M = some res) : Scr M res.2 := sX11_cannot_0 _ _ _ _ _ hf
theorem sX11_isKey_0 {res : Int32 × eM} : ∀ (x1 : Int32) (M : eM), fX11_isKey_0 x1 M = some res → Scr M res.2 := by
  intro x1 M hf
  replace hf := (fX11_isKey_0.eq_1 ..).symm.trans hf
  rcases ea_if_s hf with ⟨_, hf⟩ | ⟨_, hf⟩
  · rcases ea_if_s hf with ⟨_, hf⟩ | ⟨_, hf⟩
    · exact scr_endi hf Scr.rf
    · exact scr_endi hf Scr.rf
  · exact scr_endi hf Scr.rf
theorem sX11_isKey {res : Int32 × eM} {x1 : Int32} {M : eM} (hf : fX11_isKey x1 M = some res) : Scr M res.2 := sX11_isKey_0 _ _ hf
