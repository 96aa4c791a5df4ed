theorem sX11_isDigit_0 {res : Int32 × eM} : ∀ (x0 : Int32) (M : eM), fX11_isDigit_0 x0 M = some res → Scr M res.2 := by
  intro x0 M hf
  replace hf := (fX11_isDigit_0.eq_1 ..).symm.trans hf
  rcases ea_if_s hf with ⟨_, hf⟩ | ⟨_, hf⟩
  · exact scr_endi hf Scr.rf
  · rcases ea_if_s hf with ⟨_, hf⟩ | ⟨_, hf⟩
    · exact scr_endi hf Scr.rf
    · exact scr_endi hf Scr.rf
theorem sX11_isDigit {res : Int32 × eM} {x0 : Int32} {M : eM} (hf : fX11_isDigit x0 M = some res) : Scr M res.2 := sX11_isDigit_0 _ _ hf
theorem sX11_isSmall_0 {res : Int32 × eM} : ∀ (x0 : Int32) (M : eM), fX11_isSmall_0 x0 M = some res → Scr M res.2 := by
  intro x0 M hf
  replace hf := (fX11_isSmall_0.eq_1 ..).symm.trans hf
  rcases ea_if_s hf with ⟨_, hf⟩ | ⟨_, hf⟩
  · exact scr_endi hf Scr.rf
  · rcases ea_if_s hf with ⟨_, hf⟩ | ⟨_, hf⟩
    · exact scr_endi hf Scr.rf
    · exact scr_endi hf Scr.rf
theorem sX11_isSmall {res : Int32 × eM} {x0 : Int32} {M : eM} (hf : fX11_isSmall x0 M = some res) : Scr M res.2 := sX11_isSmall_0 _ _ hf
theorem sX11_comes_2 {res : eM} {a0 : Nat} (ha0 : ∀ k, isInv a0 k = false) : ∀ (n : Nat) (x1 : Int32) (x2 : Int32) (M : eM), fX11_comes_2 a0 n x1 x2 M = some res → Scr M res := by
  intro n
  induction n with
  | zero => intro x1 x2 M hf; cases hf
  | succ n ih =>
    intro x1 x2 M hf
    replace hf := (fX11_comes_2.eq_2 ..).symm.trans hf
    rcases ea_if_s hf with ⟨_, hf⟩ | ⟨_, hf⟩
    · exact scr_endv hf Scr.rf
    · obtain ⟨_, hf⟩ := ea_ck_s hf
      obtain ⟨_, hf⟩ := ea_ck_s hf
      exact Scr.trans (Scr.rf.pI (ha0 _)) (ih _ _ _ hf)
theorem sX11_comes_0 {res : eM} {a0 : Nat} (ha0 : ∀ k, isInv a0 k = false) : ∀ (x1 : Int32) (M : eM), fX11_comes_0 a0 x1 M = some res → Scr M res := by
  intro x1 M hf
  replace hf := (fX11_comes_0.eq_1 ..).symm.trans hf
  exact Scr.trans Scr.rf (sX11_comes_2 ha0 ea_N _ _ _ hf)
theorem sX11_comes {res : eM} {a0 : Nat} {x1 : Int32} (ha0 : ∀ k, isInv a0 k = false) {M : eM} (hf : fX11_comes a0 x1 M = some res) : Scr M res := sX11_comes_0 ha0 _ _ hf
theorem sX11_isColour_0 {res : Int32 × eM} : ∀ (x0 : Int32) (M : eM), fX11_isColour_0 x0 M = some res → Scr M res.2 := by
  intro x0 M hf
  replace hf := (fX11_isColour_0.eq_1 ..).symm.trans hf
  obtain ⟨r2, M3, he, hf⟩ := ea_ci_s hf
  have hs := Scr.trans Scr.rf (sX11_in he)
  obtain ⟨_, hf⟩ := ea_ck_s hf
  exact scr_endi hf hs
theorem sX11_isColour {res : Int32 × eM} {x0 : Int32} {M : eM} (hf : fX11_isColour x0 M = some res) : Scr M res.2 := sX11_isColour_0 _ _ hf
theorem sX11_isThread_0 {res : Int32 × eM} : ∀ (x1 : Int32) (M : eM), fX11_isThread_0 x1 M = some res → Scr M res.2 := by
  intro x1 M hf
  replace hf := (fX11_isThread_0.eq_1 ..).symm.trans hf
  obtain ⟨r2, M3, he, hf⟩ := ea_ci_s hf
  have hs := Scr.trans Scr.rf (sX11_in he)
  obtain ⟨_, hf⟩ := ea_ck_s hf
  exact scr_endi hf hs
theorem sX11_isThread {res : Int32 × eM} {x1 : Int32} {M : eM} (hf : fX11_isThread x1 M = some res) : Scr M res.2 := sX11_isThread_0 _ _ hf
theorem sX11_colour_0 {res : Int32 × eM} : ∀ (x1 : Int32) (x2 : Int32) (x3 : Int32) (M : eM), fX11_colour_0 x1 x2 x3 M = some res → Scr M res.2 := by
  intro x1 x2 x3 M hf
  replace hf := (fX11_colour_0.eq_1 ..).symm.trans hf
  obtain ⟨r2, M3, he, hf⟩ := ea_ci_s hf
  have hs := Scr.trans Scr.rf (sX11_isThread he)
  rcases ea_if_s hf with ⟨_, hf⟩ | ⟨_, hf⟩
  · exact scr_endi hf hs
  · obtain ⟨r6, M7, he, hf⟩ := ea_ci_s hf
    have hs := Scr.trans hs (sX11_areHours he)
    rcases ea_if_s hf with ⟨_, hf⟩ | ⟨_, hf⟩
    · exact scr_endi hf hs
    · obtain ⟨r10, M11, he, hf⟩ := ea_ci_s hf
      have hs := Scr.trans hs (sX11_isColour he)
      rcases ea_if_s hf with ⟨_, hf⟩ | ⟨_, hf⟩
      · exact scr_endi hf hs
      · obtain ⟨r14, M15, he, hf⟩ := ea_ci_s hf
        have hs := Scr.trans hs (sX11_colourOf he)
        exact scr_endi hf hs
theorem sX11_colour {res : Int32 × eM} {x1 : Int32} {x2 : Int32} {x3 : Int32} {M : eM} (hf : fX11_colour x1 x2 x3 M = some res) : Scr M res.2 := sX11_colour_0 _ _ _ _ hf
theorem sX11_common_4 {res : Int32 × eM} : ∀ (n : Nat) (x2 : Int32) (x3 : Int32) (M : eM), fX11_common_4 n x2 x3 M = some res → Scr M res.2 := by
  intro n
  induction n with
  | zero => intro x2 x3 M hf; cases hf
  | succ n ih =>
    intro x2 x3 M hf
    replace hf := (fX11_common_4.eq_2 ..).symm.trans hf
    rcases ea_if_s hf with ⟨_, hf⟩ | ⟨_, hf⟩
    · exact scr_endi hf Scr.rf
    · obtain ⟨_, hf⟩ := ea_ck_s hf
      exact Scr.trans Scr.rf (ih _ _ _ hf)
theorem sX11_common_0 {res : Int32 × eM} : ∀ (x0 : Int32) (x1 : Int32) (M : eM), fX11_common_0 x0 x1 M = some res → Scr M res.2 := by
  intro x0 x1 M hf
  replace hf := (fX11_common_0.eq_1 ..).symm.trans hf
  exact Scr.trans Scr.rf (sX11_common_4 ea_N _ _ _ hf)
theorem sX11_common {res : Int32 × eM} {x0 : Int32} {x1 : Int32} {M : eM} (hf : fX11_common x0 x1 M = some res) : Scr M res.2 := sX11_common_0 _ _ _ hf
theorem sX11_count_0 {res : Int32 × eM} : ∀ (x1 : Int32) (M : eM), fX11_count_0 x1 M = some res → Scr M res.2 := by
  intro x1 M hf
  replace hf := (fX11_count_0.eq_1 ..).symm.trans hf
  rcases ea_if_s hf with ⟨_, hf⟩ | ⟨_, hf⟩
  · exact scr_endi hf Scr.rf
  · rcases ea_if_s hf with ⟨_, hf⟩ | ⟨_, hf⟩
    · exact scr_endi hf Scr.rf
    · rcases ea_if_s hf with ⟨_, hf⟩ | ⟨_, hf⟩
      · exact scr_endi hf Scr.rf
      · rcases ea_if_s hf with ⟨_, hf⟩ | ⟨_, hf⟩
        · exact scr_endi hf Scr.rf
        · rcases ea_if_s hf with ⟨_, hf⟩ | ⟨_, hf⟩
          · exact scr_endi hf Scr.rf
          · rcases ea_if_s hf with ⟨_, hf⟩ | ⟨_, hf⟩
            · exact scr_endi hf Scr.rf
            · exact scr_endi hf Scr.rf
theorem sX11_count {res : Int32 × eM} {x1 : Int32} {M : eM} (hf : fX11_count x1 M = some res) : Scr M res.2 := sX11_count_0 _ _ hf
theorem sX11_draw_0 {res : Int32 × eM} : ∀ (x1 : Int32) (M : eM), fX11_draw_0 x1 M = some res → Scr M res.2 := by
  intro x1 M hf
  replace hf := (fX11_draw_0.eq_1 ..).symm.trans hf
  obtain ⟨_, hf⟩ := ea_ck_s hf
  exact scr_endi hf (Scr.rf.pL)
theorem sX11_draw {res : Int32 × eM} {x1 : Int32} {M : eM} (hf : fX11_draw x1 M = some res) : Scr M res.2 := sX11_draw_0 _ _ hf
theorem sX11_thread_65 {res : Int32 × eM} {k3 : Int32 → Int32 → Int32 → Int32 → Int32 → eM → Option (Int32 × eM)} (hk3 : ∀ (x1 : Int32) (x2 : Int32) (x3 : Int32) (x4 : Int32) (x5 : Int32) (M : eM), k3 x1 x2 x3 x4 x5 M = some res → Scr M res.2) : ∀ (x1 : Int32) (x2 : Int32) (x3 : Int32) (x4 : Int32) (x5 : Int32) (M : eM), fX11_thread_65 k3 x1 x2 x3 x4 x5 M = some res → Scr M res.2 := by
  intro x1 x2 x3 x4 x5 M hf
  replace hf := (fX11_thread_65.eq_1 ..).symm.trans hf
  exact Scr.trans Scr.rf (hk3 _ _ _ _ _ _ hf)
theorem sX11_thread_3 {res : Int32 × eM} : ∀ (n : Nat) (x1 : Int32) (x2 : Int32) (x3 : Int32) (x4 : Int32) (x5 : Int32) (M : eM), fX11_thread_3 n x1 x2 x3 x4 x5 M = some res → Scr M res.2 := by
  intro n
  induction n with
  | zero => intro x1 x2 x3 x4 x5 M hf; cases hf
  | succ n ih =>
    intro x1 x2 x3 x4 x5 M hf
    replace hf := (fX11_thread_3.eq_2 ..).symm.trans hf
    rcases ea_if_s hf with ⟨_, hf⟩ | ⟨_, hf⟩
    · exact scr_endi hf Scr.rf
    · obtain ⟨_, hf⟩ := ea_ck_s hf
      rcases ea_if_s hf with ⟨_, hf⟩ | ⟨_, hf⟩
      · obtain ⟨_, hf⟩ := ea_ck_s hf
        rcases ea_if_s hf with ⟨_, hf⟩ | ⟨_, hf⟩
        · obtain ⟨_, hf⟩ := ea_ck_s hf
          rcases ea_if_s hf with ⟨_, hf⟩ | ⟨_, hf⟩
          · rcases ea_if_s hf with ⟨_, hf⟩ | ⟨_, hf⟩
            · exact scr_endi hf Scr.rf
            · obtain ⟨_, hf⟩ := ea_ck_s hf
              rcases ea_if_s hf with ⟨_, hf⟩ | ⟨_, hf⟩
              · exact scr_endi hf Scr.rf
              · exact Scr.trans Scr.rf (sX11_thread_65 ih _ _ _ _ _ _ hf)
          · exact Scr.trans Scr.rf (sX11_thread_65 ih _ _ _ _ _ _ hf)
        · exact Scr.trans Scr.rf (sX11_thread_65 ih _ _ _ _ _ _ hf)
      · exact Scr.trans Scr.rf (sX11_thread_65 ih _ _ _ _ _ _ hf)
theorem sX11_thread_0 {res : Int32 × eM} : ∀ (x1 : Int32) (x2 : Int32) (x3 : Int32) (x4 : Int32) (M : eM), fX11_thread_0 x1 x2 x3 x4 M = some res → Scr M res.2 := by
  intro x1 x2 x3 x4 M hf
  replace hf := (fX11_thread_0.eq_1 ..).symm.trans hf
  exact Scr.trans Scr.rf (sX11_thread_3 ea_N _ _ _ _ _ _ hf)
theorem sX11_thread {res : Int32 × eM} {x1 : Int32} {x2 : Int32} {x3 : Int32} {x4 : Int32} {M : eM} (hf : fX11_thread x1 x2 x3 x4 M = some res) : Scr M res.2 := sX11_thread_0 _ _ _ _ _ hf
theorem sX11_drawThread_48 {res : Int32 × eM} : ∀ (x1 : Int32) (x2 : Int32) (M : eM), fX11_drawThread_48 x1 x2 M = some res → Scr M res.2 := by
  intro x1 x2 M hf
  replace hf := (fX11_drawThread_48.eq_1 ..).symm.trans hf
  obtain ⟨r2, M3, he, hf⟩ := ea_ci_s hf
  have hs := Scr.trans Scr.rf (sX11_thread he)
  exact scr_endi hf hs
theorem sX11_drawThread_82 {res : Int32 × eM} : ∀ (x1 : Int32) (x2 : Int32) (t0 : Int32) (M : eM), fX11_drawThread_82 x1 x2 t0 M = some res → Scr M res.2 := by
  intro x1 x2 t0 M hf
  replace hf := (fX11_drawThread_82.eq_1 ..).symm.trans hf
  obtain ⟨r2, M3, he, hf⟩ := ea_ci_s hf
  have hs := Scr.trans Scr.rf (sX11_draw he)
  rcases ea_if_s hf with ⟨_, hf⟩ | ⟨_, hf⟩
  · obtain ⟨r6, M7, he, hf⟩ := ea_ci_s hf
    have hs := Scr.trans hs (sX11_thread he)
    exact scr_endi hf hs
  · obtain ⟨r9, M10, he, hf⟩ := ea_ci_s hf
    have hs := Scr.trans hs (sX11_thread he)
    exact scr_endi hf hs
theorem sX11_drawThread_0 {res : Int32 × eM} : ∀ (M : eM), fX11_drawThread_0 M = some res → Scr M res.2 := by
  intro M hf
  replace hf := (fX11_drawThread_0.eq_1 ..).symm.trans hf
  obtain ⟨r2, M3, he, hf⟩ := ea_ci_s hf
  have hs := Scr.trans Scr.rf (sX11_draw he)
  obtain ⟨r5, M6, he, hf⟩ := ea_ci_s hf
  have hs := Scr.trans hs (sX11_draw he)
  obtain ⟨r8, M9, he, hf⟩ := ea_ci_s hf
  have hs := Scr.trans hs (sX11_draw he)
  rcases ea_if_s hf with ⟨_, hf⟩ | ⟨_, hf⟩
  · rcases ea_if_s hf with ⟨_, hf⟩ | ⟨_, hf⟩
    · exact Scr.trans hs (sX11_drawThread_48 _ _ _ hf)
    · rcases ea_if_s hf with ⟨_, hf⟩ | ⟨_, hf⟩
      · obtain ⟨r14, M15, he, hf⟩ := ea_ci_s hf
        have hs := Scr.trans hs (sX11_draw he)
        rcases ea_if_s hf with ⟨_, hf⟩ | ⟨_, hf⟩
        · exact Scr.trans hs (sX11_drawThread_82 _ _ _ _ hf)
        · exact Scr.trans hs (sX11_drawThread_82 _ _ _ _ hf)
      · exact Scr.trans hs (sX11_drawThread_48 _ _ _ hf)
  · exact Scr.trans hs (sX11_drawThread_48 _ _ _ hf)
theorem sX11_drawThread {res : Int32 × eM} {M : eM} (hf : fX11_drawThread M = some res) : Scr M res.2 := sX11_drawThread_0  _ hf
theorem sX11_fault_0 {res : Int32 × eM} : ∀ (x1 : Int32) (M : eM), fX11_fault_0 x1 M = some res → Scr M res.2 := by
  intro x1 M hf
  replace hf := (fX11_fault_0.eq_1 ..).symm.trans hf
  rcases ea_if_s hf with ⟨_, hf⟩ | ⟨_, hf⟩
  · exact scr_endi hf Scr.rf
  · rcases ea_if_s hf with ⟨_, hf⟩ | ⟨_, hf⟩
    · exact scr_endi hf Scr.rf
    · exact scr_endi hf Scr.rf
theorem sX11_fault {res : Int32 × eM} {x1 : Int32} {M : eM} (hf : fX11_fault x1 M = some res) : Scr M res.2 := sX11_fault_0 _ _ hf
theorem sX11_fit_0 {res : Int32 × eM} : ∀ (x1 : Int32) (x2 : Int32) (x3 : Int32) (x4 : Int32) (M : eM), fX11_fit_0 x1 x2 x3 x4 M = some res → Scr M res.2 := by
  intro x1 x2 x3 x4 M hf
  replace hf := (fX11_fit_0.eq_1 ..).symm.trans hf
  obtain ⟨r2, M3, he, hf⟩ := ea_ci_s hf
  have hs := Scr.trans Scr.rf (sX11_isAsked he)
  rcases ea_if_s hf with ⟨_, hf⟩ | ⟨_, hf⟩
  · exact scr_endi hf hs
  · obtain ⟨r6, M7, he, hf⟩ := ea_ci_s hf
    have hs := Scr.trans hs (sX11_in he)
    rcases ea_if_s hf with ⟨_, hf⟩ | ⟨_, hf⟩
    · exact scr_endi hf hs
    · obtain ⟨M10, he, hf⟩ := ea_cv_s hf
      have hs := Scr.trans hs (sX11_findFits he)
      rcases ea_if_s hf with ⟨_, hf⟩ | ⟨_, hf⟩
      · rcases ea_if_s hf with ⟨_, hf⟩ | ⟨_, hf⟩
        · exact scr_endi hf hs
        · rcases ea_if_s hf with ⟨_, hf⟩ | ⟨_, hf⟩
          · exact scr_endi hf hs
          · exact scr_endi hf hs
      · rcases ea_if_s hf with ⟨_, hf⟩ | ⟨_, hf⟩
        · exact scr_endi hf hs
        · exact scr_endi hf hs
theorem sX11_fit {res : Int32 × eM} {x1 : Int32} {x2 : Int32} {x3 : Int32} {x4 : Int32} {M : eM} (hf : fX11_fit x1 x2 x3 x4 M = some res) : Scr M res.2 := sX11_fit_0 _ _ _ _ _ hf
theorem sX11_grey_0 {res : Int32 × eM} : ∀ (x1 : Int32) (x2 : Int32) (x3 : Int32) (x4 : Int32) (x5 : Int32) (M : eM), fX11_grey_0 x1 x2 x3 x4 x5 M = some res → Scr M res.2 := by
  intro x1 x2 x3 x4 x5 M hf
  replace hf := (fX11_grey_0.eq_1 ..).symm.trans hf
  obtain ⟨r2, M3, he, hf⟩ := ea_ci_s hf
  have hs := Scr.trans Scr.rf (sX11_isAsked he)
  rcases ea_if_s hf with ⟨_, hf⟩ | ⟨_, hf⟩
  · exact scr_endi hf hs
  · obtain ⟨r6, M7, he, hf⟩ := ea_ci_s hf
    have hs := Scr.trans hs (sX11_isBound he)
    rcases ea_if_s hf with ⟨_, hf⟩ | ⟨_, hf⟩
    · exact scr_endi hf hs
    · obtain ⟨r10, M11, he, hf⟩ := ea_ci_s hf
      have hs := Scr.trans hs (sX11_isColour he)
      rcases ea_if_s hf with ⟨_, hf⟩ | ⟨_, hf⟩
      · exact scr_endi hf hs
      · obtain ⟨M14, he, hf⟩ := ea_cv_s hf
        have hs := Scr.trans hs (sX11_findFits he)
        obtain ⟨r16, M17, he, hf⟩ := ea_ci_s hf
        have hs := Scr.trans hs (sX11_greyOf he)
        exact scr_endi hf hs
theorem sX11_grey {res : Int32 × eM} {x1 : Int32} {x2 : Int32} {x3 : Int32} {x4 : Int32} {x5 : Int32} {M : eM} (hf : fX11_grey x1 x2 x3 x4 x5 M = some res) : Scr M res.2 := sX11_grey_0 _ _ _ _ _ _ hf
theorem sX11_hours_0 {res : Int32 × eM} : ∀ (x1 : Int32) (x2 : Int32) (x3 : Int32) (x4 : Int32) (M : eM), fX11_hours_0 x1 x2 x3 x4 M = some res → Scr M res.2 := by
  intro x1 x2 x3 x4 M hf
  replace hf := (fX11_hours_0.eq_1 ..).symm.trans hf
  obtain ⟨r2, M3, he, hf⟩ := ea_ci_s hf
  have hs := Scr.trans Scr.rf (sX11_isStory he)
  rcases ea_if_s hf with ⟨_, hf⟩ | ⟨_, hf⟩
  · exact scr_endi hf hs
  · obtain ⟨r6, M7, he, hf⟩ := ea_ci_s hf
    have hs := Scr.trans hs (sX11_in he)
    rcases ea_if_s hf with ⟨_, hf⟩ | ⟨_, hf⟩
    · exact scr_endi hf hs
    · obtain ⟨r10, M11, he, hf⟩ := ea_ci_s hf
      have hs := Scr.trans hs (sX11_in he)
      rcases ea_if_s hf with ⟨_, hf⟩ | ⟨_, hf⟩
      · exact scr_endi hf hs
      · obtain ⟨r14, M15, he, hf⟩ := ea_ci_s hf
        have hs := Scr.trans hs (sX11_in he)
        rcases ea_if_s hf with ⟨_, hf⟩ | ⟨_, hf⟩
        · exact scr_endi hf hs
        · obtain ⟨r18, M19, he, hf⟩ := ea_ci_s hf
          have hs := Scr.trans hs (sX11_hoursOf he)
          exact scr_endi hf hs
theorem sX11_hours {res : Int32 × eM} {x1 : Int32} {x2 : Int32} {x3 : Int32} {x4 : Int32} {M : eM} (hf : fX11_hours x1 x2 x3 x4 M = some res) : Scr M res.2 := sX11_hours_0 _ _ _ _ _ hf
theorem sX11_isSlot_0 {res : Int32 × eM} : ∀ (x0 : Int32) (M : eM), fX11_isSlot_0 x0 M = some res → Scr M res.2 := by
  intro x0 M hf
  replace hf := (fX11_isSlot_0.eq_1 ..).symm.trans hf
  obtain ⟨r2, M3, he, hf⟩ := ea_ci_s hf
  have hs := Scr.trans Scr.rf (sX11_in he)
  obtain ⟨_, hf⟩ := ea_ck_s hf
  exact scr_endi hf hs
theorem sX11_isSlot {res : Int32 × eM} {x0 : Int32} {M : eM} (hf : fX11_isSlot x0 M = some res) : Scr M res.2 := sX11_isSlot_0 _ _ hf
theorem sX11_isStuff_0 {res : Int32 × eM} : ∀ (x1 : Int32) (M : eM), fX11_isStuff_0 x1 M = some res → Scr M res.2 := by
  intro x1 M hf
  replace hf := (fX11_isStuff_0.eq_1 ..).symm.trans hf
  obtain ⟨r2, M3, he, hf⟩ := ea_ci_s hf
  have hs := Scr.trans Scr.rf (sX11_in he)
  obtain ⟨_, hf⟩ := ea_ck_s hf
  exact scr_endi hf hs
theorem sX11_isStuff {res : Int32 × eM} {x1 : Int32} {M : eM} (hf : fX11_isStuff x1 M = some res) : Scr M res.2 := sX11_isStuff_0 _ _ hf
theorem sX11_lightBack_137 {res : Int32 × eM} {k87 : Int32 → Int32 → Int32 → Int32 → Int32 → Int32 → Int32 → eM → Option (Int32 × eM)} (hk87 : ∀ (x3 : Int32) (x5 : Int32) (x6 : Int32) (x7 : Int32) (x8 : Int32) (x9 : Int32) (x10 : Int32) (M : eM), k87 x3 x5 x6 x7 x8 x9 x10 M = some res → Scr M res.2) : ∀ (x3 : Int32) (x5 : Int32) (x6 : Int32) (x7 : Int32) (x8 : Int32) (x10 : Int32) (t0 : Int32) (M : eM), fX11_lightBack_137 k87 x3 x5 x6 x7 x8 x10 t0 M = some res → Scr M res.2 := by
  intro x3 x5 x6 x7 x8 x10 t0 M hf
  replace hf := (fX11_lightBack_137.eq_1 ..).symm.trans hf
  exact Scr.trans Scr.rf (hk87 _ _ _ _ _ _ _ _ hf)
theorem sX11_lightBack_87 {res : Int32 × eM} {k145 : Int32 → Int32 → Int32 → Int32 → Int32 → Int32 → eM → Option (Int32 × eM)} (hk145 : ∀ (x3 : Int32) (x5 : Int32) (x6 : Int32) (x7 : Int32) (x8 : Int32) (x9 : Int32) (M : eM), k145 x3 x5 x6 x7 x8 x9 M = some res → Scr M res.2) : ∀ (n : Nat) (x3 : Int32) (x5 : Int32) (x6 : Int32) (x7 : Int32) (x8 : Int32) (x9 : Int32) (x10 : Int32) (M : eM), fX11_lightBack_87 k145 n x3 x5 x6 x7 x8 x9 x10 M = some res → Scr M res.2 := by
  intro n
  induction n with
  | zero => intro x3 x5 x6 x7 x8 x9 x10 M hf; cases hf
  | succ n ih =>
    intro x3 x5 x6 x7 x8 x9 x10 M hf
    replace hf := (fX11_lightBack_87.eq_2 ..).symm.trans hf
    rcases ea_if_s hf with ⟨_, hf⟩ | ⟨_, hf⟩
    · exact Scr.trans Scr.rf (hk145 _ _ _ _ _ _ _ hf)
    · rcases ea_if_s hf with ⟨_, hf⟩ | ⟨_, hf⟩
      · exact Scr.trans Scr.rf (hk145 _ _ _ _ _ _ _ hf)
      · obtain ⟨r4, M5, he, hf⟩ := ea_ci_s hf
        have hs := Scr.trans Scr.rf (sX11_colourOf he)
        obtain ⟨_, hf⟩ := ea_ck_s hf
        obtain ⟨r8, M9, he, hf⟩ := ea_ci_s hf
        have hs := Scr.trans hs (sX11_plain he)
        rcases ea_if_s hf with ⟨_, hf⟩ | ⟨_, hf⟩
        · exact Scr.trans hs (sX11_lightBack_137 ih _ _ _ _ _ _ _ _ hf)
        · exact Scr.trans hs (sX11_lightBack_137 ih _ _ _ _ _ _ _ _ hf)
theorem sX11_lightBack_165 {res : Int32 × eM} {k73 : Int32 → Int32 → Int32 → Int32 → Int32 → eM → Option (Int32 × eM)} (hk73 : ∀ (x3 : Int32) (x5 : Int32) (x6 : Int32) (x7 : Int32) (x8 : Int32) (M : eM), k73 x3 x5 x6 x7 x8 M = some res → Scr M res.2) : ∀ (x3 : Int32) (x5 : Int32) (x6 : Int32) (x7 : Int32) (x8 : Int32) (M : eM), fX11_lightBack_165 k73 x3 x5 x6 x7 x8 M = some res → Scr M res.2 := by
  intro x3 x5 x6 x7 x8 M hf
  replace hf := (fX11_lightBack_165.eq_1 ..).symm.trans hf
  exact Scr.trans Scr.rf (hk73 _ _ _ _ _ _ hf)
theorem sX11_lightBack_161 {res : Int32 × eM} {k73 : Int32 → Int32 → Int32 → Int32 → Int32 → eM → Option (Int32 × eM)} (hk73 : ∀ (x3 : Int32) (x5 : Int32) (x6 : Int32) (x7 : Int32) (x8 : Int32) (M : eM), k73 x3 x5 x6 x7 x8 M = some res → Scr M res.2) : ∀ (x3 : Int32) (x5 : Int32) (x6 : Int32) (x8 : Int32) (M : eM), fX11_lightBack_161 k73 x3 x5 x6 x8 M = some res → Scr M res.2 := by
  intro x3 x5 x6 x8 M hf
  replace hf := (fX11_lightBack_161.eq_1 ..).symm.trans hf
  exact Scr.trans Scr.rf (sX11_lightBack_165 hk73 _ _ _ _ _ _ hf)
theorem sX11_lightBack_145 {res : Int32 × eM} {k73 : Int32 → Int32 → Int32 → Int32 → Int32 → eM → Option (Int32 × eM)} (hk73 : ∀ (x3 : Int32) (x5 : Int32) (x6 : Int32) (x7 : Int32) (x8 : Int32) (M : eM), k73 x3 x5 x6 x7 x8 M = some res → Scr M res.2) : ∀ (x3 : Int32) (x5 : Int32) (x6 : Int32) (x7 : Int32) (x8 : Int32) (x9 : Int32) (M : eM), fX11_lightBack_145 k73 x3 x5 x6 x7 x8 x9 M = some res → Scr M res.2 := by
  intro x3 x5 x6 x7 x8 x9 M hf
  replace hf := (fX11_lightBack_145.eq_1 ..).symm.trans hf
  rcases ea_if_s hf with ⟨_, hf⟩ | ⟨_, hf⟩
  · exact Scr.trans Scr.rf (sX11_lightBack_165 hk73 _ _ _ _ _ _ hf)
  · rcases ea_if_s hf with ⟨_, hf⟩ | ⟨_, hf⟩
    · rcases ea_if_s hf with ⟨_, hf⟩ | ⟨_, hf⟩
      · exact Scr.trans Scr.rf (sX11_lightBack_161 hk73 _ _ _ _ _ hf)
      · exact Scr.trans Scr.rf (sX11_lightBack_165 hk73 _ _ _ _ _ _ hf)
    · exact Scr.trans Scr.rf (sX11_lightBack_161 hk73 _ _ _ _ _ hf)
theorem sX11_lightBack_73 {res : Int32 × eM} : ∀ (n : Nat) (x3 : Int32) (x5 : Int32) (x6 : Int32) (x7 : Int32) (x8 : Int32) (M : eM), fX11_lightBack_73 n x3 x5 x6 x7 x8 M = some res → Scr M res.2 := by
  intro n
  induction n with
  | zero => intro x3 x5 x6 x7 x8 M hf; cases hf
  | succ n ih =>
    intro x3 x5 x6 x7 x8 M hf
    replace hf := (fX11_lightBack_73.eq_2 ..).symm.trans hf
    rcases ea_if_s hf with ⟨_, hf⟩ | ⟨_, hf⟩
    · exact scr_endi hf Scr.rf
    · exact Scr.trans Scr.rf (sX11_lightBack_87 (sX11_lightBack_145 ih) ea_N _ _ _ _ _ _ _ _ hf)
theorem sX11_lightBack_0 {res : Int32 × eM} : ∀ (x1 : Int32) (x2 : Int32) (x3 : Int32) (x4 : Int32) (x5 : Int32) (M : eM), fX11_lightBack_0 x1 x2 x3 x4 x5 M = some res → Scr M res.2 := by
  intro x1 x2 x3 x4 x5 M hf
  replace hf := (fX11_lightBack_0.eq_1 ..).symm.trans hf
  obtain ⟨r2, M3, he, hf⟩ := ea_ci_s hf
  have hs := Scr.trans Scr.rf (sX11_isCell he)
  rcases ea_if_s hf with ⟨_, hf⟩ | ⟨_, hf⟩
  · exact scr_endi hf hs
  · obtain ⟨r6, M7, he, hf⟩ := ea_ci_s hf
    have hs := Scr.trans hs (sX11_in he)
    rcases ea_if_s hf with ⟨_, hf⟩ | ⟨_, hf⟩
    · exact scr_endi hf hs
    · obtain ⟨r10, M11, he, hf⟩ := ea_ci_s hf
      have hs := Scr.trans hs (sX11_isThread he)
      rcases ea_if_s hf with ⟨_, hf⟩ | ⟨_, hf⟩
      · exact scr_endi hf hs
      · obtain ⟨r14, M15, he, hf⟩ := ea_ci_s hf
        have hs := Scr.trans hs (sX11_isStep he)
        rcases ea_if_s hf with ⟨_, hf⟩ | ⟨_, hf⟩
        · exact scr_endi hf hs
        · obtain ⟨r18, M19, he, hf⟩ := ea_ci_s hf
          have hs := Scr.trans hs (sX11_lookAt he)
          rcases ea_if_s hf with ⟨_, hf⟩ | ⟨_, hf⟩
          · exact scr_endi hf hs
          · obtain ⟨_, hf⟩ := ea_ck_s hf
            rcases ea_if_s hf with ⟨_, hf⟩ | ⟨_, hf⟩
            · exact scr_endi hf hs
            · exact Scr.trans hs (sX11_lightBack_73 ea_N _ _ _ _ _ _ hf)
theorem sX11_lightBack {res : Int32 × eM} {x1 : Int32} {x2 : Int32} {x3 : Int32} {x4 : Int32} {x5 : Int32} {M : eM} (hf : fX11_lightBack x1 x2 x3 x4 x5 M = some res) : Scr M res.2 := sX11_lightBack_0 _ _ _ _ _ _ hf
theorem sX11_mark_2 {res : eM} {a1 : Nat} (ha1 : ∀ k, isInv a1 k = false) {k20 : eM → Option (eM)} (hk20 : ∀ (M : eM), k20 M = some res → Scr M res) : ∀ (n : Nat) (x2 : Int32) (M : eM), fX11_mark_2 k20 a1 n x2 M = some res → Scr M res := by
  intro n
  induction n with
  | zero => intro x2 M hf; cases hf
  | succ n ih =>
    intro x2 M hf
    replace hf := (fX11_mark_2.eq_2 ..).symm.trans hf
    rcases ea_if_s hf with ⟨_, hf⟩ | ⟨_, hf⟩
    · exact Scr.trans Scr.rf (hk20 _ hf)
    · obtain ⟨_, hf⟩ := ea_ck_s hf
      exact Scr.trans (Scr.rf.pI (ha1 _)) (ih _ _ hf)
theorem sX11_mark_22 {res : eM} {a1 : Nat} (ha1 : ∀ k, isInv a1 k = false) : ∀ (n : Nat) (x2 : Int32) (M : eM), fX11_mark_22 a1 n x2 M = some res → Scr M res := by
  intro n
  induction n with
  | zero => intro x2 M hf; cases hf
  | succ n ih =>
    intro x2 M hf
    replace hf := (fX11_mark_22.eq_2 ..).symm.trans hf
    rcases ea_if_s hf with ⟨_, hf⟩ | ⟨_, hf⟩
    · exact scr_endv hf Scr.rf
    · obtain ⟨_, hf⟩ := ea_ck_s hf
      obtain ⟨_, hf⟩ := ea_ck_s hf
      exact Scr.trans (Scr.rf.pI (ha1 _)) (ih _ _ hf)
theorem sX11_mark_20 {res : eM} {a1 : Nat} (ha1 : ∀ k, isInv a1 k = false) : ∀ (M : eM), fX11_mark_20 a1 M = some res → Scr M res := by
  intro M hf
  replace hf := (fX11_mark_20.eq_1 ..).symm.trans hf
  exact Scr.trans Scr.rf (sX11_mark_22 ha1 ea_N _ _ hf)
theorem sX11_mark_0 {res : eM} {a1 : Nat} (ha1 : ∀ k, isInv a1 k = false) : ∀ (M : eM), fX11_mark_0 a1 M = some res → Scr M res := by
  intro M hf
  replace hf := (fX11_mark_0.eq_1 ..).symm.trans hf
  exact Scr.trans Scr.rf (sX11_mark_2 ha1 (sX11_mark_20 ha1) ea_N _ _ hf)
theorem sX11_mark {res : eM} {a1 : Nat} (ha1 : ∀ k, isInv a1 k = false) {M : eM} (hf : fX11_mark a1 M = some res) : Scr M res := sX11_mark_0 ha1  _ hf
theorem sX11_mended_52 {res : Int32 × eM} {k26 : Int32 → Int32 → eM → Option (Int32 × eM)} (hk26 : ∀ (x4 : Int32) (x5 : Int32) (M : eM), k26 x4 x5 M = some res → Scr M res.2) : ∀ (x5 : Int32) (t0 : Int32) (t1 : Int32) (M : eM), fX11_mended_52 k26 x5 t0 t1 M = some res → Scr M res.2 := by
  intro x5 t0 t1 M hf
  replace hf := (fX11_mended_52.eq_1 ..).symm.trans hf
  exact Scr.trans Scr.rf (hk26 _ _ _ hf)
theorem sX11_mended_26 {res : Int32 × eM} {k61 : Int32 → eM → Option (Int32 × eM)} (hk61 : ∀ (x4 : Int32) (M : eM), k61 x4 M = some res → Scr M res.2) : ∀ (n : Nat) (x4 : Int32) (x5 : Int32) (M : eM), fX11_mended_26 k61 n x4 x5 M = some res → Scr M res.2 := by
  intro n
  induction n with
  | zero => intro x4 x5 M hf; cases hf
  | succ n ih =>
    intro x4 x5 M hf
    replace hf := (fX11_mended_26.eq_2 ..).symm.trans hf
    rcases ea_if_s hf with ⟨_, hf⟩ | ⟨_, hf⟩
    · exact Scr.trans Scr.rf (hk61 _ _ hf)
    · obtain ⟨_, hf⟩ := ea_ck_s hf
      rcases ea_if_s hf with ⟨_, hf⟩ | ⟨_, hf⟩
      · exact Scr.trans Scr.rf (sX11_mended_52 ih _ _ _ _ hf)
      · exact Scr.trans Scr.rf (sX11_mended_52 ih _ _ _ _ hf)
theorem sX11_mended_61 {res : Int32 × eM} : ∀ (x4 : Int32) (M : eM), fX11_mended_61 x4 M = some res → Scr M res.2 := by
  intro x4 M hf
  replace hf := (fX11_mended_61.eq_1 ..).symm.trans hf
  rcases ea_if_s hf with ⟨_, hf⟩ | ⟨_, hf⟩
  · exact scr_endi hf Scr.rf
  · rcases ea_if_s hf with ⟨_, hf⟩ | ⟨_, hf⟩
    · exact scr_endi hf Scr.rf
    · rcases ea_if_s hf with ⟨_, hf⟩ | ⟨_, hf⟩
      · exact scr_endi hf Scr.rf
      · exact scr_endi hf Scr.rf
theorem sX11_mended_0 {res : Int32 × eM} : ∀ (x1 : Int32) (x2 : Int32) (x3 : Int32) (M : eM), fX11_mended_0 x1 x2 x3 M = some res → Scr M res.2 := by
  intro x1 x2 x3 M hf
  replace hf := (fX11_mended_0.eq_1 ..).symm.trans hf
  obtain ⟨r2, M3, he, hf⟩ := ea_ci_s hf
  have hs := Scr.trans Scr.rf (sX11_isAsked he)
  rcases ea_if_s hf with ⟨_, hf⟩ | ⟨_, hf⟩
  · exact scr_endi hf hs
  · obtain ⟨M6, he, hf⟩ := ea_cv_s hf
    have hs := Scr.trans hs (sX11_findFits he)
    exact Scr.trans hs (sX11_mended_26 (sX11_mended_61) ea_N _ _ _ hf)
theorem sX11_mended {res : Int32 × eM} {x1 : Int32} {x2 : Int32} {x3 : Int32} {M : eM} (hf : fX11_mended x1 x2 x3 M = some res) : Scr M res.2 := sX11_mended_0 _ _ _ _ hf
theorem sX11_mostAlike_3 {res : Int32 × eM} {k25 : Int32 → Int32 → Int32 → eM → Option (Int32 × eM)} (hk25 : ∀ (x1 : Int32) (x2 : Int32) (x3 : Int32) (M : eM), k25 x1 x2 x3 M = some res → Scr M res.2) : ∀ (n : Nat) (x1 : Int32) (x2 : Int32) (x3 : Int32) (x4 : Int32) (M : eM), fX11_mostAlike_3 k25 n x1 x2 x3 x4 M = some res → Scr M res.2 := by
  intro n
  induction n with
  | zero => intro x1 x2 x3 x4 M hf; cases hf
  | succ n ih =>
    intro x1 x2 x3 x4 M hf
    replace hf := (fX11_mostAlike_3.eq_2 ..).symm.trans hf
    rcases ea_if_s hf with ⟨_, hf⟩ | ⟨_, hf⟩
    · exact Scr.trans Scr.rf (hk25 _ _ _ _ hf)
    · obtain ⟨_, hf⟩ := ea_ck_s hf
      exact Scr.trans (Scr.rf.pI rfl) (ih _ _ _ _ _ hf)
theorem sX11_mostAlike_122 {res : Int32 × eM} {k157 : Int32 → Int32 → Int32 → Int32 → Int32 → Int32 → Int32 → eM → Option (Int32 × eM)} (hk157 : ∀ (x1 : Int32) (x2 : Int32) (x3 : Int32) (x4 : Int32) (x5 : Int32) (x7 : Int32) (x8 : Int32) (M : eM), k157 x1 x2 x3 x4 x5 x7 x8 M = some res → Scr M res.2) : ∀ (n : Nat) (x1 : Int32) (x2 : Int32) (x3 : Int32) (x4 : Int32) (x5 : Int32) (x7 : Int32) (x8 : Int32) (M : eM), fX11_mostAlike_122 k157 n x1 x2 x3 x4 x5 x7 x8 M = some res → Scr M res.2 := by
  intro n
  induction n with
  | zero => intro x1 x2 x3 x4 x5 x7 x8 M hf; cases hf
  | succ n ih =>
    intro x1 x2 x3 x4 x5 x7 x8 M hf
    replace hf := (fX11_mostAlike_122.eq_2 ..).symm.trans hf
    obtain ⟨_, hf⟩ := ea_ck_s hf
    rcases ea_if_s hf with ⟨_, hf⟩ | ⟨_, hf⟩
    · exact Scr.trans Scr.rf (hk157 _ _ _ _ _ _ _ _ hf)
    · obtain ⟨_, hf⟩ := ea_ck_s hf
      rcases ea_if_s hf with ⟨_, hf⟩ | ⟨_, hf⟩
      · exact Scr.trans Scr.rf (hk157 _ _ _ _ _ _ _ _ hf)
      · obtain ⟨y5, _, hf⟩ := ea_lt_s hf
        exact Scr.trans Scr.rf (ih _ _ _ _ _ _ _ _ hf)
theorem sX11_mostAlike_201 {res : Int32 × eM} {k31 : Int32 → Int32 → Int32 → Int32 → Int32 → eM → Option (Int32 × eM)} (hk31 : ∀ (x1 : Int32) (x2 : Int32) (x3 : Int32) (x4 : Int32) (x5 : Int32) (M : eM), k31 x1 x2 x3 x4 x5 M = some res → Scr M res.2) : ∀ (x1 : Int32) (x2 : Int32) (x3 : Int32) (x5 : Int32) (t0 : Int32) (M : eM), fX11_mostAlike_201 k31 x1 x2 x3 x5 t0 M = some res → Scr M res.2 := by
  intro x1 x2 x3 x5 t0 M hf
  replace hf := (fX11_mostAlike_201.eq_1 ..).symm.trans hf
  exact Scr.trans Scr.rf (hk31 _ _ _ _ _ _ hf)
theorem sX11_mostAlike_157 {res : Int32 × eM} {k31 : Int32 → Int32 → Int32 → Int32 → Int32 → eM → Option (Int32 × eM)} (hk31 : ∀ (x1 : Int32) (x2 : Int32) (x3 : Int32) (x4 : Int32) (x5 : Int32) (M : eM), k31 x1 x2 x3 x4 x5 M = some res → Scr M res.2) : ∀ (x1 : Int32) (x2 : Int32) (x3 : Int32) (x4 : Int32) (x5 : Int32) (x7 : Int32) (x8 : Int32) (M : eM), fX11_mostAlike_157 k31 x1 x2 x3 x4 x5 x7 x8 M = some res → Scr M res.2 := by
  intro x1 x2 x3 x4 x5 x7 x8 M hf
  replace hf := (fX11_mostAlike_157.eq_1 ..).symm.trans hf
  obtain ⟨_, hf⟩ := ea_ck_s hf
  obtain ⟨_, hf⟩ := ea_ck_s hf
  obtain ⟨_, hf⟩ := ea_ck_s hf
  obtain ⟨_, hf⟩ := ea_ck_s hf
  rcases ea_if_s hf with ⟨_, hf⟩ | ⟨_, hf⟩
  · exact Scr.trans ((Scr.rf.pI rfl).pI rfl) (sX11_mostAlike_201 hk31 _ _ _ _ _ _ hf)
  · obtain ⟨_, hf⟩ := ea_ck_s hf
    exact Scr.trans ((Scr.rf.pI rfl).pI rfl) (sX11_mostAlike_201 hk31 _ _ _ _ _ _ hf)
theorem sX11_mostAlike_31 {res : Int32 × eM} : ∀ (n : Nat) (x1 : Int32) (x2 : Int32) (x3 : Int32) (x4 : Int32) (x5 : Int32) (M : eM), fX11_mostAlike_31 n x1 x2 x3 x4 x5 M = some res → Scr M res.2 := by
  intro n
  induction n with
  | zero => intro x1 x2 x3 x4 x5 M hf; cases hf
  | succ n ih =>
    intro x1 x2 x3 x4 x5 M hf
    replace hf := (fX11_mostAlike_31.eq_2 ..).symm.trans hf
    rcases ea_if_s hf with ⟨_, hf⟩ | ⟨_, hf⟩
    · exact scr_endi hf Scr.rf
    · obtain ⟨_, hf⟩ := ea_ck_s hf
      obtain ⟨r4, M5, he, hf⟩ := ea_ci_s hf
      have hs := Scr.trans Scr.rf (sX11_hoursOf he)
      obtain ⟨_, hf⟩ := ea_ck_s hf
      obtain ⟨r8, M9, he, hf⟩ := ea_ci_s hf
      have hs := Scr.trans hs (sX11_colourOf he)
      obtain ⟨_, hf⟩ := ea_ck_s hf
      obtain ⟨r12, M13, he, hf⟩ := ea_ci_s hf
      have hs := Scr.trans hs (sX11_colourOf he)
      obtain ⟨_, hf⟩ := ea_ck_s hf
      obtain ⟨r16, M17, he, hf⟩ := ea_ci_s hf
      have hs := Scr.trans hs (sX11_colourOf he)
      obtain ⟨y18, _, hf⟩ := ea_lt_s hf
      obtain ⟨y20, _, hf⟩ := ea_lt_s hf
      exact Scr.trans hs (sX11_mostAlike_122 (sX11_mostAlike_157 ih) ea_N _ _ _ _ _ _ _ _ hf)
theorem sX11_mostAlike_25 {res : Int32 × eM} : ∀ (x1 : Int32) (x2 : Int32) (x3 : Int32) (M : eM), fX11_mostAlike_25 x1 x2 x3 M = some res → Scr M res.2 := by
  intro x1 x2 x3 M hf
  replace hf := (fX11_mostAlike_25.eq_1 ..).symm.trans hf
  exact Scr.trans Scr.rf (sX11_mostAlike_31 ea_N _ _ _ _ _ _ hf)
theorem sX11_mostAlike_0 {res : Int32 × eM} : ∀ (x1 : Int32) (x2 : Int32) (x3 : Int32) (M : eM), fX11_mostAlike_0 x1 x2 x3 M = some res → Scr M res.2 := by
  intro x1 x2 x3 M hf
  replace hf := (fX11_mostAlike_0.eq_1 ..).symm.trans hf
  exact Scr.trans Scr.rf (sX11_mostAlike_3 (sX11_mostAlike_25) ea_N _ _ _ _ _ hf)
theorem sX11_mostAlike {res : Int32 × eM} {x1 : Int32} {x2 : Int32} {x3 : Int32} {M : eM} (hf : fX11_mostAlike x1 x2 x3 M = some res) : Scr M res.2 := sX11_mostAlike_0 _ _ _ _ hf
theorem sX11_next_154 {res : Int32 × eM} {k33 : Int32 → Int32 → Int32 → Int64 → Int64 → Int32 → eM → Option (Int32 × eM)} (hk33 : ∀ (x1 : Int32) (x2 : Int32) (x3 : Int32) (x4 : Int64) (x6 : Int64) (x8 : Int32) (M : eM), k33 x1 x2 x3 x4 x6 x8 M = some res → Scr M res.2) : ∀ (x1 : Int32) (x2 : Int32) (x3 : Int32) (x4 : Int64) (x6 : Int64) (x8 : Int32) (M : eM), fX11_next_154 k33 x1 x2 x3 x4 x6 x8 M = some res → Scr M res.2 := by
  intro x1 x2 x3 x4 x6 x8 M hf
  replace hf := (fX11_next_154.eq_1 ..).symm.trans hf
  exact Scr.trans Scr.rf (hk33 _ _ _ _ _ _ _ hf)
theorem sX11_next_140 {res : Int32 × eM} {k33 : Int32 → Int32 → Int32 → Int64 → Int64 → Int32 → eM → Option (Int32 × eM)} (hk33 : ∀ (x1 : Int32) (x2 : Int32) (x3 : Int32) (x4 : Int64) (x6 : Int64) (x8 : Int32) (M : eM), k33 x1 x2 x3 x4 x6 x8 M = some res → Scr M res.2) : ∀ (x1 : Int32) (x2 : Int32) (x8 : Int32) (x10 : Int64) (M : eM), fX11_next_140 k33 x1 x2 x8 x10 M = some res → Scr M res.2 := by
  intro x1 x2 x8 x10 M hf
  replace hf := (fX11_next_140.eq_1 ..).symm.trans hf
  exact Scr.trans Scr.rf (sX11_next_154 hk33 _ _ _ _ _ _ _ hf)
theorem sX11_next_76 {res : Int32 × eM} {k33 : Int32 → Int32 → Int32 → Int64 → Int64 → Int32 → eM → Option (Int32 × eM)} (hk33 : ∀ (x1 : Int32) (x2 : Int32) (x3 : Int32) (x4 : Int64) (x6 : Int64) (x8 : Int32) (M : eM), k33 x1 x2 x3 x4 x6 x8 M = some res → Scr M res.2) : ∀ (x1 : Int32) (x2 : Int32) (x3 : Int32) (x4 : Int64) (x6 : Int64) (x8 : Int32) (M : eM), fX11_next_76 k33 x1 x2 x3 x4 x6 x8 M = some res → Scr M res.2 := by
  intro x1 x2 x3 x4 x6 x8 M hf
  replace hf := (fX11_next_76.eq_1 ..).symm.trans hf
  obtain ⟨M2, he, hf⟩ := ea_cv_s hf
  have hs := Scr.trans Scr.rf (sX11_findFits he)
  rcases ea_if_s hf with ⟨_, hf⟩ | ⟨_, hf⟩
  · obtain ⟨_, hf⟩ := ea_ck_s hf
    obtain ⟨r6, M7, he, hf⟩ := ea_ci_s hf
    have hs := Scr.trans hs (sX11_mostAlike he)
    rcases ea_if_s hf with ⟨_, hf⟩ | ⟨_, hf⟩
    · exact Scr.trans hs (sX11_next_140 hk33 _ _ _ _ _ hf)
    · rcases ea_if_s hf with ⟨_, hf⟩ | ⟨_, hf⟩
      · exact Scr.trans hs (sX11_next_140 hk33 _ _ _ _ _ hf)
      · exact Scr.trans hs (sX11_next_154 hk33 _ _ _ _ _ _ _ hf)
  · exact Scr.trans hs (sX11_next_154 hk33 _ _ _ _ _ _ _ hf)
theorem sX11_next_33 {res : Int32 × eM} : ∀ (n : Nat) (x1 : Int32) (x2 : Int32) (x3 : Int32) (x4 : Int64) (x6 : Int64) (x8 : Int32) (M : eM), fX11_next_33 n x1 x2 x3 x4 x6 x8 M = some res → Scr M res.2 := by
  intro n
  induction n with
  | zero => intro x1 x2 x3 x4 x6 x8 M hf; cases hf
  | succ n ih =>
    intro x1 x2 x3 x4 x6 x8 M hf
    replace hf := (fX11_next_33.eq_2 ..).symm.trans hf
    obtain ⟨r2, M3, he, hf⟩ := ea_ci_s hf
    have hs := Scr.trans Scr.rf (sX11_cells he)
    rcases ea_if_s hf with ⟨_, hf⟩ | ⟨_, hf⟩
    · exact scr_endi hf hs
    · obtain ⟨r6, M7, he, hf⟩ := ea_ci_s hf
      have hs := Scr.trans hs (sX11_lookAt he)
      rcases ea_if_s hf with ⟨_, hf⟩ | ⟨_, hf⟩
      · exact Scr.trans hs (sX11_next_76 ih _ _ _ _ _ _ _ hf)
      · obtain ⟨_, hf⟩ := ea_ck_s hf
        rcases ea_if_s hf with ⟨_, hf⟩ | ⟨_, hf⟩
        · exact Scr.trans hs (sX11_next_154 ih _ _ _ _ _ _ _ hf)
        · exact Scr.trans hs (sX11_next_76 ih _ _ _ _ _ _ _ hf)
theorem sX11_next_0 {res : Int32 × eM} : ∀ (x1 : Int32) (x2 : Int32) (M : eM), fX11_next_0 x1 x2 M = some res → Scr M res.2 := by
  intro x1 x2 M hf
  replace hf := (fX11_next_0.eq_1 ..).symm.trans hf
  obtain ⟨r2, M3, he, hf⟩ := ea_ci_s hf
  have hs := Scr.trans Scr.rf (sX11_isStory he)
  rcases ea_if_s hf with ⟨_, hf⟩ | ⟨_, hf⟩
  · exact scr_endi hf hs
  · obtain ⟨r6, M7, he, hf⟩ := ea_ci_s hf
    have hs := Scr.trans hs (sX11_in he)
    rcases ea_if_s hf with ⟨_, hf⟩ | ⟨_, hf⟩
    · exact scr_endi hf hs
    · exact Scr.trans hs (sX11_next_33 ea_N _ _ _ _ _ _ _ hf)
theorem sX11_next {res : Int32 × eM} {x1 : Int32} {x2 : Int32} {M : eM} (hf : fX11_next x1 x2 M = some res) : Scr M res.2 := sX11_next_0 _ _ _ hf
theorem sX11_pair_0 {res : Int32 × eM} : ∀ (x1 : Int32) (x2 : Int32) (x3 : Int32) (x4 : Int32) (x5 : Int32) (M : eM), fX11_pair_0 x1 x2 x3 x4 x5 M = some res → Scr M res.2 := by
  intro x1 x2 x3 x4 x5 M hf
  replace hf := (fX11_pair_0.eq_1 ..).symm.trans hf
  obtain ⟨r2, M3, he, hf⟩ := ea_ci_s hf
  have hs := Scr.trans Scr.rf (sX11_isAsked he)
  rcases ea_if_s hf with ⟨_, hf⟩ | ⟨_, hf⟩
  · exact scr_endi hf hs
  · rcases ea_if_s hf with ⟨_, hf⟩ | ⟨_, hf⟩
    · exact scr_endi hf hs
    · obtain ⟨r7, M8, he, hf⟩ := ea_ci_s hf
      have hs := Scr.trans hs (sX11_in he)
      rcases ea_if_s hf with ⟨_, hf⟩ | ⟨_, hf⟩
      · exact scr_endi hf hs
      · obtain ⟨M11, he, hf⟩ := ea_cv_s hf
        have hs := Scr.trans hs (sX11_findFits he)
        rcases ea_if_s hf with ⟨_, hf⟩ | ⟨_, hf⟩
        · rcases ea_if_s hf with ⟨_, hf⟩ | ⟨_, hf⟩
          · obtain ⟨_, hf⟩ := ea_ck_s hf
            exact scr_endi hf hs
          · obtain ⟨_, hf⟩ := ea_ck_s hf
            exact scr_endi hf hs
        · exact scr_endi hf hs
theorem sX11_pair {res : Int32 × eM} {x1 : Int32} {x2 : Int32} {x3 : Int32} {x4 : Int32} {x5 : Int32} {M : eM} (hf : fX11_pair x1 x2 x3 x4 x5 M = some res) : Scr M res.2 := sX11_pair_0 _ _ _ _ _ _ hf
theorem sX11_shows_0 {res : Int32 × eM} : ∀ (x1 : Int32) (x2 : Int32) (x3 : Int32) (x4 : Int32) (M : eM), fX11_shows_0 x1 x2 x3 x4 M = some res → Scr M res.2 := by
  intro x1 x2 x3 x4 M hf
  replace hf := (fX11_shows_0.eq_1 ..).symm.trans hf
  obtain ⟨r2, M3, he, hf⟩ := ea_ci_s hf
  have hs := Scr.trans Scr.rf (sX11_isCell he)
  rcases ea_if_s hf with ⟨_, hf⟩ | ⟨_, hf⟩
  · exact scr_endi hf hs
  · obtain ⟨r6, M7, he, hf⟩ := ea_ci_s hf
    have hs := Scr.trans hs (sX11_in he)
    rcases ea_if_s hf with ⟨_, hf⟩ | ⟨_, hf⟩
    · exact scr_endi hf hs
    · obtain ⟨r10, M11, he, hf⟩ := ea_ci_s hf
      have hs := Scr.trans hs (sX11_isStep he)
      rcases ea_if_s hf with ⟨_, hf⟩ | ⟨_, hf⟩
      · exact scr_endi hf hs
      · obtain ⟨r14, M15, he, hf⟩ := ea_ci_s hf
        have hs := Scr.trans hs (sX11_isColour he)
        rcases ea_if_s hf with ⟨_, hf⟩ | ⟨_, hf⟩
        · exact scr_endi hf hs
        · obtain ⟨r18, M19, he, hf⟩ := ea_ci_s hf
          have hs := Scr.trans hs (sX11_lookAt he)
          rcases ea_if_s hf with ⟨_, hf⟩ | ⟨_, hf⟩
          · obtain ⟨_, hf⟩ := ea_ck_s hf
            rcases ea_if_s hf with ⟨_, hf⟩ | ⟨_, hf⟩
            · exact scr_endi hf hs
            · obtain ⟨_, hf⟩ := ea_ck_s hf
              exact scr_endi hf hs
          · exact scr_endi hf hs
theorem sX11_shows {res : Int32 × eM} {x1 : Int32} {x2 : Int32} {x3 : Int32} {x4 : Int32} {M : eM} (hf : fX11_shows x1 x2 x3 x4 M = some res) : Scr M res.2 := sX11_shows_0 _ _ _ _ _ hf
theorem sX11_stories_83 {res : Int32 × eM} {k30 : Int32 → Int32 → Int32 → Int32 → Int32 → eM → Option (Int32 × eM)} (hk30 : ∀ (x1 : Int32) (x2 : Int32) (x3 : Int32) (x4 : Int32) (x5 : Int32) (M : eM), k30 x1 x2 x3 x4 x5 M = some res → Scr M res.2) : ∀ (x1 : Int32) (x2 : Int32) (x3 : Int32) (x4 : Int32) (x5 : Int32) (M : eM), fX11_stories_83 k30 x1 x2 x3 x4 x5 M = some res → Scr M res.2 := by
  intro x1 x2 x3 x4 x5 M hf
  replace hf := (fX11_stories_83.eq_1 ..).symm.trans hf
  exact Scr.trans Scr.rf (hk30 _ _ _ _ _ _ hf)
theorem sX11_stories_81 {res : Int32 × eM} {k30 : Int32 → Int32 → Int32 → Int32 → Int32 → eM → Option (Int32 × eM)} (hk30 : ∀ (x1 : Int32) (x2 : Int32) (x3 : Int32) (x4 : Int32) (x5 : Int32) (M : eM), k30 x1 x2 x3 x4 x5 M = some res → Scr M res.2) : ∀ (x1 : Int32) (x2 : Int32) (x3 : Int32) (x5 : Int32) (t0 : Int32) (M : eM), fX11_stories_81 k30 x1 x2 x3 x5 t0 M = some res → Scr M res.2 := by
  intro x1 x2 x3 x5 t0 M hf
  replace hf := (fX11_stories_81.eq_1 ..).symm.trans hf
  exact Scr.trans Scr.rf (sX11_stories_83 hk30 _ _ _ _ _ _ hf)
theorem sX11_stories_30 {res : Int32 × eM} {k89 : Int32 → Int32 → Int32 → Int32 → eM → Option (Int32 × eM)} (hk89 : ∀ (x1 : Int32) (x2 : Int32) (x3 : Int32) (x4 : Int32) (M : eM), k89 x1 x2 x3 x4 M = some res → Scr M res.2) : ∀ (n : Nat) (x1 : Int32) (x2 : Int32) (x3 : Int32) (x4 : Int32) (x5 : Int32) (M : eM), fX11_stories_30 k89 n x1 x2 x3 x4 x5 M = some res → Scr M res.2 := by
  intro n
  induction n with
  | zero => intro x1 x2 x3 x4 x5 M hf; cases hf
  | succ n ih =>
    intro x1 x2 x3 x4 x5 M hf
    replace hf := (fX11_stories_30.eq_2 ..).symm.trans hf
    obtain ⟨r2, M3, he, hf⟩ := ea_ci_s hf
    have hs := Scr.trans Scr.rf (sX11_cells he)
    rcases ea_if_s hf with ⟨_, hf⟩ | ⟨_, hf⟩
    · exact Scr.trans hs (hk89 _ _ _ _ _ hf)
    · rcases ea_if_s hf with ⟨_, hf⟩ | ⟨_, hf⟩
      · exact Scr.trans hs (hk89 _ _ _ _ _ hf)
      · obtain ⟨M7, he, hf⟩ := ea_cv_s hf
        have hs := Scr.trans hs (sX11_findWords he)
        rcases ea_if_s hf with ⟨_, hf⟩ | ⟨_, hf⟩
        · exact Scr.trans hs (sX11_stories_83 ih _ _ _ _ _ _ hf)
        · obtain ⟨M10, he, hf⟩ := ea_cv_s hf
          have hs := Scr.trans hs (sX11_findFits he)
          rcases ea_if_s hf with ⟨_, hf⟩ | ⟨_, hf⟩
          · exact Scr.trans hs (sX11_stories_81 ih _ _ _ _ _ _ hf)
          · exact Scr.trans hs (sX11_stories_81 ih _ _ _ _ _ _ hf)
theorem sX11_stories_102 {res : Int32 × eM} {k14 : Int32 → Int32 → Int32 → eM → Option (Int32 × eM)} (hk14 : ∀ (x1 : Int32) (x2 : Int32) (x3 : Int32) (M : eM), k14 x1 x2 x3 M = some res → Scr M res.2) : ∀ (x1 : Int32) (x3 : Int32) (t0 : Int32) (t1 : Int32) (M : eM), fX11_stories_102 k14 x1 x3 t0 t1 M = some res → Scr M res.2 := by
  intro x1 x3 t0 t1 M hf
  replace hf := (fX11_stories_102.eq_1 ..).symm.trans hf
  exact Scr.trans Scr.rf (hk14 _ _ _ _ hf)
theorem sX11_stories_89 {res : Int32 × eM} {k14 : Int32 → Int32 → Int32 → eM → Option (Int32 × eM)} (hk14 : ∀ (x1 : Int32) (x2 : Int32) (x3 : Int32) (M : eM), k14 x1 x2 x3 M = some res → Scr M res.2) : ∀ (x1 : Int32) (x2 : Int32) (x3 : Int32) (x4 : Int32) (M : eM), fX11_stories_89 k14 x1 x2 x3 x4 M = some res → Scr M res.2 := by
  intro x1 x2 x3 x4 M hf
  replace hf := (fX11_stories_89.eq_1 ..).symm.trans hf
  rcases ea_if_s hf with ⟨_, hf⟩ | ⟨_, hf⟩
  · exact Scr.trans Scr.rf (sX11_stories_102 hk14 _ _ _ _ _ hf)
  · exact Scr.trans Scr.rf (sX11_stories_102 hk14 _ _ _ _ _ hf)
theorem sX11_stories_14 {res : Int32 × eM} : ∀ (n : Nat) (x1 : Int32) (x2 : Int32) (x3 : Int32) (M : eM), fX11_stories_14 n x1 x2 x3 M = some res → Scr M res.2 := by
  intro n
  induction n with
  | zero => intro x1 x2 x3 M hf; cases hf
  | succ n ih =>
    intro x1 x2 x3 M hf
    replace hf := (fX11_stories_14.eq_2 ..).symm.trans hf
    rcases ea_if_s hf with ⟨_, hf⟩ | ⟨_, hf⟩
    · exact scr_endi hf Scr.rf
    · exact Scr.trans Scr.rf (sX11_stories_30 (sX11_stories_89 ih) ea_N _ _ _ _ _ _ hf)
theorem sX11_stories_0 {res : Int32 × eM} : ∀ (x1 : Int32) (M : eM), fX11_stories_0 x1 M = some res → Scr M res.2 := by
  intro x1 M hf
  replace hf := (fX11_stories_0.eq_1 ..).symm.trans hf
  obtain ⟨r2, M3, he, hf⟩ := ea_ci_s hf
  have hs := Scr.trans Scr.rf (sX11_isStep he)
  rcases ea_if_s hf with ⟨_, hf⟩ | ⟨_, hf⟩
  · exact scr_endi hf hs
  · exact Scr.trans hs (sX11_stories_14 ea_N _ _ _ _ hf)
theorem sX11_stories {res : Int32 × eM} {x1 : Int32} {M : eM} (hf : fX11_stories x1 M = some res) : Scr M res.2 := sX11_stories_0 _ _ hf
theorem sX11_strength_0 {res : Int32 × eM} : ∀ (x1 : Int32) (x2 : Int32) (M : eM), fX11_strength_0 x1 x2 M = some res → Scr M res.2 := by
  intro x1 x2 M hf
  replace hf := (fX11_strength_0.eq_1 ..).symm.trans hf
  obtain ⟨r2, M3, he, hf⟩ := ea_ci_s hf
  have hs := Scr.trans Scr.rf (sX11_isStuff he)
  rcases ea_if_s hf with ⟨_, hf⟩ | ⟨_, hf⟩
  · exact scr_endi hf hs
  · obtain ⟨r6, M7, he, hf⟩ := ea_ci_s hf
    have hs := Scr.trans hs (sX11_areHours he)
    rcases ea_if_s hf with ⟨_, hf⟩ | ⟨_, hf⟩
    · exact scr_endi hf hs
    · obtain ⟨r10, M11, he, hf⟩ := ea_ci_s hf
      have hs := Scr.trans hs (sX11_strengthOf he)
      exact scr_endi hf hs
theorem sX11_strength {res : Int32 × eM} {x1 : Int32} {x2 : Int32} {M : eM} (hf : fX11_strength x1 x2 M = some res) : Scr M res.2 := sX11_strength_0 _ _ _ hf
theorem sX11_thrown_0 {res : Int32 × eM} : ∀ (x1 : Int32) (x2 : Int32) (x3 : Int32) (x4 : Int32) (x5 : Int32) (M : eM), fX11_thrown_0 x1 x2 x3 x4 x5 M = some res → Scr M res.2 := by
  intro x1 x2 x3 x4 x5 M hf
  replace hf := (fX11_thrown_0.eq_1 ..).symm.trans hf
  obtain ⟨r2, M3, he, hf⟩ := ea_ci_s hf
  have hs := Scr.trans Scr.rf (sX11_isCell he)
  rcases ea_if_s hf with ⟨_, hf⟩ | ⟨_, hf⟩
  · exact scr_endi hf hs
  · obtain ⟨r6, M7, he, hf⟩ := ea_ci_s hf
    have hs := Scr.trans hs (sX11_isEye he)
    rcases ea_if_s hf with ⟨_, hf⟩ | ⟨_, hf⟩
    · exact scr_endi hf hs
    · obtain ⟨r10, M11, he, hf⟩ := ea_ci_s hf
      have hs := Scr.trans hs (sX11_isStory he)
      rcases ea_if_s hf with ⟨_, hf⟩ | ⟨_, hf⟩
      · exact scr_endi hf hs
      · obtain ⟨r14, M15, he, hf⟩ := ea_ci_s hf
        have hs := Scr.trans hs (sX11_isBound he)
        rcases ea_if_s hf with ⟨_, hf⟩ | ⟨_, hf⟩
        · exact scr_endi hf hs
        · obtain ⟨r18, M19, he, hf⟩ := ea_ci_s hf
          have hs := Scr.trans hs (sX11_in he)
          rcases ea_if_s hf with ⟨_, hf⟩ | ⟨_, hf⟩
          · exact scr_endi hf hs
          · obtain ⟨r22, M23, he, hf⟩ := ea_ci_s hf
            have hs := Scr.trans hs (sX11_frontOf he)
            rcases ea_if_s hf with ⟨_, hf⟩ | ⟨_, hf⟩
            · obtain ⟨M26, he, hf⟩ := ea_cv_s hf
              have hs := Scr.trans hs (sX11_throwLight he)
              rcases ea_if_s hf with ⟨_, hf⟩ | ⟨_, hf⟩
              · exact scr_endi hf hs
              · obtain ⟨_, hf⟩ := ea_ck_s hf
                exact scr_endi hf hs
            · exact scr_endi hf hs
theorem sX11_thrown {res : Int32 × eM} {x1 : Int32} {x2 : Int32} {x3 : Int32} {x4 : Int32} {x5 : Int32} {M : eM} (hf : fX11_thrown x1 x2 x3 x4 x5 M = some res) : Scr M res.2 := sX11_thrown_0 _ _ _ _ _ _ hf
theorem sX11_told_211 {res : Int32 × eM} : ∀ (n : Nat) (x1 : Int32) (x2 : Int32) (x3 : Int32) (M : eM), fX11_told_211 n x1 x2 x3 M = some res → Scr M res.2 := by
  intro n
  induction n with
  | zero => intro x1 x2 x3 M hf; cases hf
  | succ n ih =>
    intro x1 x2 x3 M hf
    replace hf := (fX11_told_211.eq_2 ..).symm.trans hf
    obtain ⟨_, hf⟩ := ea_ck_s hf
    rcases ea_if_s hf with ⟨_, hf⟩ | ⟨_, hf⟩
    · exact scr_endi hf Scr.rf
    · obtain ⟨_, hf⟩ := ea_ck_s hf
      obtain ⟨y4, _, hf⟩ := ea_lt_s hf
      exact Scr.trans Scr.rf (ih _ _ _ _ hf)
theorem sX11_told_0 {res : Int32 × eM} : ∀ (x1 : Int32) (M : eM), fX11_told_0 x1 M = some res → Scr M res.2 := by
  intro x1 M hf
  replace hf := (fX11_told_0.eq_1 ..).symm.trans hf
  obtain ⟨r2, M3, he, hf⟩ := ea_ci_s hf
  have hs := Scr.trans Scr.rf (sX11_in he)
  rcases ea_if_s hf with ⟨_, hf⟩ | ⟨_, hf⟩
  · obtain ⟨r6, M7, he, hf⟩ := ea_ci_s hf
    have hs := Scr.trans hs (sX11_in he)
    rcases ea_if_s hf with ⟨_, hf⟩ | ⟨_, hf⟩
    · obtain ⟨r10, M11, he, hf⟩ := ea_ci_s hf
      have hs := Scr.trans hs (sX11_in he)
      rcases ea_if_s hf with ⟨_, hf⟩ | ⟨_, hf⟩
      · obtain ⟨r14, M15, he, hf⟩ := ea_ci_s hf
        have hs := Scr.trans hs (sX11_isStory he)
        rcases ea_if_s hf with ⟨_, hf⟩ | ⟨_, hf⟩
        · obtain ⟨r18, M19, he, hf⟩ := ea_ci_s hf
          have hs := Scr.trans hs (sX11_isStory he)
          rcases ea_if_s hf with ⟨_, hf⟩ | ⟨_, hf⟩
          · exact scr_endi hf hs
          · exact Scr.trans hs (sX11_told_211 ea_N _ _ _ _ hf)
        · obtain ⟨_, hf⟩ := ea_ck_s hf
          exact scr_endi hf hs
      · obtain ⟨_, hf⟩ := ea_ck_s hf
        exact scr_endi hf hs
    · obtain ⟨_, hf⟩ := ea_ck_s hf
      exact scr_endi hf hs
  · rcases ea_if_s hf with ⟨_, hf⟩ | ⟨_, hf⟩
    · exact scr_endi hf hs
    · rcases ea_if_s hf with ⟨_, hf⟩ | ⟨_, hf⟩
      · exact scr_endi hf hs
      · rcases ea_if_s hf with ⟨_, hf⟩ | ⟨_, hf⟩
        · exact scr_endi hf hs
        · rcases ea_if_s hf with ⟨_, hf⟩ | ⟨_, hf⟩
          · exact scr_endi hf hs
          · rcases ea_if_s hf with ⟨_, hf⟩ | ⟨_, hf⟩
            · exact scr_endi hf hs
            · rcases ea_if_s hf with ⟨_, hf⟩ | ⟨_, hf⟩
              · exact scr_endi hf hs
              · rcases ea_if_s hf with ⟨_, hf⟩ | ⟨_, hf⟩
                · exact scr_endi hf hs
                · exact scr_endi hf hs
theorem sX11_told {res : Int32 × eM} {x1 : Int32} {M : eM} (hf : fX11_told x1 M = some res) : Scr M res.2 := sX11_told_0 _ _ hf
theorem sX11_vat_134 {res : Int32 × eM} {k68 : Int32 → Int32 → Int32 → Int32 → eM → Option (Int32 × eM)} (hk68 : ∀ (x5 : Int32) (x6 : Int32) (x7 : Int32) (x8 : Int32) (M : eM), k68 x5 x6 x7 x8 M = some res → Scr M res.2) : ∀ (x5 : Int32) (x6 : Int32) (x8 : Int32) (t0 : Int32) (t1 : Int32) (M : eM), fX11_vat_134 k68 x5 x6 x8 t0 t1 M = some res → Scr M res.2 := by
  intro x5 x6 x8 t0 t1 M hf
  replace hf := (fX11_vat_134.eq_1 ..).symm.trans hf
  exact Scr.trans Scr.rf (hk68 _ _ _ _ _ hf)
theorem sX11_vat_129 {res : Int32 × eM} {k68 : Int32 → Int32 → Int32 → Int32 → eM → Option (Int32 × eM)} (hk68 : ∀ (x5 : Int32) (x6 : Int32) (x7 : Int32) (x8 : Int32) (M : eM), k68 x5 x6 x7 x8 M = some res → Scr M res.2) : ∀ (x5 : Int32) (x6 : Int32) (x8 : Int32) (t0 : Int32) (M : eM), fX11_vat_129 k68 x5 x6 x8 t0 M = some res → Scr M res.2 := by
  intro x5 x6 x8 t0 M hf
  replace hf := (fX11_vat_129.eq_1 ..).symm.trans hf
  exact Scr.trans Scr.rf (sX11_vat_134 hk68 _ _ _ _ _ _ hf)
theorem sX11_vat_104 {res : Int32 × eM} {k68 : Int32 → Int32 → Int32 → Int32 → eM → Option (Int32 × eM)} (hk68 : ∀ (x5 : Int32) (x6 : Int32) (x7 : Int32) (x8 : Int32) (M : eM), k68 x5 x6 x7 x8 M = some res → Scr M res.2) : ∀ (x5 : Int32) (x7 : Int32) (x8 : Int32) (t0 : Int32) (t1 : Int32) (M : eM), fX11_vat_104 k68 x5 x7 x8 t0 t1 M = some res → Scr M res.2 := by
  intro x5 x7 x8 t0 t1 M hf
  replace hf := (fX11_vat_104.eq_1 ..).symm.trans hf
  obtain ⟨_, hf⟩ := ea_ck_s hf
  rcases ea_if_s hf with ⟨_, hf⟩ | ⟨_, hf⟩
  · obtain ⟨_, hf⟩ := ea_ck_s hf
    rcases ea_if_s hf with ⟨_, hf⟩ | ⟨_, hf⟩
    · exact Scr.trans Scr.rf (sX11_vat_134 hk68 _ _ _ _ _ _ hf)
    · exact Scr.trans Scr.rf (sX11_vat_129 hk68 _ _ _ _ _ hf)
  · exact Scr.trans Scr.rf (sX11_vat_129 hk68 _ _ _ _ _ hf)
theorem sX11_vat_103 {res : Int32 × eM} {k68 : Int32 → Int32 → Int32 → Int32 → eM → Option (Int32 × eM)} (hk68 : ∀ (x5 : Int32) (x6 : Int32) (x7 : Int32) (x8 : Int32) (M : eM), k68 x5 x6 x7 x8 M = some res → Scr M res.2) : ∀ (x5 : Int32) (x7 : Int32) (x8 : Int32) (t0 : Int32) (M : eM), fX11_vat_103 k68 x5 x7 x8 t0 M = some res → Scr M res.2 := by
  intro x5 x7 x8 t0 M hf
  replace hf := (fX11_vat_103.eq_1 ..).symm.trans hf
  exact Scr.trans Scr.rf (sX11_vat_104 hk68 _ _ _ _ _ _ hf)
theorem sX11_vat_68 {res : Int32 × eM} {k143 : Int32 → Int32 → Int32 → eM → Option (Int32 × eM)} (hk143 : ∀ (x5 : Int32) (x6 : Int32) (x7 : Int32) (M : eM), k143 x5 x6 x7 M = some res → Scr M res.2) : ∀ (n : Nat) (x5 : Int32) (x6 : Int32) (x7 : Int32) (x8 : Int32) (M : eM), fX11_vat_68 k143 n x5 x6 x7 x8 M = some res → Scr M res.2 := by
  intro n
  induction n with
  | zero => intro x5 x6 x7 x8 M hf; cases hf
  | succ n ih =>
    intro x5 x6 x7 x8 M hf
    replace hf := (fX11_vat_68.eq_2 ..).symm.trans hf
    rcases ea_if_s hf with ⟨_, hf⟩ | ⟨_, hf⟩
    · exact Scr.trans Scr.rf (hk143 _ _ _ _ hf)
    · obtain ⟨_, hf⟩ := ea_ck_s hf
      rcases ea_if_s hf with ⟨_, hf⟩ | ⟨_, hf⟩
      · exact Scr.trans Scr.rf (sX11_vat_103 ih _ _ _ _ _ hf)
      · obtain ⟨_, hf⟩ := ea_ck_s hf
        rcases ea_if_s hf with ⟨_, hf⟩ | ⟨_, hf⟩
        · exact Scr.trans Scr.rf (sX11_vat_103 ih _ _ _ _ _ hf)
        · exact Scr.trans Scr.rf (sX11_vat_104 ih _ _ _ _ _ _ hf)
theorem sX11_vat_171 {res : Int32 × eM} : ∀ (x6 : Int32) (x7 : Int32) (t0 : Int32) (M : eM), fX11_vat_171 x6 x7 t0 M = some res → Scr M res.2 := by
  intro x6 x7 t0 M hf
  replace hf := (fX11_vat_171.eq_1 ..).symm.trans hf
  obtain ⟨r2, M3, he, hf⟩ := ea_ci_s hf
  have hs := Scr.trans Scr.rf (sX11_common he)
  obtain ⟨_, hf⟩ := ea_ck_s hf
  exact scr_endi hf hs
theorem sX11_vat_143 {res : Int32 × eM} : ∀ (x5 : Int32) (x6 : Int32) (x7 : Int32) (M : eM), fX11_vat_143 x5 x6 x7 M = some res → Scr M res.2 := by
  intro x5 x6 x7 M hf
  replace hf := (fX11_vat_143.eq_1 ..).symm.trans hf
  rcases ea_if_s hf with ⟨_, hf⟩ | ⟨_, hf⟩
  · rcases ea_if_s hf with ⟨_, hf⟩ | ⟨_, hf⟩
    · exact scr_endi hf Scr.rf
    · exact scr_endi hf Scr.rf
  · rcases ea_if_s hf with ⟨_, hf⟩ | ⟨_, hf⟩
    · exact Scr.trans Scr.rf (sX11_vat_171 _ _ _ _ hf)
    · exact Scr.trans Scr.rf (sX11_vat_171 _ _ _ _ hf)
theorem sX11_vat_0 {res : Int32 × eM} : ∀ (x1 : Int32) (x2 : Int32) (x3 : Int32) (x4 : Int32) (x5 : Int32) (M : eM), fX11_vat_0 x1 x2 x3 x4 x5 M = some res → Scr M res.2 := by
  intro x1 x2 x3 x4 x5 M hf
  replace hf := (fX11_vat_0.eq_1 ..).symm.trans hf
  obtain ⟨r2, M3, he, hf⟩ := ea_ci_s hf
  have hs := Scr.trans Scr.rf (sX11_isAsked he)
  rcases ea_if_s hf with ⟨_, hf⟩ | ⟨_, hf⟩
  · exact scr_endi hf hs
  · obtain ⟨r6, M7, he, hf⟩ := ea_ci_s hf
    have hs := Scr.trans hs (sX11_isCell he)
    rcases ea_if_s hf with ⟨_, hf⟩ | ⟨_, hf⟩
    · exact scr_endi hf hs
    · rcases ea_if_s hf with ⟨_, hf⟩ | ⟨_, hf⟩
      · exact scr_endi hf hs
      · obtain ⟨M11, he, hf⟩ := ea_cv_s hf
        have hs := Scr.trans hs (sX11_findFits he)
        obtain ⟨M13, he, hf⟩ := ea_cv_s hf
        have hs := Scr.trans hs (sX11_mark (fun _ => rfl) he)
        obtain ⟨M15, he, hf⟩ := ea_cv_s hf
        have hs := Scr.trans hs (sX11_findFits he)
        obtain ⟨M17, he, hf⟩ := ea_cv_s hf
        have hs := Scr.trans hs (sX11_mark (fun _ => rfl) he)
        exact Scr.trans hs (sX11_vat_68 (sX11_vat_143) ea_N _ _ _ _ _ hf)
theorem sX11_vat {res : Int32 × eM} {x1 : Int32} {x2 : Int32} {x3 : Int32} {x4 : Int32} {x5 : Int32} {M : eM} (hf : fX11_vat x1 x2 x3 x4 x5 M = some res) : Scr M res.2 := sX11_vat_0 _ _ _ _ _ _ hf
theorem sX11_vats_94 {res : Int32 × eM} {k53 : Int32 → Int32 → Int32 → Int32 → Int32 → Int32 → eM → Option (Int32 × eM)} (hk53 : ∀ (x1 : Int32) (x2 : Int32) (x3 : Int32) (x4 : Int32) (x5 : Int32) (x6 : Int32) (M : eM), k53 x1 x2 x3 x4 x5 x6 M = some res → Scr M res.2) : ∀ (x1 : Int32) (x2 : Int32) (x3 : Int32) (x4 : Int32) (x6 : Int32) (t0 : Int32) (t1 : Int32) (M : eM), fX11_vats_94 k53 x1 x2 x3 x4 x6 t0 t1 M = some res → Scr M res.2 := by
  intro x1 x2 x3 x4 x6 t0 t1 M hf
  replace hf := (fX11_vats_94.eq_1 ..).symm.trans hf
  exact Scr.trans Scr.rf (hk53 _ _ _ _ _ _ _ hf)
theorem sX11_vats_53 {res : Int32 × eM} {k103 : Int32 → Int32 → Int32 → Int32 → Int32 → eM → Option (Int32 × eM)} (hk103 : ∀ (x1 : Int32) (x2 : Int32) (x3 : Int32) (x4 : Int32) (x5 : Int32) (M : eM), k103 x1 x2 x3 x4 x5 M = some res → Scr M res.2) : ∀ (n : Nat) (x1 : Int32) (x2 : Int32) (x3 : Int32) (x4 : Int32) (x5 : Int32) (x6 : Int32) (M : eM), fX11_vats_53 k103 n x1 x2 x3 x4 x5 x6 M = some res → Scr M res.2 := by
  intro n
  induction n with
  | zero => intro x1 x2 x3 x4 x5 x6 M hf; cases hf
  | succ n ih =>
    intro x1 x2 x3 x4 x5 x6 M hf
    replace hf := (fX11_vats_53.eq_2 ..).symm.trans hf
    rcases ea_if_s hf with ⟨_, hf⟩ | ⟨_, hf⟩
    · exact Scr.trans Scr.rf (hk103 _ _ _ _ _ _ hf)
    · obtain ⟨_, hf⟩ := ea_ck_s hf
      rcases ea_if_s hf with ⟨_, hf⟩ | ⟨_, hf⟩
      · exact Scr.trans Scr.rf (hk103 _ _ _ _ _ _ hf)
      · obtain ⟨_, hf⟩ := ea_ck_s hf
        obtain ⟨_, hf⟩ := ea_ck_s hf
        rcases ea_if_s hf with ⟨_, hf⟩ | ⟨_, hf⟩
        · exact Scr.trans Scr.rf (sX11_vats_94 ih _ _ _ _ _ _ _ _ hf)
        · exact Scr.trans Scr.rf (sX11_vats_94 ih _ _ _ _ _ _ _ _ hf)
theorem sX11_vats_115 {res : Int32 × eM} {k23 : Int32 → Int32 → Int32 → Int32 → eM → Option (Int32 × eM)} (hk23 : ∀ (x1 : Int32) (x2 : Int32) (x3 : Int32) (x4 : Int32) (M : eM), k23 x1 x2 x3 x4 M = some res → Scr M res.2) : ∀ (x1 : Int32) (x2 : Int32) (x4 : Int32) (t0 : Int32) (t1 : Int32) (M : eM), fX11_vats_115 k23 x1 x2 x4 t0 t1 M = some res → Scr M res.2 := by
  intro x1 x2 x4 t0 t1 M hf
  replace hf := (fX11_vats_115.eq_1 ..).symm.trans hf
  exact Scr.trans Scr.rf (hk23 _ _ _ _ _ hf)
theorem sX11_vats_103 {res : Int32 × eM} {k23 : Int32 → Int32 → Int32 → Int32 → eM → Option (Int32 × eM)} (hk23 : ∀ (x1 : Int32) (x2 : Int32) (x3 : Int32) (x4 : Int32) (M : eM), k23 x1 x2 x3 x4 M = some res → Scr M res.2) : ∀ (x1 : Int32) (x2 : Int32) (x3 : Int32) (x4 : Int32) (x5 : Int32) (M : eM), fX11_vats_103 k23 x1 x2 x3 x4 x5 M = some res → Scr M res.2 := by
  intro x1 x2 x3 x4 x5 M hf
  replace hf := (fX11_vats_103.eq_1 ..).symm.trans hf
  rcases ea_if_s hf with ⟨_, hf⟩ | ⟨_, hf⟩
  · exact Scr.trans Scr.rf (sX11_vats_115 hk23 _ _ _ _ _ _ hf)
  · exact Scr.trans Scr.rf (sX11_vats_115 hk23 _ _ _ _ _ _ hf)
theorem sX11_vats_23 {res : Int32 × eM} : ∀ (n : Nat) (x1 : Int32) (x2 : Int32) (x3 : Int32) (x4 : Int32) (M : eM), fX11_vats_23 n x1 x2 x3 x4 M = some res → Scr M res.2 := by
  intro n
  induction n with
  | zero => intro x1 x2 x3 x4 M hf; cases hf
  | succ n ih =>
    intro x1 x2 x3 x4 M hf
    replace hf := (fX11_vats_23.eq_2 ..).symm.trans hf
    obtain ⟨r2, M3, he, hf⟩ := ea_ci_s hf
    have hs := Scr.trans Scr.rf (sX11_cells he)
    rcases ea_if_s hf with ⟨_, hf⟩ | ⟨_, hf⟩
    · exact scr_endi hf hs
    · obtain ⟨r6, M7, he, hf⟩ := ea_ci_s hf
      have hs := Scr.trans hs (sX11_onlyThread he)
      obtain ⟨_, hf⟩ := ea_ck_s hf
      exact Scr.trans (hs.pI rfl) (sX11_vats_53 (sX11_vats_103 ih) ea_N _ _ _ _ _ _ _ hf)
theorem sX11_vats_0 {res : Int32 × eM} : ∀ (x1 : Int32) (x2 : Int32) (M : eM), fX11_vats_0 x1 x2 M = some res → Scr M res.2 := by
  intro x1 x2 M hf
  replace hf := (fX11_vats_0.eq_1 ..).symm.trans hf
  obtain ⟨r2, M3, he, hf⟩ := ea_ci_s hf
  have hs := Scr.trans Scr.rf (sX11_isStory he)
  rcases ea_if_s hf with ⟨_, hf⟩ | ⟨_, hf⟩
  · exact scr_endi hf hs
  · obtain ⟨r6, M7, he, hf⟩ := ea_ci_s hf
    have hs := Scr.trans hs (sX11_isStep he)
    rcases ea_if_s hf with ⟨_, hf⟩ | ⟨_, hf⟩
    · exact scr_endi hf hs
    · exact Scr.trans hs (sX11_vats_23 ea_N _ _ _ _ _ hf)
theorem sX11_vats {res : Int32 × eM} {x1 : Int32} {x2 : Int32} {M : eM} (hf : fX11_vats x1 x2 M = some res) : Scr M res.2 := sX11_vats_0 _ _ _ hf
theorem sX11_was_0 {res : Int32 × eM} : ∀ (x1 : Int32) (x2 : Int32) (x3 : Int32) (x4 : Int32) (x5 : Int32) (M : eM), fX11_was_0 x1 x2 x3 x4 x5 M = some res → Scr M res.2 := by
  intro x1 x2 x3 x4 x5 M hf
  replace hf := (fX11_was_0.eq_1 ..).symm.trans hf
  obtain ⟨r2, M3, he, hf⟩ := ea_ci_s hf
  have hs := Scr.trans Scr.rf (sX11_isAsked he)
  rcases ea_if_s hf with ⟨_, hf⟩ | ⟨_, hf⟩
  · exact scr_endi hf hs
  · obtain ⟨r6, M7, he, hf⟩ := ea_ci_s hf
    have hs := Scr.trans hs (sX11_isColour he)
    rcases ea_if_s hf with ⟨_, hf⟩ | ⟨_, hf⟩
    · exact scr_endi hf hs
    · obtain ⟨M10, he, hf⟩ := ea_cv_s hf
      have hs := Scr.trans hs (sX11_findFits he)
      obtain ⟨r12, M13, he, hf⟩ := ea_ci_s hf
      have hs := Scr.trans hs (sX11_spanEnd he)
      exact scr_endi hf hs
theorem sX11_was {res : Int32 × eM} {x1 : Int32} {x2 : Int32} {x3 : Int32} {x4 : Int32} {x5 : Int32} {M : eM} (hf : fX11_was x1 x2 x3 x4 x5 M = some res) : Scr M res.2 := sX11_was_0 _ _ _ _ _ _ hf
theorem sX2_says_28 {res : Int32 × eM} {a1 : Nat} : ∀ (n : Nat) (x2 : Int32) (M : eM), fX2_says_28 a1 n x2 M = some res → Scr M res.2 := by
  intro n
  induction n with
  | zero => intro x2 M hf; cases hf
  | succ n ih =>
    intro x2 M hf
    replace hf := (fX2_says_28.eq_2 ..).symm.trans hf
    rcases ea_if_s hf with ⟨_, hf⟩ | ⟨_, hf⟩
    · exact scr_endi hf Scr.rf
    · obtain ⟨_, hf⟩ := ea_ck_s hf
      obtain ⟨_, hf⟩ := ea_ck_s hf
      rcases ea_if_s hf with ⟨_, hf⟩ | ⟨_, hf⟩
      · exact Scr.trans Scr.rf (ih _ _ hf)
      · exact scr_endi hf Scr.rf
theorem sX2_says_0 {res : Int32 × eM} {a1 : Nat} : ∀ (M : eM), fX2_says_0 a1 M = some res → Scr M res.2 := by
  intro M hf
  replace hf := (fX2_says_0.eq_1 ..).symm.trans hf
  rcases ea_if_s hf with ⟨_, hf⟩ | ⟨_, hf⟩
  · rcases ea_if_s hf with ⟨_, hf⟩ | ⟨_, hf⟩
    · exact Scr.trans Scr.rf (sX2_says_28 ea_N _ _ hf)
    · exact scr_endi hf Scr.rf
  · exact scr_endi hf Scr.rf
theorem sX2_says {res : Int32 × eM} {a1 : Nat} {M : eM} (hf : fX2_says a1 M = some res) : Scr M res.2 := sX2_says_0  _ hf
theorem sX11_keyAt_89 {res : Int32 × eM} {k52 : Int32 → Int32 → Int32 → Int32 → Int32 → Int32 → Int32 → eM → Option (Int32 × eM)} (hk52 : ∀ (x1 : Int32) (x2 : Int32) (x3 : Int32) (x4 : Int32) (x5 : Int32) (x6 : Int32) (x7 : Int32) (M : eM), k52 x1 x2 x3 x4 x5 x6 x7 M = some res → Scr M res.2) : ∀ (x1 : Int32) (x2 : Int32) (x3 : Int32) (x4 : Int32) (x5 : Int32) (x7 : Int32) (t0 : Int32) (M : eM), fX11_keyAt_89 k52 x1 x2 x3 x4 x5 x7 t0 M = some res → Scr M res.2 := by
  intro x1 x2 x3 x4 x5 x7 t0 M hf
  replace hf := (fX11_keyAt_89.eq_1 ..).symm.trans hf
  exact Scr.trans Scr.rf (hk52 _ _ _ _ _ _ _ _ hf)
theorem sX11_keyAt_52 {res : Int32 × eM} {k97 : Int32 → Int32 → Int32 → Int32 → Int32 → eM → Option (Int32 × eM)} (hk97 : ∀ (x1 : Int32) (x2 : Int32) (x3 : Int32) (x5 : Int32) (x6 : Int32) (M : eM), k97 x1 x2 x3 x5 x6 M = some res → Scr M res.2) : ∀ (n : Nat) (x1 : Int32) (x2 : Int32) (x3 : Int32) (x4 : Int32) (x5 : Int32) (x6 : Int32) (x7 : Int32) (M : eM), fX11_keyAt_52 k97 n x1 x2 x3 x4 x5 x6 x7 M = some res → Scr M res.2 := by
  intro n
  induction n with
  | zero => intro x1 x2 x3 x4 x5 x6 x7 M hf; cases hf
  | succ n ih =>
    intro x1 x2 x3 x4 x5 x6 x7 M hf
    replace hf := (fX11_keyAt_52.eq_2 ..).symm.trans hf
    rcases ea_if_s hf with ⟨_, hf⟩ | ⟨_, hf⟩
    · exact Scr.trans Scr.rf (hk97 _ _ _ _ _ _ hf)
    · rcases ea_if_s hf with ⟨_, hf⟩ | ⟨_, hf⟩
      · exact Scr.trans Scr.rf (hk97 _ _ _ _ _ _ hf)
      · obtain ⟨_, hf⟩ := ea_ck_s hf
        obtain ⟨r5, M6, he, hf⟩ := ea_ci_s hf
        have hs := Scr.trans Scr.rf (sX11_byteAt he)
        rcases ea_if_s hf with ⟨_, hf⟩ | ⟨_, hf⟩
        · exact Scr.trans hs (sX11_keyAt_89 ih _ _ _ _ _ _ _ _ hf)
        · exact Scr.trans hs (sX11_keyAt_89 ih _ _ _ _ _ _ _ _ hf)
theorem sX11_keyAt_113 {res : Int32 × eM} {k8 : Int32 → Int32 → Int32 → Int32 → Int32 → eM → Option (Int32 × eM)} (hk8 : ∀ (x1 : Int32) (x2 : Int32) (x3 : Int32) (x4 : Int32) (x5 : Int32) (M : eM), k8 x1 x2 x3 x4 x5 M = some res → Scr M res.2) : ∀ (x1 : Int32) (x2 : Int32) (x3 : Int32) (x4 : Int32) (x5 : Int32) (M : eM), fX11_keyAt_113 k8 x1 x2 x3 x4 x5 M = some res → Scr M res.2 := by
  intro x1 x2 x3 x4 x5 M hf
  replace hf := (fX11_keyAt_113.eq_1 ..).symm.trans hf
  exact Scr.trans Scr.rf (hk8 _ _ _ _ _ _ hf)
theorem sX11_keyAt_97 {res : Int32 × eM} {k8 : Int32 → Int32 → Int32 → Int32 → Int32 → eM → Option (Int32 × eM)} (hk8 : ∀ (x1 : Int32) (x2 : Int32) (x3 : Int32) (x4 : Int32) (x5 : Int32) (M : eM), k8 x1 x2 x3 x4 x5 M = some res → Scr M res.2) : ∀ (x1 : Int32) (x2 : Int32) (x3 : Int32) (x5 : Int32) (x6 : Int32) (M : eM), fX11_keyAt_97 k8 x1 x2 x3 x5 x6 M = some res → Scr M res.2 := by
  intro x1 x2 x3 x5 x6 M hf
  replace hf := (fX11_keyAt_97.eq_1 ..).symm.trans hf
  rcases ea_if_s hf with ⟨_, hf⟩ | ⟨_, hf⟩
  · exact Scr.trans Scr.rf (sX11_keyAt_113 hk8 _ _ _ _ _ _ hf)
  · exact scr_endi hf Scr.rf
theorem sX11_keyAt_47 {res : Int32 × eM} {k8 : Int32 → Int32 → Int32 → Int32 → Int32 → eM → Option (Int32 × eM)} (hk8 : ∀ (x1 : Int32) (x2 : Int32) (x3 : Int32) (x4 : Int32) (x5 : Int32) (M : eM), k8 x1 x2 x3 x4 x5 M = some res → Scr M res.2) : ∀ (x1 : Int32) (x2 : Int32) (x3 : Int32) (x4 : Int32) (x5 : Int32) (t0 : Int32) (M : eM), fX11_keyAt_47 k8 x1 x2 x3 x4 x5 t0 M = some res → Scr M res.2 := by
  intro x1 x2 x3 x4 x5 t0 M hf
  replace hf := (fX11_keyAt_47.eq_1 ..).symm.trans hf
  exact Scr.trans Scr.rf (sX11_keyAt_52 (sX11_keyAt_97 hk8) ea_N _ _ _ _ _ _ _ _ hf)
theorem sX11_keyAt_8 {res : Int32 × eM} : ∀ (n : Nat) (x1 : Int32) (x2 : Int32) (x3 : Int32) (x4 : Int32) (x5 : Int32) (M : eM), fX11_keyAt_8 n x1 x2 x3 x4 x5 M = some res → Scr M res.2 := by
  intro n
  induction n with
  | zero => intro x1 x2 x3 x4 x5 M hf; cases hf
  | succ n ih =>
    intro x1 x2 x3 x4 x5 M hf
    replace hf := (fX11_keyAt_8.eq_2 ..).symm.trans hf
    rcases ea_if_s hf with ⟨_, hf⟩ | ⟨_, hf⟩
    · exact scr_endi hf Scr.rf
    · obtain ⟨_, hf⟩ := ea_ck_s hf
      rcases ea_if_s hf with ⟨_, hf⟩ | ⟨_, hf⟩
      · rcases ea_if_s hf with ⟨_, hf⟩ | ⟨_, hf⟩
        · exact Scr.trans Scr.rf (sX11_keyAt_47 ih _ _ _ _ _ _ _ hf)
        · exact Scr.trans Scr.rf (sX11_keyAt_47 ih _ _ _ _ _ _ _ hf)
      · exact Scr.trans Scr.rf (sX11_keyAt_113 ih _ _ _ _ _ _ hf)
theorem sX11_keyAt_0 {res : Int32 × eM} : ∀ (x1 : Int32) (x2 : Int32) (M : eM), fX11_keyAt_0 x1 x2 M = some res → Scr M res.2 := by
  intro x1 x2 M hf
  replace hf := (fX11_keyAt_0.eq_1 ..).symm.trans hf
  exact Scr.trans Scr.rf (sX11_keyAt_8 ea_N _ _ _ _ _ _ hf)
theorem sX11_keyAt {res : Int32 × eM} {x1 : Int32} {x2 : Int32} {M : eM} (hf : fX11_keyAt x1 x2 M = some res) : Scr M res.2 := sX11_keyAt_0 _ _ _ hf
theorem sX11_scan_25 {res : eM} {k5 : Int32 → eM → Option (eM)} (hk5 : ∀ (x1 : Int32) (M : eM), k5 x1 M = some res → Scr M res) : ∀ (x1 : Int32) (M : eM), fX11_scan_25 k5 x1 M = some res → Scr M res := by
  intro x1 M hf
  replace hf := (fX11_scan_25.eq_1 ..).symm.trans hf
  exact Scr.trans Scr.rf (hk5 _ _ hf)
theorem sX11_scan_5 {res : eM} {k31 : Int32 → eM → Option (eM)} (hk31 : ∀ (x1 : Int32) (M : eM), k31 x1 M = some res → Scr M res) : ∀ (n : Nat) (x1 : Int32) (M : eM), fX11_scan_5 k31 n x1 M = some res → Scr M res := by
  intro n
  induction n with
  | zero => intro x1 M hf; cases hf
  | succ n ih =>
    intro x1 M hf
    replace hf := (fX11_scan_5.eq_2 ..).symm.trans hf
    obtain ⟨r2, M3, he, hf⟩ := ea_ci_s hf
    have hs := Scr.trans Scr.rf (sX11_byteAt he)
    rcases ea_if_s hf with ⟨_, hf⟩ | ⟨_, hf⟩
    · exact Scr.trans hs (sX11_scan_25 ih _ _ hf)
    · obtain ⟨r6, M7, he, hf⟩ := ea_ci_s hf
      have hs := Scr.trans hs (sX11_byteAt he)
      rcases ea_if_s hf with ⟨_, hf⟩ | ⟨_, hf⟩
      · exact Scr.trans hs (sX11_scan_25 ih _ _ hf)
      · exact Scr.trans hs (hk31 _ _ hf)
theorem sX11_scan_124 {res : eM} {k80 : Int32 → Int32 → eM → Option (eM)} (hk80 : ∀ (x1 : Int32) (x3 : Int32) (M : eM), k80 x1 x3 M = some res → Scr M res) : ∀ (x1 : Int32) (x3 : Int32) (M : eM), fX11_scan_124 k80 x1 x3 M = some res → Scr M res := by
  intro x1 x3 M hf
  replace hf := (fX11_scan_124.eq_1 ..).symm.trans hf
  exact Scr.trans Scr.rf (hk80 _ _ _ hf)
theorem sX11_scan_80 {res : eM} {k130 : Int32 → Int32 → eM → Option (eM)} (hk130 : ∀ (x1 : Int32) (x3 : Int32) (M : eM), k130 x1 x3 M = some res → Scr M res) : ∀ (n : Nat) (x1 : Int32) (x3 : Int32) (M : eM), fX11_scan_80 k130 n x1 x3 M = some res → Scr M res := by
  intro n
  induction n with
  | zero => intro x1 x3 M hf; cases hf
  | succ n ih =>
    intro x1 x3 M hf
    replace hf := (fX11_scan_80.eq_2 ..).symm.trans hf
    obtain ⟨r2, M3, he, hf⟩ := ea_ci_s hf
    have hs := Scr.trans Scr.rf (sX11_byteAt he)
    obtain ⟨r5, M6, he, hf⟩ := ea_ci_s hf
    have hs := Scr.trans hs (sX11_isSmall he)
    rcases ea_if_s hf with ⟨_, hf⟩ | ⟨_, hf⟩
    · exact Scr.trans hs (hk130 _ _ _ hf)
    · rcases ea_if_s hf with ⟨_, hf⟩ | ⟨_, hf⟩
      · exact Scr.trans hs (sX11_scan_124 ih _ _ _ hf)
      · obtain ⟨r10, M11, he, hf⟩ := ea_ci_s hf
        have hs := Scr.trans hs (sX11_byteAt he)
        exact Scr.trans (hs.pL) (sX11_scan_124 ih _ _ _ hf)
theorem sX11_scan_270 {res : eM} : ∀ (x3 : Int32) (M : eM), fX11_scan_270 x3 M = some res → Scr M res := by
  intro x3 M hf
  replace hf := (fX11_scan_270.eq_1 ..).symm.trans hf
  exact scr_endv hf (Scr.rf.pI rfl)
theorem sX11_scan_144 {res : eM} : ∀ (x1 : Int32) (x3 : Int32) (t0 : Int32) (M : eM), fX11_scan_144 x1 x3 t0 M = some res → Scr M res := by
  intro x1 x3 t0 M hf
  replace hf := (fX11_scan_144.eq_1 ..).symm.trans hf
  rcases ea_if_s hf with ⟨_, hf⟩ | ⟨_, hf⟩
  · obtain ⟨r3, M4, he, hf⟩ := ea_ci_s hf
    have hs := Scr.trans (Scr.rf.pI rfl) (sX11_keyAt he)
    exact Scr.trans (hs.pI rfl) (sX11_scan_270 _ _ hf)
  · exact Scr.trans (Scr.rf.pI rfl) (sX11_scan_270 _ _ hf)
theorem sX11_scan_130 {res : eM} : ∀ (x1 : Int32) (x3 : Int32) (M : eM), fX11_scan_130 x1 x3 M = some res → Scr M res := by
  intro x1 x3 M hf
  replace hf := (fX11_scan_130.eq_1 ..).symm.trans hf
  rcases ea_if_s hf with ⟨_, hf⟩ | ⟨_, hf⟩
  · exact Scr.trans Scr.rf (sX11_scan_144 _ _ _ _ hf)
  · exact Scr.trans Scr.rf (sX11_scan_144 _ _ _ _ hf)
theorem sX11_scan_227 {res : eM} {k185 : Int32 → Int32 → eM → Option (eM)} (hk185 : ∀ (x1 : Int32) (x3 : Int32) (M : eM), k185 x1 x3 M = some res → Scr M res) : ∀ (x1 : Int32) (x3 : Int32) (t0 : Int32) (M : eM), fX11_scan_227 k185 x1 x3 t0 M = some res → Scr M res := by
  intro x1 x3 t0 M hf
  replace hf := (fX11_scan_227.eq_1 ..).symm.trans hf
  exact Scr.trans (Scr.rf.pI rfl) (hk185 _ _ _ hf)
theorem sX11_scan_185 {res : eM} {k236 : Int32 → Int32 → eM → Option (eM)} (hk236 : ∀ (x1 : Int32) (x3 : Int32) (M : eM), k236 x1 x3 M = some res → Scr M res) : ∀ (n : Nat) (x1 : Int32) (x3 : Int32) (M : eM), fX11_scan_185 k236 n x1 x3 M = some res → Scr M res := by
  intro n
  induction n with
  | zero => intro x1 x3 M hf; cases hf
  | succ n ih =>
    intro x1 x3 M hf
    replace hf := (fX11_scan_185.eq_2 ..).symm.trans hf
    obtain ⟨r2, M3, he, hf⟩ := ea_ci_s hf
    have hs := Scr.trans Scr.rf (sX11_byteAt he)
    obtain ⟨r5, M6, he, hf⟩ := ea_ci_s hf
    have hs := Scr.trans hs (sX11_isDigit he)
    rcases ea_if_s hf with ⟨_, hf⟩ | ⟨_, hf⟩
    · exact Scr.trans hs (hk236 _ _ _ hf)
    · rcases ea_if_s hf with ⟨_, hf⟩ | ⟨_, hf⟩
      · exact Scr.trans hs (sX11_scan_227 ih _ _ _ _ hf)
      · obtain ⟨r10, M11, he, hf⟩ := ea_ci_s hf
        have hs := Scr.trans hs (sX11_byteAt he)
        exact Scr.trans hs (sX11_scan_227 ih _ _ _ _ hf)
theorem sX11_scan_249 {res : eM} : ∀ (x3 : Int32) (t0 : Int32) (M : eM), fX11_scan_249 x3 t0 M = some res → Scr M res := by
  intro x3 t0 M hf
  replace hf := (fX11_scan_249.eq_1 ..).symm.trans hf
  exact Scr.trans (Scr.rf.pI rfl) (sX11_scan_270 _ _ hf)
theorem sX11_scan_236 {res : eM} : ∀ (x1 : Int32) (x3 : Int32) (M : eM), fX11_scan_236 x1 x3 M = some res → Scr M res := by
  intro x1 x3 M hf
  replace hf := (fX11_scan_236.eq_1 ..).symm.trans hf
  rcases ea_if_s hf with ⟨_, hf⟩ | ⟨_, hf⟩
  · exact Scr.trans Scr.rf (sX11_scan_249 _ _ _ hf)
  · exact Scr.trans Scr.rf (sX11_scan_249 _ _ _ hf)
theorem sX11_scan_267 {res : eM} : ∀ (x3 : Int32) (t0 : Int32) (M : eM), fX11_scan_267 x3 t0 M = some res → Scr M res := by
  intro x3 t0 M hf
  replace hf := (fX11_scan_267.eq_1 ..).symm.trans hf
  exact Scr.trans (Scr.rf.pI rfl) (sX11_scan_270 _ _ hf)
theorem sX11_scan_31 {res : eM} : ∀ (x1 : Int32) (M : eM), fX11_scan_31 x1 M = some res → Scr M res := by
  intro x1 M hf
  replace hf := (fX11_scan_31.eq_1 ..).symm.trans hf
  obtain ⟨r2, M3, he, hf⟩ := ea_ci_s hf
  have hs := Scr.trans (Scr.rf.pI rfl) (sX11_byteAt he)
  rcases ea_if_s hf with ⟨_, hf⟩ | ⟨_, hf⟩
  · exact Scr.trans ((hs.pI rfl).pI rfl) (sX11_scan_270 _ _ hf)
  · obtain ⟨r6, M7, he, hf⟩ := ea_ci_s hf
    have hs := Scr.trans (hs.pI rfl) (sX11_isSmall he)
    rcases ea_if_s hf with ⟨_, hf⟩ | ⟨_, hf⟩
    · obtain ⟨r10, M11, he, hf⟩ := ea_ci_s hf
      have hs := Scr.trans hs (sX11_isDigit he)
      rcases ea_if_s hf with ⟨_, hf⟩ | ⟨_, hf⟩
      · rcases ea_if_s hf with ⟨_, hf⟩ | ⟨_, hf⟩
        · exact Scr.trans hs (sX11_scan_267 _ _ _ hf)
        · exact Scr.trans hs (sX11_scan_267 _ _ _ hf)
      · exact Scr.trans (hs.pI rfl) (sX11_scan_185 (sX11_scan_236) ea_N _ _ _ hf)
    · exact Scr.trans (hs.pL) (sX11_scan_80 (sX11_scan_130) ea_N _ _ _ hf)
theorem sX11_scan_0 {res : eM} : ∀ (M : eM), fX11_scan_0 M = some res → Scr M res := by
  intro M hf
  replace hf := (fX11_scan_0.eq_1 ..).symm.trans hf
  exact Scr.trans Scr.rf (sX11_scan_5 (sX11_scan_31) ea_N _ _ hf)
theorem sX11_scan {res : eM} {M : eM} (hf : fX11_scan M = some res) : Scr M res := sX11_scan_0  _ hf
