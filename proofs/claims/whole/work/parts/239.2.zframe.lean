theorem zX11_readNumber_0 {res : Int32 × eM} : ∀ (x1 : Int32) (x2 : Int32) (M : eM), fX11_readNumber_0 x1 x2 M = some res → ScZ M res.2 := by
  intro x1 x2 M hf
  replace hf := (fX11_readNumber_0.eq_1 ..).symm.trans hf
  rcases ea_if_s hf with ⟨_, hf⟩ | ⟨_, hf⟩
  · obtain ⟨r3, M4, he, hf⟩ := ea_ci_s hf
    have hs := ScZ.trans ScZ.rf (zX11_in he)
    rcases ea_if_s hf with ⟨_, hf⟩ | ⟨_, hf⟩
    · obtain ⟨r9, M10, he, hf⟩ := ea_ci_s hf
      have hs := ScZ.trans hs (zX11_fails he)
      obtain ⟨_, hf⟩ := ea_ck_s hf
      exact scz_endi hf hs
    · obtain ⟨M7, he, hf⟩ := ea_cv_s hf
      have hs := ScZ.trans (hs.pI rfl) (zX11_scan he)
      exact scz_endi hf hs
  · obtain ⟨r13, M14, he, hf⟩ := ea_ci_s hf
    have hs := ScZ.trans ScZ.rf (zX11_fails he)
    obtain ⟨_, hf⟩ := ea_ck_s hf
    exact scz_endi hf hs
theorem zX11_readNumber {res : Int32 × eM} {x1 : Int32} {x2 : Int32} {M : eM} (hf : fX11_readNumber x1 x2 M = some res) : ScZ M res.2 := zX11_readNumber_0 _ _ _ hf
theorem zX11_readEye_39 {res : Int32 × eM} {k58 : eM → Option (Int32 × eM)} (hk58 : ∀ (M : eM), k58 M = some res → ScZ M res.2) {k70 : Int32 → eM → Option (Int32 × eM)} (hk70 : ∀ (x1 : Int32) (M : eM), k70 x1 M = some res → ScZ M res.2) : ∀ (n : Nat) (x1 : Int32) (x2 : Int32) (M : eM), fX11_readEye_39 k58 k70 n x1 x2 M = some res → ScZ M res.2 := by
  intro n
  induction n with
  | zero => intro x1 x2 M hf; cases hf
  | succ n ih =>
    intro x1 x2 M hf
    replace hf := (fX11_readEye_39.eq_2 ..).symm.trans hf
    rcases ea_if_s hf with ⟨_, hf⟩ | ⟨_, hf⟩
    · exact ScZ.trans ScZ.rf (hk70 _ _ hf)
    · obtain ⟨_, hf⟩ := ea_ck_s hf
      rcases ea_if_s hf with ⟨_, hf⟩ | ⟨_, hf⟩
      · exact ScZ.trans ScZ.rf (hk58 _ hf)
      · exact ScZ.trans ScZ.rf (ih _ _ _ hf)
theorem zX11_readEye_58 {res : Int32 × eM} : ∀ (M : eM), fX11_readEye_58 M = some res → ScZ M res.2 := by
  intro M hf
  replace hf := (fX11_readEye_58.eq_1 ..).symm.trans hf
  obtain ⟨r2, M3, he, hf⟩ := ea_ci_s hf
  have hs := ScZ.trans ScZ.rf (zX11_fails he)
  obtain ⟨_, hf⟩ := ea_ck_s hf
  exact scz_endi hf hs
theorem zX11_readEye_117 {res : Int32 × eM} {k86 : Int32 → Int32 → eM → Option (Int32 × eM)} (hk86 : ∀ (x1 : Int32) (x2 : Int32) (M : eM), k86 x1 x2 M = some res → ScZ M res.2) : ∀ (x1 : Int32) (x2 : Int32) (M : eM), fX11_readEye_117 k86 x1 x2 M = some res → ScZ M res.2 := by
  intro x1 x2 M hf
  replace hf := (fX11_readEye_117.eq_1 ..).symm.trans hf
  obtain ⟨r2, M3, he, hf⟩ := ea_ci_s hf
  have hs := ScZ.trans ScZ.rf (zX11_readNumber he)
  rcases ea_if_s hf with ⟨_, hf⟩ | ⟨_, hf⟩
  · exact scz_endi hf hs
  · obtain ⟨_, hf⟩ := ea_ck_s hf
    exact ScZ.trans (hs.pI rfl) (hk86 _ _ _ hf)
theorem zX11_readEye_86 {res : Int32 × eM} {k107 : eM → Option (Int32 × eM)} (hk107 : ∀ (M : eM), k107 M = some res → ScZ M res.2) {k152 : eM → Option (Int32 × eM)} (hk152 : ∀ (M : eM), k152 M = some res → ScZ M res.2) : ∀ (n : Nat) (x1 : Int32) (x2 : Int32) (M : eM), fX11_readEye_86 k107 k152 n x1 x2 M = some res → ScZ M res.2 := by
  intro n
  induction n with
  | zero => intro x1 x2 M hf; cases hf
  | succ n ih =>
    intro x1 x2 M hf
    replace hf := (fX11_readEye_86.eq_2 ..).symm.trans hf
    rcases ea_if_s hf with ⟨_, hf⟩ | ⟨_, hf⟩
    · exact ScZ.trans ScZ.rf (hk152 _ hf)
    · rcases ea_if_s hf with ⟨_, hf⟩ | ⟨_, hf⟩
      · obtain ⟨r4, M5, he, hf⟩ := ea_ci_s hf
        have hs := ScZ.trans ScZ.rf (zX11_isKey he)
        rcases ea_if_s hf with ⟨_, hf⟩ | ⟨_, hf⟩
        · exact ScZ.trans hs (hk107 _ hf)
        · obtain ⟨M8, he, hf⟩ := ea_cv_s hf
          have hs := ScZ.trans hs (zX11_scan he)
          exact ScZ.trans hs (zX11_readEye_117 ih _ _ _ hf)
      · exact ScZ.trans ScZ.rf (zX11_readEye_117 ih _ _ _ hf)
theorem zX11_readEye_107 {res : Int32 × eM} : ∀ (M : eM), fX11_readEye_107 M = some res → ScZ M res.2 := by
  intro M hf
  replace hf := (fX11_readEye_107.eq_1 ..).symm.trans hf
  obtain ⟨r2, M3, he, hf⟩ := ea_ci_s hf
  have hs := ScZ.trans ScZ.rf (zX11_fails he)
  obtain ⟨_, hf⟩ := ea_ck_s hf
  exact scz_endi hf hs
theorem zX11_readEye_152 {res : Int32 × eM} : ∀ (M : eM), fX11_readEye_152 M = some res → ScZ M res.2 := by
  intro M hf
  replace hf := (fX11_readEye_152.eq_1 ..).symm.trans hf
  exact scz_endi hf (ScZ.rf.pI rfl)
theorem zX11_readEye_70 {res : Int32 × eM} : ∀ (x1 : Int32) (M : eM), fX11_readEye_70 x1 M = some res → ScZ M res.2 := by
  intro x1 M hf
  replace hf := (fX11_readEye_70.eq_1 ..).symm.trans hf
  obtain ⟨_, hf⟩ := ea_ck_s hf
  obtain ⟨M3, he, hf⟩ := ea_cv_s hf
  have hs := ScZ.trans (ScZ.rf.pL) (zX11_scan he)
  exact ScZ.trans hs (zX11_readEye_86 (zX11_readEye_107) (zX11_readEye_152) ea_N _ _ _ hf)
theorem zX11_readEye_0 {res : Int32 × eM} : ∀ (M : eM), fX11_readEye_0 M = some res → ScZ M res.2 := by
  intro M hf
  replace hf := (fX11_readEye_0.eq_1 ..).symm.trans hf
  obtain ⟨y1, _, hf⟩ := ea_lt_s hf
  rcases ea_if_s hf with ⟨_, hf⟩ | ⟨_, hf⟩
  · obtain ⟨r12, M13, he, hf⟩ := ea_ci_s hf
    have hs := ScZ.trans ScZ.rf (zX11_fails he)
    obtain ⟨_, hf⟩ := ea_ck_s hf
    exact scz_endi hf hs
  · obtain ⟨M5, he, hf⟩ := ea_cv_s hf
    have hs := ScZ.trans ScZ.rf (zX11_scan he)
    rcases ea_if_s hf with ⟨_, hf⟩ | ⟨_, hf⟩
    · exact ScZ.trans hs (zX11_readEye_39 (zX11_readEye_58) (zX11_readEye_70) ea_N _ _ _ hf)
    · obtain ⟨r8, M9, he, hf⟩ := ea_ci_s hf
      have hs := ScZ.trans hs (zX11_fails he)
      obtain ⟨_, hf⟩ := ea_ck_s hf
      exact scz_endi hf hs
theorem zX11_readEye {res : Int32 × eM} {M : eM} (hf : fX11_readEye M = some res) : ScZ M res.2 := zX11_readEye_0  _ hf
theorem zX11_readMended_45 {res : Int32 × eM} : ∀ (x1 : Int32) (t0 : Int32) (M : eM), fX11_readMended_45 x1 t0 M = some res → ScZ M res.2 := by
  intro x1 t0 M hf
  replace hf := (fX11_readMended_45.eq_1 ..).symm.trans hf
  obtain ⟨r2, M3, he, hf⟩ := ea_ci_s hf
  have hs := ScZ.trans ScZ.rf (zX11_readNumber he)
  rcases ea_if_s hf with ⟨_, hf⟩ | ⟨_, hf⟩
  · exact scz_endi hf hs
  · obtain ⟨_, hf⟩ := ea_ck_s hf
    exact scz_endi hf ((hs.pI rfl).pI rfl)
theorem zX11_readMended_0 {res : Int32 × eM} : ∀ (M : eM), fX11_readMended_0 M = some res → ScZ M res.2 := by
  intro M hf
  replace hf := (fX11_readMended_0.eq_1 ..).symm.trans hf
  obtain ⟨y1, _, hf⟩ := ea_lt_s hf
  rcases ea_if_s hf with ⟨_, hf⟩ | ⟨_, hf⟩
  · obtain ⟨r9, M10, he, hf⟩ := ea_ci_s hf
    have hs := ScZ.trans ScZ.rf (zX11_fails he)
    obtain ⟨_, hf⟩ := ea_ck_s hf
    exact scz_endi hf hs
  · obtain ⟨M5, he, hf⟩ := ea_cv_s hf
    have hs := ScZ.trans ScZ.rf (zX11_scan he)
    rcases ea_if_s hf with ⟨_, hf⟩ | ⟨_, hf⟩
    · exact ScZ.trans hs (zX11_readMended_45 _ _ _ hf)
    · obtain ⟨_, hf⟩ := ea_ck_s hf
      exact ScZ.trans hs (zX11_readMended_45 _ _ _ hf)
theorem zX11_readMended {res : Int32 × eM} {M : eM} (hf : fX11_readMended M = some res) : ScZ M res.2 := zX11_readMended_0  _ hf
theorem zX11_readStory_39 {res : Int32 × eM} {k58 : eM → Option (Int32 × eM)} (hk58 : ∀ (M : eM), k58 M = some res → ScZ M res.2) {k70 : Int32 → eM → Option (Int32 × eM)} (hk70 : ∀ (x1 : Int32) (M : eM), k70 x1 M = some res → ScZ M res.2) : ∀ (n : Nat) (x1 : Int32) (x2 : Int32) (M : eM), fX11_readStory_39 k58 k70 n x1 x2 M = some res → ScZ M res.2 := by
  intro n
  induction n with
  | zero => intro x1 x2 M hf; cases hf
  | succ n ih =>
    intro x1 x2 M hf
    replace hf := (fX11_readStory_39.eq_2 ..).symm.trans hf
    rcases ea_if_s hf with ⟨_, hf⟩ | ⟨_, hf⟩
    · exact ScZ.trans ScZ.rf (hk70 _ _ hf)
    · obtain ⟨_, hf⟩ := ea_ck_s hf
      rcases ea_if_s hf with ⟨_, hf⟩ | ⟨_, hf⟩
      · exact ScZ.trans ScZ.rf (hk58 _ hf)
      · exact ScZ.trans ScZ.rf (ih _ _ _ hf)
theorem zX11_readStory_58 {res : Int32 × eM} : ∀ (M : eM), fX11_readStory_58 M = some res → ScZ M res.2 := by
  intro M hf
  replace hf := (fX11_readStory_58.eq_1 ..).symm.trans hf
  obtain ⟨r2, M3, he, hf⟩ := ea_ci_s hf
  have hs := ScZ.trans ScZ.rf (zX11_fails he)
  obtain ⟨_, hf⟩ := ea_ck_s hf
  exact scz_endi hf hs
theorem zX11_readStory_185 {res : Int32 × eM} {k132 : Int32 → Int32 → Int32 → eM → Option (Int32 × eM)} (hk132 : ∀ (x1 : Int32) (x2 : Int32) (x3 : Int32) (M : eM), k132 x1 x2 x3 M = some res → ScZ M res.2) : ∀ (x1 : Int32) (x2 : Int32) (x3 : Int32) (M : eM), fX11_readStory_185 k132 x1 x2 x3 M = some res → ScZ M res.2 := by
  intro x1 x2 x3 M hf
  replace hf := (fX11_readStory_185.eq_1 ..).symm.trans hf
  obtain ⟨_, hf⟩ := ea_ck_s hf
  exact ScZ.trans (ScZ.rf.pI rfl) (hk132 _ _ _ _ hf)
theorem zX11_readStory_132 {res : Int32 × eM} {k212 : Int32 → Int32 → eM → Option (Int32 × eM)} (hk212 : ∀ (x1 : Int32) (x2 : Int32) (M : eM), k212 x1 x2 M = some res → ScZ M res.2) : ∀ (n : Nat) (x1 : Int32) (x2 : Int32) (x3 : Int32) (M : eM), fX11_readStory_132 k212 n x1 x2 x3 M = some res → ScZ M res.2 := by
  intro n
  induction n with
  | zero => intro x1 x2 x3 M hf; cases hf
  | succ n ih =>
    intro x1 x2 x3 M hf
    replace hf := (fX11_readStory_132.eq_2 ..).symm.trans hf
    rcases ea_if_s hf with ⟨_, hf⟩ | ⟨_, hf⟩
    · exact ScZ.trans ScZ.rf (hk212 _ _ _ hf)
    · rcases ea_if_s hf with ⟨_, hf⟩ | ⟨_, hf⟩
      · obtain ⟨r13, M14, he, hf⟩ := ea_ci_s hf
        have hs := ScZ.trans ScZ.rf (zX11_readNumber he)
        rcases ea_if_s hf with ⟨_, hf⟩ | ⟨_, hf⟩
        · exact scz_endi hf hs
        · exact ScZ.trans hs (zX11_readStory_185 ih _ _ _ _ hf)
      · rcases ea_if_s hf with ⟨_, hf⟩ | ⟨_, hf⟩
        · obtain ⟨r9, M10, he, hf⟩ := ea_ci_s hf
          have hs := ScZ.trans ScZ.rf (zX11_readNumber he)
          rcases ea_if_s hf with ⟨_, hf⟩ | ⟨_, hf⟩
          · exact scz_endi hf hs
          · exact ScZ.trans hs (zX11_readStory_185 ih _ _ _ _ hf)
        · obtain ⟨r5, M6, he, hf⟩ := ea_ci_s hf
          have hs := ScZ.trans ScZ.rf (zX11_readNumber he)
          rcases ea_if_s hf with ⟨_, hf⟩ | ⟨_, hf⟩
          · exact scz_endi hf hs
          · exact ScZ.trans hs (zX11_readStory_185 ih _ _ _ _ hf)
theorem zX11_readStory_212 {res : Int32 × eM} {k86 : Int32 → Int32 → eM → Option (Int32 × eM)} (hk86 : ∀ (x1 : Int32) (x2 : Int32) (M : eM), k86 x1 x2 M = some res → ScZ M res.2) : ∀ (x1 : Int32) (x2 : Int32) (M : eM), fX11_readStory_212 k86 x1 x2 M = some res → ScZ M res.2 := by
  intro x1 x2 M hf
  replace hf := (fX11_readStory_212.eq_1 ..).symm.trans hf
  exact ScZ.trans ScZ.rf (hk86 _ _ _ hf)
theorem zX11_readStory_99 {res : Int32 × eM} {k86 : Int32 → Int32 → eM → Option (Int32 × eM)} (hk86 : ∀ (x1 : Int32) (x2 : Int32) (M : eM), k86 x1 x2 M = some res → ScZ M res.2) {k108 : eM → Option (Int32 × eM)} (hk108 : ∀ (M : eM), k108 M = some res → ScZ M res.2) {k120 : eM → Option (Int32 × eM)} (hk120 : ∀ (M : eM), k120 M = some res → ScZ M res.2) : ∀ (x1 : Int32) (x2 : Int32) (M : eM), fX11_readStory_99 k86 k108 k120 x1 x2 M = some res → ScZ M res.2 := by
  intro x1 x2 M hf
  replace hf := (fX11_readStory_99.eq_1 ..).symm.trans hf
  obtain ⟨r2, M3, he, hf⟩ := ea_ci_s hf
  have hs := ScZ.trans ScZ.rf (zX11_isKey he)
  rcases ea_if_s hf with ⟨_, hf⟩ | ⟨_, hf⟩
  · exact ScZ.trans hs (hk108 _ hf)
  · rcases ea_if_s hf with ⟨_, hf⟩ | ⟨_, hf⟩
    · exact ScZ.trans hs (hk120 _ hf)
    · obtain ⟨M7, he, hf⟩ := ea_cv_s hf
      have hs := ScZ.trans hs (zX11_scan he)
      exact ScZ.trans hs (zX11_readStory_132 (zX11_readStory_212 hk86) ea_N _ _ _ _ hf)
theorem zX11_readStory_86 {res : Int32 × eM} {k108 : eM → Option (Int32 × eM)} (hk108 : ∀ (M : eM), k108 M = some res → ScZ M res.2) {k120 : eM → Option (Int32 × eM)} (hk120 : ∀ (M : eM), k120 M = some res → ScZ M res.2) {k218 : Int32 → Int32 → eM → Option (Int32 × eM)} (hk218 : ∀ (x1 : Int32) (x2 : Int32) (M : eM), k218 x1 x2 M = some res → ScZ M res.2) : ∀ (n : Nat) (x1 : Int32) (x2 : Int32) (M : eM), fX11_readStory_86 k108 k120 k218 n x1 x2 M = some res → ScZ M res.2 := by
  intro n
  induction n with
  | zero => intro x1 x2 M hf; cases hf
  | succ n ih =>
    intro x1 x2 M hf
    replace hf := (fX11_readStory_86.eq_2 ..).symm.trans hf
    rcases ea_if_s hf with ⟨_, hf⟩ | ⟨_, hf⟩
    · exact ScZ.trans ScZ.rf (zX11_readStory_99 ih hk108 hk120 _ _ _ hf)
    · obtain ⟨r3, M4, he, hf⟩ := ea_ci_s hf
      have hs := ScZ.trans ScZ.rf (zX11_isKey he)
      rcases ea_if_s hf with ⟨_, hf⟩ | ⟨_, hf⟩
      · exact ScZ.trans hs (hk218 _ _ _ hf)
      · exact ScZ.trans hs (zX11_readStory_99 ih hk108 hk120 _ _ _ hf)
theorem zX11_readStory_108 {res : Int32 × eM} : ∀ (M : eM), fX11_readStory_108 M = some res → ScZ M res.2 := by
  intro M hf
  replace hf := (fX11_readStory_108.eq_1 ..).symm.trans hf
  obtain ⟨r2, M3, he, hf⟩ := ea_ci_s hf
  have hs := ScZ.trans ScZ.rf (zX11_fails he)
  obtain ⟨_, hf⟩ := ea_ck_s hf
  exact scz_endi hf hs
theorem zX11_readStory_120 {res : Int32 × eM} : ∀ (M : eM), fX11_readStory_120 M = some res → ScZ M res.2 := by
  intro M hf
  replace hf := (fX11_readStory_120.eq_1 ..).symm.trans hf
  obtain ⟨r2, M3, he, hf⟩ := ea_ci_s hf
  have hs := ScZ.trans ScZ.rf (zX11_fails he)
  obtain ⟨_, hf⟩ := ea_ck_s hf
  exact scz_endi hf hs
theorem zX11_readStory_218 {res : Int32 × eM} : ∀ (x1 : Int32) (x2 : Int32) (M : eM), fX11_readStory_218 x1 x2 M = some res → ScZ M res.2 := by
  intro x1 x2 M hf
  replace hf := (fX11_readStory_218.eq_1 ..).symm.trans hf
  obtain ⟨_, hf⟩ := ea_ck_s hf
  exact scz_endi hf ((ScZ.rf.pI rfl).pI rfl)
theorem zX11_readStory_70 {res : Int32 × eM} : ∀ (x1 : Int32) (M : eM), fX11_readStory_70 x1 M = some res → ScZ M res.2 := by
  intro x1 M hf
  replace hf := (fX11_readStory_70.eq_1 ..).symm.trans hf
  obtain ⟨_, hf⟩ := ea_ck_s hf
  obtain ⟨M3, he, hf⟩ := ea_cv_s hf
  have hs := ScZ.trans (ScZ.rf.pL) (zX11_scan he)
  exact ScZ.trans hs (zX11_readStory_86 (zX11_readStory_108) (zX11_readStory_120) (zX11_readStory_218) ea_N _ _ _ hf)
theorem zX11_readStory_0 {res : Int32 × eM} : ∀ (M : eM), fX11_readStory_0 M = some res → ScZ M res.2 := by
  intro M hf
  replace hf := (fX11_readStory_0.eq_1 ..).symm.trans hf
  obtain ⟨y1, _, hf⟩ := ea_lt_s hf
  rcases ea_if_s hf with ⟨_, hf⟩ | ⟨_, hf⟩
  · obtain ⟨r12, M13, he, hf⟩ := ea_ci_s hf
    have hs := ScZ.trans ScZ.rf (zX11_fails he)
    obtain ⟨_, hf⟩ := ea_ck_s hf
    exact scz_endi hf hs
  · obtain ⟨M5, he, hf⟩ := ea_cv_s hf
    have hs := ScZ.trans ScZ.rf (zX11_scan he)
    rcases ea_if_s hf with ⟨_, hf⟩ | ⟨_, hf⟩
    · exact ScZ.trans hs (zX11_readStory_39 (zX11_readStory_58) (zX11_readStory_70) ea_N _ _ _ hf)
    · obtain ⟨r8, M9, he, hf⟩ := ea_ci_s hf
      have hs := ScZ.trans hs (zX11_fails he)
      obtain ⟨_, hf⟩ := ea_ck_s hf
      exact scz_endi hf hs
theorem zX11_readStory {res : Int32 × eM} {M : eM} (hf : fX11_readStory M = some res) : ScZ M res.2 := zX11_readStory_0  _ hf
theorem zX11_readStuff_39 {res : Int32 × eM} {k58 : eM → Option (Int32 × eM)} (hk58 : ∀ (M : eM), k58 M = some res → ScZ M res.2) {k70 : Int32 → eM → Option (Int32 × eM)} (hk70 : ∀ (x1 : Int32) (M : eM), k70 x1 M = some res → ScZ M res.2) : ∀ (n : Nat) (x1 : Int32) (x2 : Int32) (M : eM), fX11_readStuff_39 k58 k70 n x1 x2 M = some res → ScZ M res.2 := by
  intro n
  induction n with
  | zero => intro x1 x2 M hf; cases hf
  | succ n ih =>
    intro x1 x2 M hf
    replace hf := (fX11_readStuff_39.eq_2 ..).symm.trans hf
    rcases ea_if_s hf with ⟨_, hf⟩ | ⟨_, hf⟩
    · exact ScZ.trans ScZ.rf (hk70 _ _ hf)
    · obtain ⟨_, hf⟩ := ea_ck_s hf
      rcases ea_if_s hf with ⟨_, hf⟩ | ⟨_, hf⟩
      · exact ScZ.trans ScZ.rf (hk58 _ hf)
      · exact ScZ.trans ScZ.rf (ih _ _ _ hf)
theorem zX11_readStuff_58 {res : Int32 × eM} : ∀ (M : eM), fX11_readStuff_58 M = some res → ScZ M res.2 := by
  intro M hf
  replace hf := (fX11_readStuff_58.eq_1 ..).symm.trans hf
  obtain ⟨r2, M3, he, hf⟩ := ea_ci_s hf
  have hs := ScZ.trans ScZ.rf (zX11_fails he)
  obtain ⟨_, hf⟩ := ea_ck_s hf
  exact scz_endi hf hs
theorem zX11_readStuff_161 {res : Int32 × eM} {k86 : Int32 → Int32 → eM → Option (Int32 × eM)} (hk86 : ∀ (x1 : Int32) (x2 : Int32) (M : eM), k86 x1 x2 M = some res → ScZ M res.2) : ∀ (x1 : Int32) (x2 : Int32) (M : eM), fX11_readStuff_161 k86 x1 x2 M = some res → ScZ M res.2 := by
  intro x1 x2 M hf
  replace hf := (fX11_readStuff_161.eq_1 ..).symm.trans hf
  obtain ⟨_, hf⟩ := ea_ck_s hf
  exact ScZ.trans (ScZ.rf.pI rfl) (hk86 _ _ _ hf)
theorem zX11_readStuff_86 {res : Int32 × eM} {k184 : eM → Option (Int32 × eM)} (hk184 : ∀ (M : eM), k184 M = some res → ScZ M res.2) : ∀ (n : Nat) (x1 : Int32) (x2 : Int32) (M : eM), fX11_readStuff_86 k184 n x1 x2 M = some res → ScZ M res.2 := by
  intro n
  induction n with
  | zero => intro x1 x2 M hf; cases hf
  | succ n ih =>
    intro x1 x2 M hf
    replace hf := (fX11_readStuff_86.eq_2 ..).symm.trans hf
    rcases ea_if_s hf with ⟨_, hf⟩ | ⟨_, hf⟩
    · exact ScZ.trans ScZ.rf (hk184 _ hf)
    · rcases ea_if_s hf with ⟨_, hf⟩ | ⟨_, hf⟩
      · rcases ea_if_s hf with ⟨_, hf⟩ | ⟨_, hf⟩
        · obtain ⟨r14, M15, he, hf⟩ := ea_ci_s hf
          have hs := ScZ.trans ScZ.rf (zX11_readNumber he)
          rcases ea_if_s hf with ⟨_, hf⟩ | ⟨_, hf⟩
          · exact scz_endi hf hs
          · exact ScZ.trans hs (zX11_readStuff_161 ih _ _ _ hf)
        · rcases ea_if_s hf with ⟨_, hf⟩ | ⟨_, hf⟩
          · obtain ⟨r10, M11, he, hf⟩ := ea_ci_s hf
            have hs := ScZ.trans ScZ.rf (zX11_readNumber he)
            rcases ea_if_s hf with ⟨_, hf⟩ | ⟨_, hf⟩
            · exact scz_endi hf hs
            · exact ScZ.trans hs (zX11_readStuff_161 ih _ _ _ hf)
          · obtain ⟨r6, M7, he, hf⟩ := ea_ci_s hf
            have hs := ScZ.trans ScZ.rf (zX11_readNumber he)
            rcases ea_if_s hf with ⟨_, hf⟩ | ⟨_, hf⟩
            · exact scz_endi hf hs
            · exact ScZ.trans hs (zX11_readStuff_161 ih _ _ _ hf)
      · obtain ⟨r18, M19, he, hf⟩ := ea_ci_s hf
        have hs := ScZ.trans ScZ.rf (zX11_readNumber he)
        rcases ea_if_s hf with ⟨_, hf⟩ | ⟨_, hf⟩
        · exact scz_endi hf hs
        · exact ScZ.trans hs (zX11_readStuff_161 ih _ _ _ hf)
theorem zX11_readStuff_184 {res : Int32 × eM} : ∀ (M : eM), fX11_readStuff_184 M = some res → ScZ M res.2 := by
  intro M hf
  replace hf := (fX11_readStuff_184.eq_1 ..).symm.trans hf
  exact scz_endi hf (ScZ.rf.pI rfl)
theorem zX11_readStuff_70 {res : Int32 × eM} : ∀ (x1 : Int32) (M : eM), fX11_readStuff_70 x1 M = some res → ScZ M res.2 := by
  intro x1 M hf
  replace hf := (fX11_readStuff_70.eq_1 ..).symm.trans hf
  obtain ⟨_, hf⟩ := ea_ck_s hf
  obtain ⟨M3, he, hf⟩ := ea_cv_s hf
  have hs := ScZ.trans (ScZ.rf.pL) (zX11_scan he)
  exact ScZ.trans hs (zX11_readStuff_86 (zX11_readStuff_184) ea_N _ _ _ hf)
theorem zX11_readStuff_0 {res : Int32 × eM} : ∀ (M : eM), fX11_readStuff_0 M = some res → ScZ M res.2 := by
  intro M hf
  replace hf := (fX11_readStuff_0.eq_1 ..).symm.trans hf
  obtain ⟨y1, _, hf⟩ := ea_lt_s hf
  rcases ea_if_s hf with ⟨_, hf⟩ | ⟨_, hf⟩
  · obtain ⟨r12, M13, he, hf⟩ := ea_ci_s hf
    have hs := ScZ.trans ScZ.rf (zX11_fails he)
    obtain ⟨_, hf⟩ := ea_ck_s hf
    exact scz_endi hf hs
  · obtain ⟨M5, he, hf⟩ := ea_cv_s hf
    have hs := ScZ.trans ScZ.rf (zX11_scan he)
    rcases ea_if_s hf with ⟨_, hf⟩ | ⟨_, hf⟩
    · exact ScZ.trans hs (zX11_readStuff_39 (zX11_readStuff_58) (zX11_readStuff_70) ea_N _ _ _ hf)
    · obtain ⟨r8, M9, he, hf⟩ := ea_ci_s hf
      have hs := ScZ.trans hs (zX11_fails he)
      obtain ⟨_, hf⟩ := ea_ck_s hf
      exact scz_endi hf hs
theorem zX11_readStuff {res : Int32 × eM} {M : eM} (hf : fX11_readStuff M = some res) : ScZ M res.2 := zX11_readStuff_0  _ hf
theorem zX11_readClause_224 {res : Int32 × eM} : ∀ (n : Nat) (x2 : Int32) (M : eM), fX11_readClause_224 n x2 M = some res → ScZ M res.2 := by
  intro n
  induction n with
  | zero => intro x2 M hf; cases hf
  | succ n ih =>
    intro x2 M hf
    replace hf := (fX11_readClause_224.eq_2 ..).symm.trans hf
    rcases ea_if_s hf with ⟨_, hf⟩ | ⟨_, hf⟩
    · exact scz_endi hf ScZ.rf
    · obtain ⟨r3, M4, he, hf⟩ := ea_ci_s hf
      have hs := ScZ.trans ScZ.rf (zX11_readNumber he)
      rcases ea_if_s hf with ⟨_, hf⟩ | ⟨_, hf⟩
      · exact scz_endi hf hs
      · obtain ⟨_, hf⟩ := ea_ck_s hf
        exact ScZ.trans (hs.pI rfl) (ih _ _ hf)
theorem zX11_readClause_16 {res : Int32 × eM} : ∀ (t0 : Int32) (M : eM), fX11_readClause_16 t0 M = some res → ScZ M res.2 := by
  intro t0 M hf
  replace hf := (fX11_readClause_16.eq_1 ..).symm.trans hf
  rcases ea_if_s hf with ⟨_, hf⟩ | ⟨_, hf⟩
  · obtain ⟨r52, M53, he, hf⟩ := ea_ci_s hf
    have hs := ScZ.trans ScZ.rf (zX11_readStuff he)
    obtain ⟨_, hf⟩ := ea_ck_s hf
    exact scz_endi hf hs
  · rcases ea_if_s hf with ⟨_, hf⟩ | ⟨_, hf⟩
    · obtain ⟨r48, M49, he, hf⟩ := ea_ci_s hf
      have hs := ScZ.trans ScZ.rf (zX11_readStory he)
      obtain ⟨_, hf⟩ := ea_ck_s hf
      exact scz_endi hf hs
    · rcases ea_if_s hf with ⟨_, hf⟩ | ⟨_, hf⟩
      · obtain ⟨r44, M45, he, hf⟩ := ea_ci_s hf
        have hs := ScZ.trans ScZ.rf (zX11_readEye he)
        obtain ⟨_, hf⟩ := ea_ck_s hf
        exact scz_endi hf hs
      · rcases ea_if_s hf with ⟨_, hf⟩ | ⟨_, hf⟩
        · obtain ⟨r40, M41, he, hf⟩ := ea_ci_s hf
          have hs := ScZ.trans ScZ.rf (zX11_readMended he)
          obtain ⟨_, hf⟩ := ea_ck_s hf
          exact scz_endi hf hs
        · obtain ⟨r6, M7, he, hf⟩ := ea_ci_s hf
          have hs := ScZ.trans ScZ.rf (zX11_in he)
          rcases ea_if_s hf with ⟨_, hf⟩ | ⟨_, hf⟩
          · obtain ⟨r36, M37, he, hf⟩ := ea_ci_s hf
            have hs := ScZ.trans hs (zX11_fails he)
            obtain ⟨_, hf⟩ := ea_ck_s hf
            exact scz_endi hf hs
          · rcases ea_if_s hf with ⟨_, hf⟩ | ⟨_, hf⟩
            · obtain ⟨r32, M33, he, hf⟩ := ea_ci_s hf
              have hs := ScZ.trans hs (zX11_fails he)
              obtain ⟨_, hf⟩ := ea_ck_s hf
              exact scz_endi hf hs
            · obtain ⟨M11, he, hf⟩ := ea_cv_s hf
              have hs := ScZ.trans (hs.pI rfl) (zX11_scan he)
              rcases ea_if_s hf with ⟨_, hf⟩ | ⟨_, hf⟩
              · obtain ⟨r28, M29, he, hf⟩ := ea_ci_s hf
                have hs := ScZ.trans hs (zX11_readNumber he)
                rcases ea_if_s hf with ⟨_, hf⟩ | ⟨_, hf⟩
                · exact scz_endi hf hs
                · exact scz_endi hf (hs.pI rfl)
              · rcases ea_if_s hf with ⟨_, hf⟩ | ⟨_, hf⟩
                · obtain ⟨r24, M25, he, hf⟩ := ea_ci_s hf
                  have hs := ScZ.trans hs (zX11_readNumber he)
                  rcases ea_if_s hf with ⟨_, hf⟩ | ⟨_, hf⟩
                  · exact scz_endi hf hs
                  · exact scz_endi hf (hs.pI rfl)
                · rcases ea_if_s hf with ⟨_, hf⟩ | ⟨_, hf⟩
                  · obtain ⟨r16, M17, he, hf⟩ := ea_ci_s hf
                    have hs := ScZ.trans hs (zX11_readNumber he)
                    rcases ea_if_s hf with ⟨_, hf⟩ | ⟨_, hf⟩
                    · exact scz_endi hf hs
                    · obtain ⟨r20, M21, he, hf⟩ := ea_ci_s hf
                      have hs := ScZ.trans (hs.pI rfl) (zX11_readNumber he)
                      rcases ea_if_s hf with ⟨_, hf⟩ | ⟨_, hf⟩
                      · exact scz_endi hf hs
                      · exact scz_endi hf (hs.pI rfl)
                  · exact ScZ.trans hs (zX11_readClause_224 ea_N _ _ hf)
theorem zX11_readClause_0 {res : Int32 × eM} : ∀ (M : eM), fX11_readClause_0 M = some res → ScZ M res.2 := by
  intro M hf
  replace hf := (fX11_readClause_0.eq_1 ..).symm.trans hf
  rcases ea_if_s hf with ⟨_, hf⟩ | ⟨_, hf⟩
  · exact ScZ.trans ScZ.rf (zX11_readClause_16 _ _ hf)
  · exact ScZ.trans ScZ.rf (zX11_readClause_16 _ _ hf)
theorem zX11_readClause {res : Int32 × eM} {M : eM} (hf : fX11_readClause M = some res) : ScZ M res.2 := zX11_readClause_0  _ hf
theorem zX11_cloth_38 {res : Int32 × eM} {k63 : eM → Option (Int32 × eM)} (hk63 : ∀ (M : eM), k63 M = some res → ScZ M res.2) {k81 : Int32 → eM → Option (Int32 × eM)} (hk81 : ∀ (x1 : Int32) (M : eM), k81 x1 M = some res → ScZ M res.2) : ∀ (n : Nat) (x1 : Int32) (M : eM), fX11_cloth_38 k63 k81 n x1 M = some res → ScZ M res.2 := by
  intro n
  induction n with
  | zero => intro x1 M hf; cases hf
  | succ n ih =>
    intro x1 M hf
    replace hf := (fX11_cloth_38.eq_2 ..).symm.trans hf
    rcases ea_if_s hf with ⟨_, hf⟩ | ⟨_, hf⟩
    · exact ScZ.trans ScZ.rf (hk81 _ _ hf)
    · obtain ⟨r3, M4, he, hf⟩ := ea_ci_s hf
      have hs := ScZ.trans ScZ.rf (zX11_readClause he)
      rcases ea_if_s hf with ⟨_, hf⟩ | ⟨_, hf⟩
      · exact scz_endi hf hs
      · rcases ea_if_s hf with ⟨_, hf⟩ | ⟨_, hf⟩
        · obtain ⟨M8, he, hf⟩ := ea_cv_s hf
          have hs := ScZ.trans hs (zX11_scan he)
          exact ScZ.trans hs (ih _ _ hf)
        · exact ScZ.trans hs (hk63 _ hf)
theorem zX11_cloth_63 {res : Int32 × eM} : ∀ (M : eM), fX11_cloth_63 M = some res → ScZ M res.2 := by
  intro M hf
  replace hf := (fX11_cloth_63.eq_1 ..).symm.trans hf
  obtain ⟨r2, M3, he, hf⟩ := ea_ci_s hf
  have hs := ScZ.trans ScZ.rf (zX11_fails he)
  exact scz_endi hf hs
theorem zX11_cloth_81 {res : Int32 × eM} : ∀ (x1 : Int32) (M : eM), fX11_cloth_81 x1 M = some res → ScZ M res.2 := by
  intro x1 M hf
  replace hf := (fX11_cloth_81.eq_1 ..).symm.trans hf
  obtain ⟨M2, he, hf⟩ := ea_cv_s hf
  have hs := ScZ.trans ScZ.rf (zX11_settle he)
  exact scz_endi hf (hs.pI rfl)
theorem zX11_cloth_0 {res : Int32 × eM} : ∀ (M : eM), fX11_cloth_0 M = some res → ScZ M res.2 := by
  intro M hf
  replace hf := (fX11_cloth_0.eq_1 ..).symm.trans hf
  obtain ⟨M2, he, hf⟩ := ea_cv_s hf
  have hs := ScZ.trans (((ScZ.rf.pI rfl).pI rfl).pI rfl) (zX11_scan he)
  obtain ⟨M4, he, hf⟩ := ea_cv_s hf
  have hs := ScZ.trans ((hs.pI rfl).pI rfl) (zX11_begin he)
  exact ScZ.trans hs (zX11_cloth_38 (zX11_cloth_63) (zX11_cloth_81) ea_N _ _ hf)
theorem zX11_cloth {res : Int32 × eM} {M : eM} (hf : fX11_cloth M = some res) : ScZ M res.2 := zX11_cloth_0  _ hf
