theorem zX11_seenBy_6 {res : Int32 × eM} : ∀ (n : Nat) (x1 : Int32) (x2 : Int32) (x3 : Int32) (x4 : Int32) (x5 : Int32) (M : eM), fX11_seenBy_6 n x1 x2 x3 x4 x5 M = some res → ScZ M res.2 := by
  intro n
  induction n with
  | zero => intro x1 x2 x3 x4 x5 M hf; cases hf
  | succ n ih =>
    intro x1 x2 x3 x4 x5 M hf
    replace hf := (fX11_seenBy_6.eq_2 ..).symm.trans hf
    rcases ea_if_s hf with ⟨_, hf⟩ | ⟨_, hf⟩
    · exact scz_endi hf ScZ.rf
    · obtain ⟨_, hf⟩ := ea_ck_s hf
      obtain ⟨_, hf⟩ := ea_ck_s hf
      obtain ⟨_, hf⟩ := ea_ck_s hf
      obtain ⟨y5, _, hf⟩ := ea_lt_s hf
      exact ScZ.trans ScZ.rf (ih _ _ _ _ _ _ hf)
theorem zX11_seenBy_0 {res : Int32 × eM} : ∀ (x1 : Int32) (x2 : Int32) (x3 : Int32) (M : eM), fX11_seenBy_0 x1 x2 x3 M = some res → ScZ M res.2 := by
  intro x1 x2 x3 M hf
  replace hf := (fX11_seenBy_0.eq_1 ..).symm.trans hf
  exact ScZ.trans ScZ.rf (zX11_seenBy_6 ea_N _ _ _ _ _ _ hf)
theorem zX11_seenBy {res : Int32 × eM} {x1 : Int32} {x2 : Int32} {x3 : Int32} {M : eM} (hf : fX11_seenBy x1 x2 x3 M = some res) : ScZ M res.2 := zX11_seenBy_0 _ _ _ _ hf
theorem zX11_throwLight_30 {res : eM} {k78 : Int32 → Int32 → Int32 → Int32 → eM → Option (eM)} (hk78 : ∀ (x2 : Int32) (x3 : Int32) (x5 : Int32) (x6 : Int32) (M : eM), k78 x2 x3 x5 x6 M = some res → ScZ M res) : ∀ (n : Nat) (x2 : Int32) (x3 : Int32) (x5 : Int32) (x6 : Int32) (x7 : Int32) (M : eM), fX11_throwLight_30 k78 n x2 x3 x5 x6 x7 M = some res → ScZ M res := by
  intro n
  induction n with
  | zero => intro x2 x3 x5 x6 x7 M hf; cases hf
  | succ n ih =>
    intro x2 x3 x5 x6 x7 M hf
    replace hf := (fX11_throwLight_30.eq_2 ..).symm.trans hf
    rcases ea_if_s hf with ⟨_, hf⟩ | ⟨_, hf⟩
    · exact ScZ.trans ScZ.rf (hk78 _ _ _ _ _ hf)
    · obtain ⟨_, hf⟩ := ea_ck_s hf
      obtain ⟨_, hf⟩ := ea_ck_s hf
      obtain ⟨r5, M6, he, hf⟩ := ea_ci_s hf
      have hs := ScZ.trans ScZ.rf (zX11_greyOf he)
      obtain ⟨_, hf⟩ := ea_ck_s hf
      exact ScZ.trans (hs.pI rfl) (ih _ _ _ _ _ _ hf)
theorem zX11_throwLight_78 {res : eM} {k13 : Int32 → Int32 → Int32 → Int32 → eM → Option (eM)} (hk13 : ∀ (x2 : Int32) (x3 : Int32) (x5 : Int32) (x6 : Int32) (M : eM), k13 x2 x3 x5 x6 M = some res → ScZ M res) : ∀ (x2 : Int32) (x3 : Int32) (x5 : Int32) (x6 : Int32) (M : eM), fX11_throwLight_78 k13 x2 x3 x5 x6 M = some res → ScZ M res := by
  intro x2 x3 x5 x6 M hf
  replace hf := (fX11_throwLight_78.eq_1 ..).symm.trans hf
  exact ScZ.trans ScZ.rf (hk13 _ _ _ _ _ hf)
theorem zX11_throwLight_13 {res : eM} {k84 : Int32 → Int32 → eM → Option (eM)} (hk84 : ∀ (x2 : Int32) (x3 : Int32) (M : eM), k84 x2 x3 M = some res → ScZ M res) : ∀ (n : Nat) (x2 : Int32) (x3 : Int32) (x5 : Int32) (x6 : Int32) (M : eM), fX11_throwLight_13 k84 n x2 x3 x5 x6 M = some res → ScZ M res := by
  intro n
  induction n with
  | zero => intro x2 x3 x5 x6 M hf; cases hf
  | succ n ih =>
    intro x2 x3 x5 x6 M hf
    replace hf := (fX11_throwLight_13.eq_2 ..).symm.trans hf
    rcases ea_if_s hf with ⟨_, hf⟩ | ⟨_, hf⟩
    · exact ScZ.trans ScZ.rf (hk84 _ _ _ hf)
    · obtain ⟨_, hf⟩ := ea_ck_s hf
      exact ScZ.trans (ScZ.rf.pI rfl) (zX11_throwLight_30 (zX11_throwLight_78 ih) ea_N _ _ _ _ _ _ hf)
theorem zX11_throwLight_212 {res : eM} {k171 : Int32 → Int32 → Int32 → Int32 → Int32 → Int32 → Int32 → Int32 → eM → Option (eM)} (hk171 : ∀ (x2 : Int32) (x3 : Int32) (x6 : Int32) (x7 : Int32) (x8 : Int32) (x9 : Int32) (x10 : Int32) (x11 : Int32) (M : eM), k171 x2 x3 x6 x7 x8 x9 x10 x11 M = some res → ScZ M res) : ∀ (x2 : Int32) (x3 : Int32) (x6 : Int32) (x7 : Int32) (x8 : Int32) (x9 : Int32) (x11 : Int32) (t0 : Int32) (M : eM), fX11_throwLight_212 k171 x2 x3 x6 x7 x8 x9 x11 t0 M = some res → ScZ M res := by
  intro x2 x3 x6 x7 x8 x9 x11 t0 M hf
  replace hf := (fX11_throwLight_212.eq_1 ..).symm.trans hf
  exact ScZ.trans ScZ.rf (hk171 _ _ _ _ _ _ _ _ _ hf)
theorem zX11_throwLight_171 {res : eM} {k220 : Int32 → Int32 → Int32 → Int32 → Int32 → Int32 → Int32 → eM → Option (eM)} (hk220 : ∀ (x2 : Int32) (x3 : Int32) (x6 : Int32) (x7 : Int32) (x8 : Int32) (x9 : Int32) (x10 : Int32) (M : eM), k220 x2 x3 x6 x7 x8 x9 x10 M = some res → ScZ M res) : ∀ (n : Nat) (x2 : Int32) (x3 : Int32) (x6 : Int32) (x7 : Int32) (x8 : Int32) (x9 : Int32) (x10 : Int32) (x11 : Int32) (M : eM), fX11_throwLight_171 k220 n x2 x3 x6 x7 x8 x9 x10 x11 M = some res → ScZ M res := by
  intro n
  induction n with
  | zero => intro x2 x3 x6 x7 x8 x9 x10 x11 M hf; cases hf
  | succ n ih =>
    intro x2 x3 x6 x7 x8 x9 x10 x11 M hf
    replace hf := (fX11_throwLight_171.eq_2 ..).symm.trans hf
    rcases ea_if_s hf with ⟨_, hf⟩ | ⟨_, hf⟩
    · exact ScZ.trans ScZ.rf (hk220 _ _ _ _ _ _ _ _ hf)
    · obtain ⟨r3, M4, he, hf⟩ := ea_ci_s hf
      have hs := ScZ.trans ScZ.rf (zX11_seenBy he)
      obtain ⟨_, hf⟩ := ea_ck_s hf
      obtain ⟨r7, M8, he, hf⟩ := ea_ci_s hf
      have hs := ScZ.trans hs (zX11_plain he)
      rcases ea_if_s hf with ⟨_, hf⟩ | ⟨_, hf⟩
      · exact ScZ.trans hs (zX11_throwLight_212 ih _ _ _ _ _ _ _ _ _ hf)
      · exact ScZ.trans hs (zX11_throwLight_212 ih _ _ _ _ _ _ _ _ _ hf)
theorem zX11_throwLight_314 {res : eM} {k149 : Int32 → Int32 → Int32 → Int32 → Int32 → Int32 → eM → Option (eM)} (hk149 : ∀ (x2 : Int32) (x3 : Int32) (x6 : Int32) (x7 : Int32) (x8 : Int32) (x9 : Int32) (M : eM), k149 x2 x3 x6 x7 x8 x9 M = some res → ScZ M res) : ∀ (x2 : Int32) (x3 : Int32) (x6 : Int32) (x7 : Int32) (x8 : Int32) (x9 : Int32) (M : eM), fX11_throwLight_314 k149 x2 x3 x6 x7 x8 x9 M = some res → ScZ M res := by
  intro x2 x3 x6 x7 x8 x9 M hf
  replace hf := (fX11_throwLight_314.eq_1 ..).symm.trans hf
  exact ScZ.trans (ScZ.rf.pI rfl) (hk149 _ _ _ _ _ _ _ hf)
theorem zX11_throwLight_276 {res : eM} {k149 : Int32 → Int32 → Int32 → Int32 → Int32 → Int32 → eM → Option (eM)} (hk149 : ∀ (x2 : Int32) (x3 : Int32) (x6 : Int32) (x7 : Int32) (x8 : Int32) (x9 : Int32) (M : eM), k149 x2 x3 x6 x7 x8 x9 M = some res → ScZ M res) : ∀ (x2 : Int32) (x3 : Int32) (x6 : Int32) (x7 : Int32) (x8 : Int32) (x9 : Int32) (x10 : Int32) (t0 : Int32) (M : eM), fX11_throwLight_276 k149 x2 x3 x6 x7 x8 x9 x10 t0 M = some res → ScZ M res := by
  intro x2 x3 x6 x7 x8 x9 x10 t0 M hf
  replace hf := (fX11_throwLight_276.eq_1 ..).symm.trans hf
  rcases ea_if_s hf with ⟨_, hf⟩ | ⟨_, hf⟩
  · exact ScZ.trans ScZ.rf (zX11_throwLight_314 hk149 _ _ _ _ _ _ _ hf)
  · obtain ⟨y2, _, hf⟩ := ea_lt_s hf
    obtain ⟨y4, _, hf⟩ := ea_lt_s hf
    obtain ⟨y6, _, hf⟩ := ea_lt_s hf
    exact ScZ.trans ScZ.rf (zX11_throwLight_314 hk149 _ _ _ _ _ _ _ hf)
theorem zX11_throwLight_271 {res : eM} {k149 : Int32 → Int32 → Int32 → Int32 → Int32 → Int32 → eM → Option (eM)} (hk149 : ∀ (x2 : Int32) (x3 : Int32) (x6 : Int32) (x7 : Int32) (x8 : Int32) (x9 : Int32) (M : eM), k149 x2 x3 x6 x7 x8 x9 M = some res → ScZ M res) : ∀ (x2 : Int32) (x3 : Int32) (x6 : Int32) (x7 : Int32) (x8 : Int32) (x9 : Int32) (x10 : Int32) (M : eM), fX11_throwLight_271 k149 x2 x3 x6 x7 x8 x9 x10 M = some res → ScZ M res := by
  intro x2 x3 x6 x7 x8 x9 x10 M hf
  replace hf := (fX11_throwLight_271.eq_1 ..).symm.trans hf
  exact ScZ.trans ScZ.rf (zX11_throwLight_276 hk149 _ _ _ _ _ _ _ _ _ hf)
theorem zX11_throwLight_275 {res : eM} {k149 : Int32 → Int32 → Int32 → Int32 → Int32 → Int32 → eM → Option (eM)} (hk149 : ∀ (x2 : Int32) (x3 : Int32) (x6 : Int32) (x7 : Int32) (x8 : Int32) (x9 : Int32) (M : eM), k149 x2 x3 x6 x7 x8 x9 M = some res → ScZ M res) : ∀ (x2 : Int32) (x3 : Int32) (x6 : Int32) (x7 : Int32) (x8 : Int32) (x9 : Int32) (x10 : Int32) (M : eM), fX11_throwLight_275 k149 x2 x3 x6 x7 x8 x9 x10 M = some res → ScZ M res := by
  intro x2 x3 x6 x7 x8 x9 x10 M hf
  replace hf := (fX11_throwLight_275.eq_1 ..).symm.trans hf
  exact ScZ.trans ScZ.rf (zX11_throwLight_276 hk149 _ _ _ _ _ _ _ _ _ hf)
theorem zX11_throwLight_220 {res : eM} {k149 : Int32 → Int32 → Int32 → Int32 → Int32 → Int32 → eM → Option (eM)} (hk149 : ∀ (x2 : Int32) (x3 : Int32) (x6 : Int32) (x7 : Int32) (x8 : Int32) (x9 : Int32) (M : eM), k149 x2 x3 x6 x7 x8 x9 M = some res → ScZ M res) : ∀ (x2 : Int32) (x3 : Int32) (x6 : Int32) (x7 : Int32) (x8 : Int32) (x9 : Int32) (x10 : Int32) (M : eM), fX11_throwLight_220 k149 x2 x3 x6 x7 x8 x9 x10 M = some res → ScZ M res := by
  intro x2 x3 x6 x7 x8 x9 x10 M hf
  replace hf := (fX11_throwLight_220.eq_1 ..).symm.trans hf
  rcases ea_if_s hf with ⟨_, hf⟩ | ⟨_, hf⟩
  · exact ScZ.trans ScZ.rf (zX11_throwLight_271 hk149 _ _ _ _ _ _ _ _ hf)
  · rcases ea_if_s hf with ⟨_, hf⟩ | ⟨_, hf⟩
    · exact ScZ.trans ScZ.rf (zX11_throwLight_271 hk149 _ _ _ _ _ _ _ _ hf)
    · rcases ea_if_s hf with ⟨_, hf⟩ | ⟨_, hf⟩
      · rcases ea_if_s hf with ⟨_, hf⟩ | ⟨_, hf⟩
        · exact ScZ.trans ScZ.rf (zX11_throwLight_275 hk149 _ _ _ _ _ _ _ _ hf)
        · exact ScZ.trans ScZ.rf (zX11_throwLight_271 hk149 _ _ _ _ _ _ _ _ hf)
      · exact ScZ.trans ScZ.rf (zX11_throwLight_275 hk149 _ _ _ _ _ _ _ _ hf)
theorem zX11_throwLight_149 {res : eM} {k328 : Int32 → Int32 → Int32 → Int32 → Int32 → Int32 → eM → Option (eM)} (hk328 : ∀ (x2 : Int32) (x3 : Int32) (x6 : Int32) (x7 : Int32) (x8 : Int32) (x9 : Int32) (M : eM), k328 x2 x3 x6 x7 x8 x9 M = some res → ScZ M res) : ∀ (n : Nat) (x2 : Int32) (x3 : Int32) (x6 : Int32) (x7 : Int32) (x8 : Int32) (x9 : Int32) (M : eM), fX11_throwLight_149 k328 n x2 x3 x6 x7 x8 x9 M = some res → ScZ M res := by
  intro n
  induction n with
  | zero => intro x2 x3 x6 x7 x8 x9 M hf; cases hf
  | succ n ih =>
    intro x2 x3 x6 x7 x8 x9 M hf
    replace hf := (fX11_throwLight_149.eq_2 ..).symm.trans hf
    rcases ea_if_s hf with ⟨_, hf⟩ | ⟨_, hf⟩
    · exact ScZ.trans ScZ.rf (hk328 _ _ _ _ _ _ _ hf)
    · exact ScZ.trans ScZ.rf (zX11_throwLight_171 (zX11_throwLight_220 ih) ea_N _ _ _ _ _ _ _ _ _ hf)
theorem zX11_throwLight_328 {res : eM} {k126 : Int32 → Int32 → Int32 → Int32 → Int32 → Int32 → eM → Option (eM)} (hk126 : ∀ (x2 : Int32) (x3 : Int32) (x6 : Int32) (x7 : Int32) (x8 : Int32) (x9 : Int32) (M : eM), k126 x2 x3 x6 x7 x8 x9 M = some res → ScZ M res) : ∀ (x2 : Int32) (x3 : Int32) (x6 : Int32) (x7 : Int32) (x8 : Int32) (x9 : Int32) (M : eM), fX11_throwLight_328 k126 x2 x3 x6 x7 x8 x9 M = some res → ScZ M res := by
  intro x2 x3 x6 x7 x8 x9 M hf
  replace hf := (fX11_throwLight_328.eq_1 ..).symm.trans hf
  exact ScZ.trans (ScZ.rf.pI rfl) (hk126 _ _ _ _ _ _ _ hf)
theorem zX11_throwLight_126 {res : eM} {k342 : Int32 → Int32 → Int32 → Int32 → Int32 → Int32 → eM → Option (eM)} (hk342 : ∀ (x2 : Int32) (x3 : Int32) (x6 : Int32) (x7 : Int32) (x8 : Int32) (x9 : Int32) (M : eM), k342 x2 x3 x6 x7 x8 x9 M = some res → ScZ M res) : ∀ (n : Nat) (x2 : Int32) (x3 : Int32) (x6 : Int32) (x7 : Int32) (x8 : Int32) (x9 : Int32) (M : eM), fX11_throwLight_126 k342 n x2 x3 x6 x7 x8 x9 M = some res → ScZ M res := by
  intro n
  induction n with
  | zero => intro x2 x3 x6 x7 x8 x9 M hf; cases hf
  | succ n ih =>
    intro x2 x3 x6 x7 x8 x9 M hf
    replace hf := (fX11_throwLight_126.eq_2 ..).symm.trans hf
    rcases ea_if_s hf with ⟨_, hf⟩ | ⟨_, hf⟩
    · exact ScZ.trans ScZ.rf (hk342 _ _ _ _ _ _ _ hf)
    · exact ScZ.trans (ScZ.rf.pI rfl) (zX11_throwLight_149 (zX11_throwLight_328 ih) ea_N _ _ _ _ _ _ _ hf)
theorem zX11_throwLight_342 {res : eM} {k103 : Int32 → Int32 → Int32 → Int32 → Int32 → Int32 → eM → Option (eM)} (hk103 : ∀ (x2 : Int32) (x3 : Int32) (x6 : Int32) (x7 : Int32) (x8 : Int32) (x9 : Int32) (M : eM), k103 x2 x3 x6 x7 x8 x9 M = some res → ScZ M res) : ∀ (x2 : Int32) (x3 : Int32) (x6 : Int32) (x7 : Int32) (x8 : Int32) (x9 : Int32) (M : eM), fX11_throwLight_342 k103 x2 x3 x6 x7 x8 x9 M = some res → ScZ M res := by
  intro x2 x3 x6 x7 x8 x9 M hf
  replace hf := (fX11_throwLight_342.eq_1 ..).symm.trans hf
  exact ScZ.trans (ScZ.rf.pI rfl) (hk103 _ _ _ _ _ _ _ hf)
theorem zX11_throwLight_103 {res : eM} {k356 : Int32 → Int32 → Int32 → Int32 → eM → Option (eM)} (hk356 : ∀ (x6 : Int32) (x7 : Int32) (x8 : Int32) (x9 : Int32) (M : eM), k356 x6 x7 x8 x9 M = some res → ScZ M res) : ∀ (n : Nat) (x2 : Int32) (x3 : Int32) (x6 : Int32) (x7 : Int32) (x8 : Int32) (x9 : Int32) (M : eM), fX11_throwLight_103 k356 n x2 x3 x6 x7 x8 x9 M = some res → ScZ M res := by
  intro n
  induction n with
  | zero => intro x2 x3 x6 x7 x8 x9 M hf; cases hf
  | succ n ih =>
    intro x2 x3 x6 x7 x8 x9 M hf
    replace hf := (fX11_throwLight_103.eq_2 ..).symm.trans hf
    rcases ea_if_s hf with ⟨_, hf⟩ | ⟨_, hf⟩
    · exact ScZ.trans ScZ.rf (hk356 _ _ _ _ _ hf)
    · exact ScZ.trans (ScZ.rf.pI rfl) (zX11_throwLight_126 (zX11_throwLight_342 ih) ea_N _ _ _ _ _ _ _ hf)
theorem zX11_throwLight_356 {res : eM} : ∀ (x6 : Int32) (x7 : Int32) (x8 : Int32) (x9 : Int32) (M : eM), fX11_throwLight_356 x6 x7 x8 x9 M = some res → ScZ M res := by
  intro x6 x7 x8 x9 M hf
  replace hf := (fX11_throwLight_356.eq_1 ..).symm.trans hf
  exact scz_endv hf ((((ScZ.rf.pI rfl).pI rfl).pI rfl).pI rfl)
theorem zX11_throwLight_84 {res : eM} : ∀ (x2 : Int32) (x3 : Int32) (M : eM), fX11_throwLight_84 x2 x3 M = some res → ScZ M res := by
  intro x2 x3 M hf
  replace hf := (fX11_throwLight_84.eq_1 ..).symm.trans hf
  exact ScZ.trans (ScZ.rf.pI rfl) (zX11_throwLight_103 (zX11_throwLight_356) ea_N _ _ _ _ _ _ _ hf)
theorem zX11_throwLight_0 {res : eM} : ∀ (x1 : Int32) (x2 : Int32) (x3 : Int32) (x4 : Int32) (x5 : Int32) (M : eM), fX11_throwLight_0 x1 x2 x3 x4 x5 M = some res → ScZ M res := by
  intro x1 x2 x3 x4 x5 M hf
  replace hf := (fX11_throwLight_0.eq_1 ..).symm.trans hf
  obtain ⟨M2, he, hf⟩ := ea_cv_s hf
  have hs := ScZ.trans ScZ.rf (zX11_findFits he)
  exact ScZ.trans hs (zX11_throwLight_13 (zX11_throwLight_84) ea_N _ _ _ _ _ hf)
theorem zX11_throwLight {res : eM} {x1 : Int32} {x2 : Int32} {x3 : Int32} {x4 : Int32} {x5 : Int32} {M : eM} (hf : fX11_throwLight x1 x2 x3 x4 x5 M = some res) : ScZ M res := zX11_throwLight_0 _ _ _ _ _ _ hf
theorem zX11_cannot_99 {res : Int32 × eM} {k44 : Int32 → Int32 → Int32 → Int32 → Int32 → Int32 → eM → Option (Int32 × eM)} (hk44 : ∀ (x1 : Int32) (x2 : Int32) (x3 : Int32) (x4 : Int32) (x5 : Int32) (x6 : Int32) (M : eM), k44 x1 x2 x3 x4 x5 x6 M = some res → ScZ M res.2) : ∀ (x1 : Int32) (x2 : Int32) (x3 : Int32) (x4 : Int32) (x5 : Int32) (x6 : Int32) (M : eM), fX11_cannot_99 k44 x1 x2 x3 x4 x5 x6 M = some res → ScZ M res.2 := by
  intro x1 x2 x3 x4 x5 x6 M hf
  replace hf := (fX11_cannot_99.eq_1 ..).symm.trans hf
  exact ScZ.trans ScZ.rf (hk44 _ _ _ _ _ _ _ hf)
theorem zX11_cannot_96 {res : Int32 × eM} {k44 : Int32 → Int32 → Int32 → Int32 → Int32 → Int32 → eM → Option (Int32 × eM)} (hk44 : ∀ (x1 : Int32) (x2 : Int32) (x3 : Int32) (x4 : Int32) (x5 : Int32) (x6 : Int32) (M : eM), k44 x1 x2 x3 x4 x5 x6 M = some res → ScZ M res.2) : ∀ (x1 : Int32) (x2 : Int32) (x3 : Int32) (x4 : Int32) (x6 : Int32) (t0 : Int32) (t1 : Int32) (M : eM), fX11_cannot_96 k44 x1 x2 x3 x4 x6 t0 t1 M = some res → ScZ M res.2 := by
  intro x1 x2 x3 x4 x6 t0 t1 M hf
  replace hf := (fX11_cannot_96.eq_1 ..).symm.trans hf
  exact ScZ.trans ScZ.rf (zX11_cannot_99 hk44 _ _ _ _ _ _ _ hf)
theorem zX11_cannot_44 {res : Int32 × eM} : ∀ (n : Nat) (x1 : Int32) (x2 : Int32) (x3 : Int32) (x4 : Int32) (x5 : Int32) (x6 : Int32) (M : eM), fX11_cannot_44 n x1 x2 x3 x4 x5 x6 M = some res → ScZ M res.2 := by
  intro n
  induction n with
  | zero => intro x1 x2 x3 x4 x5 x6 M hf; cases hf
  | succ n ih =>
    intro x1 x2 x3 x4 x5 x6 M hf
    replace hf := (fX11_cannot_44.eq_2 ..).symm.trans hf
    obtain ⟨r2, M3, he, hf⟩ := ea_ci_s hf
    have hs := ScZ.trans ScZ.rf (zX11_cells he)
    rcases ea_if_s hf with ⟨_, hf⟩ | ⟨_, hf⟩
    · exact scz_endi hf hs
    · obtain ⟨r6, M7, he, hf⟩ := ea_ci_s hf
      have hs := ScZ.trans hs (zX11_frontOf he)
      rcases ea_if_s hf with ⟨_, hf⟩ | ⟨_, hf⟩
      · obtain ⟨M10, he, hf⟩ := ea_cv_s hf
        have hs := ScZ.trans hs (zX11_throwLight he)
        rcases ea_if_s hf with ⟨_, hf⟩ | ⟨_, hf⟩
        · exact ScZ.trans hs (zX11_cannot_96 ih _ _ _ _ _ _ _ _ hf)
        · exact ScZ.trans hs (zX11_cannot_96 ih _ _ _ _ _ _ _ _ hf)
      · exact ScZ.trans hs (zX11_cannot_99 ih _ _ _ _ _ _ _ hf)
theorem zX11_cannot_0 {res : Int32 × eM} : ∀ (x1 : Int32) (x2 : Int32) (x3 : Int32) (x4 : Int32) (M : eM), fX11_cannot_0 x1 x2 x3 x4 M = some res → ScZ M res.2 := by
  intro x1 x2 x3 x4 M hf
  replace hf := (fX11_cannot_0.eq_1 ..).symm.trans hf
  obtain ⟨r2, M3, he, hf⟩ := ea_ci_s hf
  have hs := ScZ.trans ScZ.rf (zX11_isEye he)
  rcases ea_if_s hf with ⟨_, hf⟩ | ⟨_, hf⟩
  · exact scz_endi hf hs
  · obtain ⟨r6, M7, he, hf⟩ := ea_ci_s hf
    have hs := ScZ.trans hs (zX11_isStory he)
    rcases ea_if_s hf with ⟨_, hf⟩ | ⟨_, hf⟩
    · exact scz_endi hf hs
    · obtain ⟨r10, M11, he, hf⟩ := ea_ci_s hf
      have hs := ScZ.trans hs (zX11_isBound he)
      rcases ea_if_s hf with ⟨_, hf⟩ | ⟨_, hf⟩
      · exact scz_endi hf hs
      · obtain ⟨r14, M15, he, hf⟩ := ea_ci_s hf
        have hs := ScZ.trans hs (zX11_in he)
        rcases ea_if_s hf with ⟨_, hf⟩ | ⟨_, hf⟩
        · exact scz_endi hf hs
        · exact ScZ.trans hs (zX11_cannot_44 ea_N _ _ _ _ _ _ _ hf)
theorem zX11_cannot {res : Int32 × eM} {x1 : Int32} {x2 : Int32} {x3 : Int32} {x4 : Int32} {M : eM} (hf : fX11_cannot x1 x2 x3 x4 M = some res) : ScZ M res.2 := zX11_cannot_0 _ _ _ _ _ hf
theorem zX11_fails_0 {res : Int32 × eM} : ∀ (x1 : Int32) (M : eM), fX11_fails_0 x1 M = some res → ScZ M res.2 := by
  intro x1 M hf
  replace hf := (fX11_fails_0.eq_1 ..).symm.trans hf
  exact scz_endi hf ((ScZ.rf.pI rfl).pI rfl)
theorem zX11_fails {res : Int32 × eM} {x1 : Int32} {M : eM} (hf : fX11_fails x1 M = some res) : ScZ M res.2 := zX11_fails_0 _ _ hf
theorem zX11_isKey_0 {res : Int32 × eM} : ∀ (x1 : Int32) (M : eM), fX11_isKey_0 x1 M = some res → ScZ M res.2 := by
  intro x1 M hf
  replace hf := (fX11_isKey_0.eq_1 ..).symm.trans hf
  rcases ea_if_s hf with ⟨_, hf⟩ | ⟨_, hf⟩
  · rcases ea_if_s hf with ⟨_, hf⟩ | ⟨_, hf⟩
    · exact scz_endi hf ScZ.rf
    · exact scz_endi hf ScZ.rf
  · exact scz_endi hf ScZ.rf
theorem zX11_isKey {res : Int32 × eM} {x1 : Int32} {M : eM} (hf : fX11_isKey x1 M = some res) : ScZ M res.2 := zX11_isKey_0 _ _ hf
theorem zX11_isDigit_0 {res : Int32 × eM} : ∀ (x0 : Int32) (M : eM), fX11_isDigit_0 x0 M = some res → ScZ M res.2 := by
  intro x0 M hf
  replace hf := (fX11_isDigit_0.eq_1 ..).symm.trans hf
  rcases ea_if_s hf with ⟨_, hf⟩ | ⟨_, hf⟩
  · exact scz_endi hf ScZ.rf
  · rcases ea_if_s hf with ⟨_, hf⟩ | ⟨_, hf⟩
    · exact scz_endi hf ScZ.rf
    · exact scz_endi hf ScZ.rf
theorem zX11_isDigit {res : Int32 × eM} {x0 : Int32} {M : eM} (hf : fX11_isDigit x0 M = some res) : ScZ M res.2 := zX11_isDigit_0 _ _ hf
theorem zX11_isSmall_0 {res : Int32 × eM} : ∀ (x0 : Int32) (M : eM), fX11_isSmall_0 x0 M = some res → ScZ M res.2 := by
  intro x0 M hf
  replace hf := (fX11_isSmall_0.eq_1 ..).symm.trans hf
  rcases ea_if_s hf with ⟨_, hf⟩ | ⟨_, hf⟩
  · exact scz_endi hf ScZ.rf
  · rcases ea_if_s hf with ⟨_, hf⟩ | ⟨_, hf⟩
    · exact scz_endi hf ScZ.rf
    · exact scz_endi hf ScZ.rf
theorem zX11_isSmall {res : Int32 × eM} {x0 : Int32} {M : eM} (hf : fX11_isSmall x0 M = some res) : ScZ M res.2 := zX11_isSmall_0 _ _ hf
theorem zX11_comes_2 {res : eM} {a0 : Nat} (ha0 : ∀ k, isZ a0 k = false) : ∀ (n : Nat) (x1 : Int32) (x2 : Int32) (M : eM), fX11_comes_2 a0 n x1 x2 M = some res → ScZ M res := by
  intro n
  induction n with
  | zero => intro x1 x2 M hf; cases hf
  | succ n ih =>
    intro x1 x2 M hf
    replace hf := (fX11_comes_2.eq_2 ..).symm.trans hf
    rcases ea_if_s hf with ⟨_, hf⟩ | ⟨_, hf⟩
    · exact scz_endv hf ScZ.rf
    · obtain ⟨_, hf⟩ := ea_ck_s hf
      obtain ⟨_, hf⟩ := ea_ck_s hf
      exact ScZ.trans (ScZ.rf.pI (ha0 _)) (ih _ _ _ hf)
theorem zX11_comes_0 {res : eM} {a0 : Nat} (ha0 : ∀ k, isZ a0 k = false) : ∀ (x1 : Int32) (M : eM), fX11_comes_0 a0 x1 M = some res → ScZ M res := by
  intro x1 M hf
  replace hf := (fX11_comes_0.eq_1 ..).symm.trans hf
  exact ScZ.trans ScZ.rf (zX11_comes_2 ha0 ea_N _ _ _ hf)
theorem zX11_comes {res : eM} {a0 : Nat} {x1 : Int32} (ha0 : ∀ k, isZ a0 k = false) {M : eM} (hf : fX11_comes a0 x1 M = some res) : ScZ M res := zX11_comes_0 ha0 _ _ hf
theorem zX11_settle_46 {res : eM} {k66 : eM → Option (eM)} (hk66 : ∀ (M : eM), k66 M = some res → ScZ M res) : ∀ (n : Nat) (x1 : Int32) (M : eM), fX11_settle_46 k66 n x1 M = some res → ScZ M res := by
  intro n
  induction n with
  | zero => intro x1 M hf; cases hf
  | succ n ih =>
    intro x1 M hf
    replace hf := (fX11_settle_46.eq_2 ..).symm.trans hf
    rcases ea_if_s hf with ⟨_, hf⟩ | ⟨_, hf⟩
    · exact ScZ.trans ScZ.rf (hk66 _ hf)
    · obtain ⟨_, hf⟩ := ea_ck_s hf
      exact ScZ.trans (ScZ.rf.pI rfl) (ih _ _ hf)
theorem zX11_settle_68 {res : eM} {k86 : eM → Option (eM)} (hk86 : ∀ (M : eM), k86 M = some res → ScZ M res) : ∀ (n : Nat) (x1 : Int32) (M : eM), fX11_settle_68 k86 n x1 M = some res → ScZ M res := by
  intro n
  induction n with
  | zero => intro x1 M hf; cases hf
  | succ n ih =>
    intro x1 M hf
    replace hf := (fX11_settle_68.eq_2 ..).symm.trans hf
    rcases ea_if_s hf with ⟨_, hf⟩ | ⟨_, hf⟩
    · exact ScZ.trans ScZ.rf (hk86 _ hf)
    · obtain ⟨_, hf⟩ := ea_ck_s hf
      exact ScZ.trans (ScZ.rf.pI rfl) (ih _ _ hf)
theorem zX11_settle_105 {res : eM} {k125 : Int32 → eM → Option (eM)} (hk125 : ∀ (x1 : Int32) (M : eM), k125 x1 M = some res → ScZ M res) : ∀ (n : Nat) (x1 : Int32) (x2 : Int32) (M : eM), fX11_settle_105 k125 n x1 x2 M = some res → ScZ M res := by
  intro n
  induction n with
  | zero => intro x1 x2 M hf; cases hf
  | succ n ih =>
    intro x1 x2 M hf
    replace hf := (fX11_settle_105.eq_2 ..).symm.trans hf
    rcases ea_if_s hf with ⟨_, hf⟩ | ⟨_, hf⟩
    · exact ScZ.trans ScZ.rf (hk125 _ _ hf)
    · obtain ⟨M3, he, hf⟩ := ea_cv_s hf
      have hs := ScZ.trans ScZ.rf (zX11_addThread he)
      exact ScZ.trans hs (ih _ _ _ hf)
theorem zX11_settle_125 {res : eM} {k93 : Int32 → eM → Option (eM)} (hk93 : ∀ (x1 : Int32) (M : eM), k93 x1 M = some res → ScZ M res) : ∀ (x1 : Int32) (M : eM), fX11_settle_125 k93 x1 M = some res → ScZ M res := by
  intro x1 M hf
  replace hf := (fX11_settle_125.eq_1 ..).symm.trans hf
  exact ScZ.trans ScZ.rf (hk93 _ _ hf)
theorem zX11_settle_93 {res : eM} {k131 : eM → Option (eM)} (hk131 : ∀ (M : eM), k131 M = some res → ScZ M res) : ∀ (n : Nat) (x1 : Int32) (M : eM), fX11_settle_93 k131 n x1 M = some res → ScZ M res := by
  intro n
  induction n with
  | zero => intro x1 M hf; cases hf
  | succ n ih =>
    intro x1 M hf
    replace hf := (fX11_settle_93.eq_2 ..).symm.trans hf
    rcases ea_if_s hf with ⟨_, hf⟩ | ⟨_, hf⟩
    · exact ScZ.trans ScZ.rf (hk131 _ hf)
    · exact ScZ.trans ScZ.rf (zX11_settle_105 (zX11_settle_125 ih) ea_N _ _ _ hf)
theorem zX11_settle_178 {res : eM} {k200 : Int32 → Int32 → Int32 → eM → Option (eM)} (hk200 : ∀ (x1 : Int32) (x2 : Int32) (x3 : Int32) (M : eM), k200 x1 x2 x3 M = some res → ScZ M res) : ∀ (n : Nat) (x1 : Int32) (x2 : Int32) (x3 : Int32) (x4 : Int32) (M : eM), fX11_settle_178 k200 n x1 x2 x3 x4 M = some res → ScZ M res := by
  intro n
  induction n with
  | zero => intro x1 x2 x3 x4 M hf; cases hf
  | succ n ih =>
    intro x1 x2 x3 x4 M hf
    replace hf := (fX11_settle_178.eq_2 ..).symm.trans hf
    rcases ea_if_s hf with ⟨_, hf⟩ | ⟨_, hf⟩
    · exact ScZ.trans ScZ.rf (hk200 _ _ _ _ hf)
    · obtain ⟨M3, he, hf⟩ := ea_cv_s hf
      have hs := ScZ.trans ScZ.rf (zX11_addThread he)
      exact ScZ.trans hs (ih _ _ _ _ _ hf)
theorem zX11_settle_200 {res : eM} {k165 : Int32 → Int32 → Int32 → eM → Option (eM)} (hk165 : ∀ (x1 : Int32) (x2 : Int32) (x3 : Int32) (M : eM), k165 x1 x2 x3 M = some res → ScZ M res) : ∀ (x1 : Int32) (x2 : Int32) (x3 : Int32) (M : eM), fX11_settle_200 k165 x1 x2 x3 M = some res → ScZ M res := by
  intro x1 x2 x3 M hf
  replace hf := (fX11_settle_200.eq_1 ..).symm.trans hf
  exact ScZ.trans ScZ.rf (hk165 _ _ _ _ hf)
theorem zX11_settle_165 {res : eM} {k206 : Int32 → Int32 → eM → Option (eM)} (hk206 : ∀ (x1 : Int32) (x2 : Int32) (M : eM), k206 x1 x2 M = some res → ScZ M res) : ∀ (n : Nat) (x1 : Int32) (x2 : Int32) (x3 : Int32) (M : eM), fX11_settle_165 k206 n x1 x2 x3 M = some res → ScZ M res := by
  intro n
  induction n with
  | zero => intro x1 x2 x3 M hf; cases hf
  | succ n ih =>
    intro x1 x2 x3 M hf
    replace hf := (fX11_settle_165.eq_2 ..).symm.trans hf
    rcases ea_if_s hf with ⟨_, hf⟩ | ⟨_, hf⟩
    · exact ScZ.trans ScZ.rf (hk206 _ _ _ hf)
    · exact ScZ.trans ScZ.rf (zX11_settle_178 (zX11_settle_200 ih) ea_N _ _ _ _ _ hf)
theorem zX11_settle_206 {res : eM} {k155 : Int32 → Int32 → eM → Option (eM)} (hk155 : ∀ (x1 : Int32) (x2 : Int32) (M : eM), k155 x1 x2 M = some res → ScZ M res) : ∀ (x1 : Int32) (x2 : Int32) (M : eM), fX11_settle_206 k155 x1 x2 M = some res → ScZ M res := by
  intro x1 x2 M hf
  replace hf := (fX11_settle_206.eq_1 ..).symm.trans hf
  exact ScZ.trans ScZ.rf (hk155 _ _ _ hf)
theorem zX11_settle_155 {res : eM} {k212 : Int32 → eM → Option (eM)} (hk212 : ∀ (x1 : Int32) (M : eM), k212 x1 M = some res → ScZ M res) : ∀ (n : Nat) (x1 : Int32) (x2 : Int32) (M : eM), fX11_settle_155 k212 n x1 x2 M = some res → ScZ M res := by
  intro n
  induction n with
  | zero => intro x1 x2 M hf; cases hf
  | succ n ih =>
    intro x1 x2 M hf
    replace hf := (fX11_settle_155.eq_2 ..).symm.trans hf
    rcases ea_if_s hf with ⟨_, hf⟩ | ⟨_, hf⟩
    · exact ScZ.trans ScZ.rf (hk212 _ _ hf)
    · exact ScZ.trans ScZ.rf (zX11_settle_165 (zX11_settle_206 ih) ea_N _ _ _ _ hf)
theorem zX11_settle_212 {res : eM} {k133 : Int32 → eM → Option (eM)} (hk133 : ∀ (x1 : Int32) (M : eM), k133 x1 M = some res → ScZ M res) : ∀ (x1 : Int32) (M : eM), fX11_settle_212 k133 x1 M = some res → ScZ M res := by
  intro x1 M hf
  replace hf := (fX11_settle_212.eq_1 ..).symm.trans hf
  exact ScZ.trans ScZ.rf (hk133 _ _ hf)
theorem zX11_settle_133 {res : eM} : ∀ (n : Nat) (x1 : Int32) (M : eM), fX11_settle_133 n x1 M = some res → ScZ M res := by
  intro n
  induction n with
  | zero => intro x1 M hf; cases hf
  | succ n ih =>
    intro x1 M hf
    replace hf := (fX11_settle_133.eq_2 ..).symm.trans hf
    rcases ea_if_s hf with ⟨_, hf⟩ | ⟨_, hf⟩
    · exact scz_endv hf ScZ.rf
    · rcases ea_if_s hf with ⟨_, hf⟩ | ⟨_, hf⟩
      · exact ScZ.trans ScZ.rf (zX11_settle_155 (zX11_settle_212 ih) ea_N _ _ _ hf)
      · exact scz_endv hf ScZ.rf
theorem zX11_settle_131 {res : eM} : ∀ (M : eM), fX11_settle_131 M = some res → ScZ M res := by
  intro M hf
  replace hf := (fX11_settle_131.eq_1 ..).symm.trans hf
  exact ScZ.trans ScZ.rf (zX11_settle_133 ea_N _ _ hf)
theorem zX11_settle_86 {res : eM} : ∀ (M : eM), fX11_settle_86 M = some res → ScZ M res := by
  intro M hf
  replace hf := (fX11_settle_86.eq_1 ..).symm.trans hf
  exact ScZ.trans (ScZ.rf.pI rfl) (zX11_settle_93 (zX11_settle_131) ea_N _ _ hf)
theorem zX11_settle_66 {res : eM} : ∀ (M : eM), fX11_settle_66 M = some res → ScZ M res := by
  intro M hf
  replace hf := (fX11_settle_66.eq_1 ..).symm.trans hf
  exact ScZ.trans ScZ.rf (zX11_settle_68 (zX11_settle_86) ea_N _ _ hf)
theorem zX11_settle_0 {res : eM} : ∀ (M : eM), fX11_settle_0 M = some res → ScZ M res := by
  intro M hf
  replace hf := (fX11_settle_0.eq_1 ..).symm.trans hf
  obtain ⟨M2, he, hf⟩ := ea_cv_s hf
  have hs := ScZ.trans ScZ.rf (zX11_comes (fun _ => rfl) he)
  obtain ⟨M4, he, hf⟩ := ea_cv_s hf
  have hs := ScZ.trans hs (zX11_comes (fun _ => rfl) he)
  obtain ⟨M6, he, hf⟩ := ea_cv_s hf
  have hs := ScZ.trans hs (zX11_comes (fun _ => rfl) he)
  obtain ⟨M8, he, hf⟩ := ea_cv_s hf
  have hs := ScZ.trans hs (zX11_comes (fun _ => rfl) he)
  obtain ⟨M10, he, hf⟩ := ea_cv_s hf
  have hs := ScZ.trans hs (zX11_comes (fun _ => rfl) he)
  exact ScZ.trans hs (zX11_settle_46 (zX11_settle_66) ea_N _ _ hf)
theorem zX11_settle {res : eM} {M : eM} (hf : fX11_settle M = some res) : ScZ M res := zX11_settle_0  _ hf
theorem zX11_isColour_0 {res : Int32 × eM} : ∀ (x0 : Int32) (M : eM), fX11_isColour_0 x0 M = some res → ScZ M res.2 := by
  intro x0 M hf
  replace hf := (fX11_isColour_0.eq_1 ..).symm.trans hf
  obtain ⟨r2, M3, he, hf⟩ := ea_ci_s hf
  have hs := ScZ.trans ScZ.rf (zX11_in he)
  obtain ⟨_, hf⟩ := ea_ck_s hf
  exact scz_endi hf hs
theorem zX11_isColour {res : Int32 × eM} {x0 : Int32} {M : eM} (hf : fX11_isColour x0 M = some res) : ScZ M res.2 := zX11_isColour_0 _ _ hf
theorem zX11_isThread_0 {res : Int32 × eM} : ∀ (x1 : Int32) (M : eM), fX11_isThread_0 x1 M = some res → ScZ M res.2 := by
  intro x1 M hf
  replace hf := (fX11_isThread_0.eq_1 ..).symm.trans hf
  obtain ⟨r2, M3, he, hf⟩ := ea_ci_s hf
  have hs := ScZ.trans ScZ.rf (zX11_in he)
  obtain ⟨_, hf⟩ := ea_ck_s hf
  exact scz_endi hf hs
theorem zX11_isThread {res : Int32 × eM} {x1 : Int32} {M : eM} (hf : fX11_isThread x1 M = some res) : ScZ M res.2 := zX11_isThread_0 _ _ hf
theorem zX11_colour_0 {res : Int32 × eM} : ∀ (x1 : Int32) (x2 : Int32) (x3 : Int32) (M : eM), fX11_colour_0 x1 x2 x3 M = some res → ScZ M res.2 := by
  intro x1 x2 x3 M hf
  replace hf := (fX11_colour_0.eq_1 ..).symm.trans hf
  obtain ⟨r2, M3, he, hf⟩ := ea_ci_s hf
  have hs := ScZ.trans ScZ.rf (zX11_isThread he)
  rcases ea_if_s hf with ⟨_, hf⟩ | ⟨_, hf⟩
  · exact scz_endi hf hs
  · obtain ⟨r6, M7, he, hf⟩ := ea_ci_s hf
    have hs := ScZ.trans hs (zX11_areHours he)
    rcases ea_if_s hf with ⟨_, hf⟩ | ⟨_, hf⟩
    · exact scz_endi hf hs
    · obtain ⟨r10, M11, he, hf⟩ := ea_ci_s hf
      have hs := ScZ.trans hs (zX11_isColour he)
      rcases ea_if_s hf with ⟨_, hf⟩ | ⟨_, hf⟩
      · exact scz_endi hf hs
      · obtain ⟨r14, M15, he, hf⟩ := ea_ci_s hf
        have hs := ScZ.trans hs (zX11_colourOf he)
        exact scz_endi hf hs
theorem zX11_colour {res : Int32 × eM} {x1 : Int32} {x2 : Int32} {x3 : Int32} {M : eM} (hf : fX11_colour x1 x2 x3 M = some res) : ScZ M res.2 := zX11_colour_0 _ _ _ _ hf
theorem zX11_common_4 {res : Int32 × eM} : ∀ (n : Nat) (x2 : Int32) (x3 : Int32) (M : eM), fX11_common_4 n x2 x3 M = some res → ScZ M res.2 := by
  intro n
  induction n with
  | zero => intro x2 x3 M hf; cases hf
  | succ n ih =>
    intro x2 x3 M hf
    replace hf := (fX11_common_4.eq_2 ..).symm.trans hf
    rcases ea_if_s hf with ⟨_, hf⟩ | ⟨_, hf⟩
    · exact scz_endi hf ScZ.rf
    · obtain ⟨_, hf⟩ := ea_ck_s hf
      exact ScZ.trans ScZ.rf (ih _ _ _ hf)
theorem zX11_common_0 {res : Int32 × eM} : ∀ (x0 : Int32) (x1 : Int32) (M : eM), fX11_common_0 x0 x1 M = some res → ScZ M res.2 := by
  intro x0 x1 M hf
  replace hf := (fX11_common_0.eq_1 ..).symm.trans hf
  exact ScZ.trans ScZ.rf (zX11_common_4 ea_N _ _ _ hf)
theorem zX11_common {res : Int32 × eM} {x0 : Int32} {x1 : Int32} {M : eM} (hf : fX11_common x0 x1 M = some res) : ScZ M res.2 := zX11_common_0 _ _ _ hf
theorem zX11_count_0 {res : Int32 × eM} : ∀ (x1 : Int32) (M : eM), fX11_count_0 x1 M = some res → ScZ M res.2 := by
  intro x1 M hf
  replace hf := (fX11_count_0.eq_1 ..).symm.trans hf
  rcases ea_if_s hf with ⟨_, hf⟩ | ⟨_, hf⟩
  · exact scz_endi hf ScZ.rf
  · rcases ea_if_s hf with ⟨_, hf⟩ | ⟨_, hf⟩
    · exact scz_endi hf ScZ.rf
    · rcases ea_if_s hf with ⟨_, hf⟩ | ⟨_, hf⟩
      · exact scz_endi hf ScZ.rf
      · rcases ea_if_s hf with ⟨_, hf⟩ | ⟨_, hf⟩
        · exact scz_endi hf ScZ.rf
        · rcases ea_if_s hf with ⟨_, hf⟩ | ⟨_, hf⟩
          · exact scz_endi hf ScZ.rf
          · rcases ea_if_s hf with ⟨_, hf⟩ | ⟨_, hf⟩
            · exact scz_endi hf ScZ.rf
            · exact scz_endi hf ScZ.rf
theorem zX11_count {res : Int32 × eM} {x1 : Int32} {M : eM} (hf : fX11_count x1 M = some res) : ScZ M res.2 := zX11_count_0 _ _ hf
theorem zX11_draw_0 {res : Int32 × eM} : ∀ (x1 : Int32) (M : eM), fX11_draw_0 x1 M = some res → ScZ M res.2 := by
  intro x1 M hf
  replace hf := (fX11_draw_0.eq_1 ..).symm.trans hf
  obtain ⟨_, hf⟩ := ea_ck_s hf
  exact scz_endi hf (ScZ.rf.pL)
theorem zX11_draw {res : Int32 × eM} {x1 : Int32} {M : eM} (hf : fX11_draw x1 M = some res) : ScZ M res.2 := zX11_draw_0 _ _ hf
theorem zX11_thread_65 {res : Int32 × eM} {k3 : Int32 → Int32 → Int32 → Int32 → Int32 → eM → Option (Int32 × eM)} (hk3 : ∀ (x1 : Int32) (x2 : Int32) (x3 : Int32) (x4 : Int32) (x5 : Int32) (M : eM), k3 x1 x2 x3 x4 x5 M = some res → ScZ M res.2) : ∀ (x1 : Int32) (x2 : Int32) (x3 : Int32) (x4 : Int32) (x5 : Int32) (M : eM), fX11_thread_65 k3 x1 x2 x3 x4 x5 M = some res → ScZ M res.2 := by
  intro x1 x2 x3 x4 x5 M hf
  replace hf := (fX11_thread_65.eq_1 ..).symm.trans hf
  exact ScZ.trans ScZ.rf (hk3 _ _ _ _ _ _ hf)
theorem zX11_thread_3 {res : Int32 × eM} : ∀ (n : Nat) (x1 : Int32) (x2 : Int32) (x3 : Int32) (x4 : Int32) (x5 : Int32) (M : eM), fX11_thread_3 n x1 x2 x3 x4 x5 M = some res → ScZ M res.2 := by
  intro n
  induction n with
  | zero => intro x1 x2 x3 x4 x5 M hf; cases hf
  | succ n ih =>
    intro x1 x2 x3 x4 x5 M hf
    replace hf := (fX11_thread_3.eq_2 ..).symm.trans hf
    rcases ea_if_s hf with ⟨_, hf⟩ | ⟨_, hf⟩
    · exact scz_endi hf ScZ.rf
    · obtain ⟨_, hf⟩ := ea_ck_s hf
      rcases ea_if_s hf with ⟨_, hf⟩ | ⟨_, hf⟩
      · obtain ⟨_, hf⟩ := ea_ck_s hf
        rcases ea_if_s hf with ⟨_, hf⟩ | ⟨_, hf⟩
        · obtain ⟨_, hf⟩ := ea_ck_s hf
          rcases ea_if_s hf with ⟨_, hf⟩ | ⟨_, hf⟩
          · rcases ea_if_s hf with ⟨_, hf⟩ | ⟨_, hf⟩
            · exact scz_endi hf ScZ.rf
            · obtain ⟨_, hf⟩ := ea_ck_s hf
              rcases ea_if_s hf with ⟨_, hf⟩ | ⟨_, hf⟩
              · exact scz_endi hf ScZ.rf
              · exact ScZ.trans ScZ.rf (zX11_thread_65 ih _ _ _ _ _ _ hf)
          · exact ScZ.trans ScZ.rf (zX11_thread_65 ih _ _ _ _ _ _ hf)
        · exact ScZ.trans ScZ.rf (zX11_thread_65 ih _ _ _ _ _ _ hf)
      · exact ScZ.trans ScZ.rf (zX11_thread_65 ih _ _ _ _ _ _ hf)
theorem zX11_thread_0 {res : Int32 × eM} : ∀ (x1 : Int32) (x2 : Int32) (x3 : Int32) (x4 : Int32) (M : eM), fX11_thread_0 x1 x2 x3 x4 M = some res → ScZ M res.2 := by
  intro x1 x2 x3 x4 M hf
  replace hf := (fX11_thread_0.eq_1 ..).symm.trans hf
  exact ScZ.trans ScZ.rf (zX11_thread_3 ea_N _ _ _ _ _ _ hf)
theorem zX11_thread {res : Int32 × eM} {x1 : Int32} {x2 : Int32} {x3 : Int32} {x4 : Int32} {M : eM} (hf : fX11_thread x1 x2 x3 x4 M = some res) : ScZ M res.2 := zX11_thread_0 _ _ _ _ _ hf
theorem zX11_drawThread_48 {res : Int32 × eM} : ∀ (x1 : Int32) (x2 : Int32) (M : eM), fX11_drawThread_48 x1 x2 M = some res → ScZ M res.2 := by
  intro x1 x2 M hf
  replace hf := (fX11_drawThread_48.eq_1 ..).symm.trans hf
  obtain ⟨r2, M3, he, hf⟩ := ea_ci_s hf
  have hs := ScZ.trans ScZ.rf (zX11_thread he)
  exact scz_endi hf hs
theorem zX11_drawThread_82 {res : Int32 × eM} : ∀ (x1 : Int32) (x2 : Int32) (t0 : Int32) (M : eM), fX11_drawThread_82 x1 x2 t0 M = some res → ScZ M res.2 := by
  intro x1 x2 t0 M hf
  replace hf := (fX11_drawThread_82.eq_1 ..).symm.trans hf
  obtain ⟨r2, M3, he, hf⟩ := ea_ci_s hf
  have hs := ScZ.trans ScZ.rf (zX11_draw he)
  rcases ea_if_s hf with ⟨_, hf⟩ | ⟨_, hf⟩
  · obtain ⟨r6, M7, he, hf⟩ := ea_ci_s hf
    have hs := ScZ.trans hs (zX11_thread he)
    exact scz_endi hf hs
  · obtain ⟨r9, M10, he, hf⟩ := ea_ci_s hf
    have hs := ScZ.trans hs (zX11_thread he)
    exact scz_endi hf hs
theorem zX11_drawThread_0 {res : Int32 × eM} : ∀ (M : eM), fX11_drawThread_0 M = some res → ScZ M res.2 := by
  intro M hf
  replace hf := (fX11_drawThread_0.eq_1 ..).symm.trans hf
  obtain ⟨r2, M3, he, hf⟩ := ea_ci_s hf
  have hs := ScZ.trans ScZ.rf (zX11_draw he)
  obtain ⟨r5, M6, he, hf⟩ := ea_ci_s hf
  have hs := ScZ.trans hs (zX11_draw he)
  obtain ⟨r8, M9, he, hf⟩ := ea_ci_s hf
  have hs := ScZ.trans hs (zX11_draw he)
  rcases ea_if_s hf with ⟨_, hf⟩ | ⟨_, hf⟩
  · rcases ea_if_s hf with ⟨_, hf⟩ | ⟨_, hf⟩
    · exact ScZ.trans hs (zX11_drawThread_48 _ _ _ hf)
    · rcases ea_if_s hf with ⟨_, hf⟩ | ⟨_, hf⟩
      · obtain ⟨r14, M15, he, hf⟩ := ea_ci_s hf
        have hs := ScZ.trans hs (zX11_draw he)
        rcases ea_if_s hf with ⟨_, hf⟩ | ⟨_, hf⟩
        · exact ScZ.trans hs (zX11_drawThread_82 _ _ _ _ hf)
        · exact ScZ.trans hs (zX11_drawThread_82 _ _ _ _ hf)
      · exact ScZ.trans hs (zX11_drawThread_48 _ _ _ hf)
  · exact ScZ.trans hs (zX11_drawThread_48 _ _ _ hf)
theorem zX11_drawThread {res : Int32 × eM} {M : eM} (hf : fX11_drawThread M = some res) : ScZ M res.2 := zX11_drawThread_0  _ hf
theorem zX11_end_0 {res : Int32 × eM} : ∀ (x1 : Int32) (M : eM), fX11_end_0 x1 M = some res → ScZ M res.2 := by
  intro x1 M hf
  replace hf := (fX11_end_0.eq_1 ..).symm.trans hf
  rcases ea_if_s hf with ⟨_, hf⟩ | ⟨_, hf⟩
  · exact scz_endi hf ScZ.rf
  · rcases ea_if_s hf with ⟨_, hf⟩ | ⟨_, hf⟩
    · exact scz_endi hf (ScZ.rf.pI rfl)
    · exact scz_endi hf ScZ.rf
theorem zX11_end {res : Int32 × eM} {x1 : Int32} {M : eM} (hf : fX11_end x1 M = some res) : ScZ M res.2 := zX11_end_0 _ _ hf
theorem zX11_fault_0 {res : Int32 × eM} : ∀ (x1 : Int32) (M : eM), fX11_fault_0 x1 M = some res → ScZ M res.2 := by
  intro x1 M hf
  replace hf := (fX11_fault_0.eq_1 ..).symm.trans hf
  rcases ea_if_s hf with ⟨_, hf⟩ | ⟨_, hf⟩
  · exact scz_endi hf ScZ.rf
  · rcases ea_if_s hf with ⟨_, hf⟩ | ⟨_, hf⟩
    · exact scz_endi hf ScZ.rf
    · exact scz_endi hf ScZ.rf
theorem zX11_fault {res : Int32 × eM} {x1 : Int32} {M : eM} (hf : fX11_fault x1 M = some res) : ScZ M res.2 := zX11_fault_0 _ _ hf
theorem zX11_feed_73 {res : Int32 × eM} {k109 : Int32 → Int32 → Int32 → Int32 → Int32 → Int32 → eM → Option (Int32 × eM)} (hk109 : ∀ (x1 : Int32) (x2 : Int32) (x3 : Int32) (x4 : Int32) (x5 : Int32) (x6 : Int32) (M : eM), k109 x1 x2 x3 x4 x5 x6 M = some res → ScZ M res.2) : ∀ (n : Nat) (x1 : Int32) (x2 : Int32) (x3 : Int32) (x4 : Int32) (x5 : Int32) (x6 : Int32) (x7 : Int32) (x8 : Int32) (M : eM), fX11_feed_73 k109 n x1 x2 x3 x4 x5 x6 x7 x8 M = some res → ScZ M res.2 := by
  intro n
  induction n with
  | zero => intro x1 x2 x3 x4 x5 x6 x7 x8 M hf; cases hf
  | succ n ih =>
    intro x1 x2 x3 x4 x5 x6 x7 x8 M hf
    replace hf := (fX11_feed_73.eq_2 ..).symm.trans hf
    rcases ea_if_s hf with ⟨_, hf⟩ | ⟨_, hf⟩
    · exact ScZ.trans ScZ.rf (hk109 _ _ _ _ _ _ _ hf)
    · obtain ⟨_, hf⟩ := ea_ck_s hf
      exact ScZ.trans ((ScZ.rf.pI rfl).pI rfl) (ih _ _ _ _ _ _ _ _ _ hf)
theorem zX11_feed_109 {res : Int32 × eM} {k19 : Int32 → Int32 → Int32 → Int32 → Int32 → Int32 → eM → Option (Int32 × eM)} (hk19 : ∀ (x1 : Int32) (x2 : Int32) (x3 : Int32) (x4 : Int32) (x5 : Int32) (x6 : Int32) (M : eM), k19 x1 x2 x3 x4 x5 x6 M = some res → ScZ M res.2) : ∀ (x1 : Int32) (x2 : Int32) (x3 : Int32) (x4 : Int32) (x5 : Int32) (x6 : Int32) (M : eM), fX11_feed_109 k19 x1 x2 x3 x4 x5 x6 M = some res → ScZ M res.2 := by
  intro x1 x2 x3 x4 x5 x6 M hf
  replace hf := (fX11_feed_109.eq_1 ..).symm.trans hf
  exact ScZ.trans ScZ.rf (hk19 _ _ _ _ _ _ _ hf)
theorem zX11_feed_67 {res : Int32 × eM} {k19 : Int32 → Int32 → Int32 → Int32 → Int32 → Int32 → eM → Option (Int32 × eM)} (hk19 : ∀ (x1 : Int32) (x2 : Int32) (x3 : Int32) (x4 : Int32) (x5 : Int32) (x6 : Int32) (M : eM), k19 x1 x2 x3 x4 x5 x6 M = some res → ScZ M res.2) : ∀ (x1 : Int32) (x2 : Int32) (x3 : Int32) (x4 : Int32) (x5 : Int32) (x6 : Int32) (t0 : Int32) (M : eM), fX11_feed_67 k19 x1 x2 x3 x4 x5 x6 t0 M = some res → ScZ M res.2 := by
  intro x1 x2 x3 x4 x5 x6 t0 M hf
  replace hf := (fX11_feed_67.eq_1 ..).symm.trans hf
  exact ScZ.trans ScZ.rf (zX11_feed_73 (zX11_feed_109 hk19) ea_N _ _ _ _ _ _ _ _ _ hf)
theorem zX11_feed_19 {res : Int32 × eM} {k115 : eM → Option (Int32 × eM)} (hk115 : ∀ (M : eM), k115 M = some res → ScZ M res.2) : ∀ (n : Nat) (x1 : Int32) (x2 : Int32) (x3 : Int32) (x4 : Int32) (x5 : Int32) (x6 : Int32) (M : eM), fX11_feed_19 k115 n x1 x2 x3 x4 x5 x6 M = some res → ScZ M res.2 := by
  intro n
  induction n with
  | zero => intro x1 x2 x3 x4 x5 x6 M hf; cases hf
  | succ n ih =>
    intro x1 x2 x3 x4 x5 x6 M hf
    replace hf := (fX11_feed_19.eq_2 ..).symm.trans hf
    rcases ea_if_s hf with ⟨_, hf⟩ | ⟨_, hf⟩
    · exact ScZ.trans ScZ.rf (hk115 _ hf)
    · rcases ea_if_s hf with ⟨_, hf⟩ | ⟨_, hf⟩
      · exact ScZ.trans ScZ.rf (zX11_feed_67 ih _ _ _ _ _ _ _ _ hf)
      · rcases ea_if_s hf with ⟨_, hf⟩ | ⟨_, hf⟩
        · exact ScZ.trans ScZ.rf (zX11_feed_67 ih _ _ _ _ _ _ _ _ hf)
        · rcases ea_if_s hf with ⟨_, hf⟩ | ⟨_, hf⟩
          · exact ScZ.trans ScZ.rf (zX11_feed_67 ih _ _ _ _ _ _ _ _ hf)
          · rcases ea_if_s hf with ⟨_, hf⟩ | ⟨_, hf⟩
            · exact ScZ.trans ScZ.rf (zX11_feed_67 ih _ _ _ _ _ _ _ _ hf)
            · exact ScZ.trans ScZ.rf (zX11_feed_67 ih _ _ _ _ _ _ _ _ hf)
theorem zX11_feed_115 {res : Int32 × eM} : ∀ (M : eM), fX11_feed_115 M = some res → ScZ M res.2 := by
  intro M hf
  replace hf := (fX11_feed_115.eq_1 ..).symm.trans hf
  exact scz_endi hf ScZ.rf
theorem zX11_feed_0 {res : Int32 × eM} : ∀ (x1 : Int32) (x2 : Int32) (x3 : Int32) (x4 : Int32) (x5 : Int32) (M : eM), fX11_feed_0 x1 x2 x3 x4 x5 M = some res → ScZ M res.2 := by
  intro x1 x2 x3 x4 x5 M hf
  replace hf := (fX11_feed_0.eq_1 ..).symm.trans hf
  rcases ea_if_s hf with ⟨_, hf⟩ | ⟨_, hf⟩
  · exact ScZ.trans ScZ.rf (zX11_feed_19 (zX11_feed_115) ea_N _ _ _ _ _ _ _ hf)
  · exact scz_endi hf ScZ.rf
theorem zX11_feed {res : Int32 × eM} {x1 : Int32} {x2 : Int32} {x3 : Int32} {x4 : Int32} {x5 : Int32} {M : eM} (hf : fX11_feed x1 x2 x3 x4 x5 M = some res) : ScZ M res.2 := zX11_feed_0 _ _ _ _ _ _ hf
theorem zX11_fit_0 {res : Int32 × eM} : ∀ (x1 : Int32) (x2 : Int32) (x3 : Int32) (x4 : Int32) (M : eM), fX11_fit_0 x1 x2 x3 x4 M = some res → ScZ M res.2 := by
  intro x1 x2 x3 x4 M hf
  replace hf := (fX11_fit_0.eq_1 ..).symm.trans hf
  obtain ⟨r2, M3, he, hf⟩ := ea_ci_s hf
  have hs := ScZ.trans ScZ.rf (zX11_isAsked he)
  rcases ea_if_s hf with ⟨_, hf⟩ | ⟨_, hf⟩
  · exact scz_endi hf hs
  · obtain ⟨r6, M7, he, hf⟩ := ea_ci_s hf
    have hs := ScZ.trans hs (zX11_in he)
    rcases ea_if_s hf with ⟨_, hf⟩ | ⟨_, hf⟩
    · exact scz_endi hf hs
    · obtain ⟨M10, he, hf⟩ := ea_cv_s hf
      have hs := ScZ.trans hs (zX11_findFits he)
      rcases ea_if_s hf with ⟨_, hf⟩ | ⟨_, hf⟩
      · rcases ea_if_s hf with ⟨_, hf⟩ | ⟨_, hf⟩
        · exact scz_endi hf hs
        · rcases ea_if_s hf with ⟨_, hf⟩ | ⟨_, hf⟩
          · exact scz_endi hf hs
          · exact scz_endi hf hs
      · rcases ea_if_s hf with ⟨_, hf⟩ | ⟨_, hf⟩
        · exact scz_endi hf hs
        · exact scz_endi hf hs
theorem zX11_fit {res : Int32 × eM} {x1 : Int32} {x2 : Int32} {x3 : Int32} {x4 : Int32} {M : eM} (hf : fX11_fit x1 x2 x3 x4 M = some res) : ScZ M res.2 := zX11_fit_0 _ _ _ _ _ hf
theorem zX11_gone_0 {res : Int32 × eM} : ∀ (x1 : Int32) (x2 : Int32) (x3 : Int32) (M : eM), fX11_gone_0 x1 x2 x3 M = some res → ScZ M res.2 := by
  intro x1 x2 x3 M hf
  replace hf := (fX11_gone_0.eq_1 ..).symm.trans hf
  obtain ⟨r2, M3, he, hf⟩ := ea_ci_s hf
  have hs := ScZ.trans ScZ.rf (zX11_isTelling he)
  rcases ea_if_s hf with ⟨_, hf⟩ | ⟨_, hf⟩
  · exact scz_endi hf hs
  · obtain ⟨r6, M7, he, hf⟩ := ea_ci_s hf
    have hs := ScZ.trans hs (zX11_isCell he)
    rcases ea_if_s hf with ⟨_, hf⟩ | ⟨_, hf⟩
    · exact scz_endi hf hs
    · obtain ⟨r10, M11, he, hf⟩ := ea_ci_s hf
      have hs := ScZ.trans hs (zX11_in he)
      rcases ea_if_s hf with ⟨_, hf⟩ | ⟨_, hf⟩
      · exact scz_endi hf hs
      · obtain ⟨r14, M15, he, hf⟩ := ea_ci_s hf
        have hs := ScZ.trans hs (zX11_addLook he)
        exact scz_endi hf hs
theorem zX11_gone {res : Int32 × eM} {x1 : Int32} {x2 : Int32} {x3 : Int32} {M : eM} (hf : fX11_gone x1 x2 x3 M = some res) : ScZ M res.2 := zX11_gone_0 _ _ _ _ hf
theorem zX11_grey_0 {res : Int32 × eM} : ∀ (x1 : Int32) (x2 : Int32) (x3 : Int32) (x4 : Int32) (x5 : Int32) (M : eM), fX11_grey_0 x1 x2 x3 x4 x5 M = some res → ScZ M res.2 := by
  intro x1 x2 x3 x4 x5 M hf
  replace hf := (fX11_grey_0.eq_1 ..).symm.trans hf
  obtain ⟨r2, M3, he, hf⟩ := ea_ci_s hf
  have hs := ScZ.trans ScZ.rf (zX11_isAsked he)
  rcases ea_if_s hf with ⟨_, hf⟩ | ⟨_, hf⟩
  · exact scz_endi hf hs
  · obtain ⟨r6, M7, he, hf⟩ := ea_ci_s hf
    have hs := ScZ.trans hs (zX11_isBound he)
    rcases ea_if_s hf with ⟨_, hf⟩ | ⟨_, hf⟩
    · exact scz_endi hf hs
    · obtain ⟨r10, M11, he, hf⟩ := ea_ci_s hf
      have hs := ScZ.trans hs (zX11_isColour he)
      rcases ea_if_s hf with ⟨_, hf⟩ | ⟨_, hf⟩
      · exact scz_endi hf hs
      · obtain ⟨M14, he, hf⟩ := ea_cv_s hf
        have hs := ScZ.trans hs (zX11_findFits he)
        obtain ⟨r16, M17, he, hf⟩ := ea_ci_s hf
        have hs := ScZ.trans hs (zX11_greyOf he)
        exact scz_endi hf hs
theorem zX11_grey {res : Int32 × eM} {x1 : Int32} {x2 : Int32} {x3 : Int32} {x4 : Int32} {x5 : Int32} {M : eM} (hf : fX11_grey x1 x2 x3 x4 x5 M = some res) : ScZ M res.2 := zX11_grey_0 _ _ _ _ _ _ hf
theorem zX11_hours_0 {res : Int32 × eM} : ∀ (x1 : Int32) (x2 : Int32) (x3 : Int32) (x4 : Int32) (M : eM), fX11_hours_0 x1 x2 x3 x4 M = some res → ScZ M res.2 := by
  intro x1 x2 x3 x4 M hf
  replace hf := (fX11_hours_0.eq_1 ..).symm.trans hf
  obtain ⟨r2, M3, he, hf⟩ := ea_ci_s hf
  have hs := ScZ.trans ScZ.rf (zX11_isStory he)
  rcases ea_if_s hf with ⟨_, hf⟩ | ⟨_, hf⟩
  · exact scz_endi hf hs
  · obtain ⟨r6, M7, he, hf⟩ := ea_ci_s hf
    have hs := ScZ.trans hs (zX11_in he)
    rcases ea_if_s hf with ⟨_, hf⟩ | ⟨_, hf⟩
    · exact scz_endi hf hs
    · obtain ⟨r10, M11, he, hf⟩ := ea_ci_s hf
      have hs := ScZ.trans hs (zX11_in he)
      rcases ea_if_s hf with ⟨_, hf⟩ | ⟨_, hf⟩
      · exact scz_endi hf hs
      · obtain ⟨r14, M15, he, hf⟩ := ea_ci_s hf
        have hs := ScZ.trans hs (zX11_in he)
        rcases ea_if_s hf with ⟨_, hf⟩ | ⟨_, hf⟩
        · exact scz_endi hf hs
        · obtain ⟨r18, M19, he, hf⟩ := ea_ci_s hf
          have hs := ScZ.trans hs (zX11_hoursOf he)
          exact scz_endi hf hs
theorem zX11_hours {res : Int32 × eM} {x1 : Int32} {x2 : Int32} {x3 : Int32} {x4 : Int32} {M : eM} (hf : fX11_hours x1 x2 x3 x4 M = some res) : ScZ M res.2 := zX11_hours_0 _ _ _ _ _ hf
theorem zX11_isSlot_0 {res : Int32 × eM} : ∀ (x0 : Int32) (M : eM), fX11_isSlot_0 x0 M = some res → ScZ M res.2 := by
  intro x0 M hf
  replace hf := (fX11_isSlot_0.eq_1 ..).symm.trans hf
  obtain ⟨r2, M3, he, hf⟩ := ea_ci_s hf
  have hs := ScZ.trans ScZ.rf (zX11_in he)
  obtain ⟨_, hf⟩ := ea_ck_s hf
  exact scz_endi hf hs
theorem zX11_isSlot {res : Int32 × eM} {x0 : Int32} {M : eM} (hf : fX11_isSlot x0 M = some res) : ScZ M res.2 := zX11_isSlot_0 _ _ hf
theorem zX11_isStuff_0 {res : Int32 × eM} : ∀ (x1 : Int32) (M : eM), fX11_isStuff_0 x1 M = some res → ScZ M res.2 := by
  intro x1 M hf
  replace hf := (fX11_isStuff_0.eq_1 ..).symm.trans hf
  obtain ⟨r2, M3, he, hf⟩ := ea_ci_s hf
  have hs := ScZ.trans ScZ.rf (zX11_in he)
  obtain ⟨_, hf⟩ := ea_ck_s hf
  exact scz_endi hf hs
theorem zX11_isStuff {res : Int32 × eM} {x1 : Int32} {M : eM} (hf : fX11_isStuff x1 M = some res) : ScZ M res.2 := zX11_isStuff_0 _ _ hf
theorem zX11_keep_19 {res : Int32 × eM} {k52 : eM → Option (Int32 × eM)} (hk52 : ∀ (M : eM), k52 M = some res → ScZ M res.2) : ∀ (n : Nat) (x1 : Int32) (x2 : Int32) (M : eM), fX11_keep_19 k52 n x1 x2 M = some res → ScZ M res.2 := by
  intro n
  induction n with
  | zero => intro x1 x2 M hf; cases hf
  | succ n ih =>
    intro x1 x2 M hf
    replace hf := (fX11_keep_19.eq_2 ..).symm.trans hf
    rcases ea_if_s hf with ⟨_, hf⟩ | ⟨_, hf⟩
    · exact ScZ.trans ScZ.rf (hk52 _ hf)
    · obtain ⟨_, hf⟩ := ea_ck_s hf
      obtain ⟨_, hf⟩ := ea_ck_s hf
      exact ScZ.trans (ScZ.rf.pI rfl) (ih _ _ _ hf)
theorem zX11_keep_52 {res : Int32 × eM} : ∀ (M : eM), fX11_keep_52 M = some res → ScZ M res.2 := by
  intro M hf
  replace hf := (fX11_keep_52.eq_1 ..).symm.trans hf
  exact scz_endi hf ScZ.rf
theorem zX11_keep_0 {res : Int32 × eM} : ∀ (x1 : Int32) (M : eM), fX11_keep_0 x1 M = some res → ScZ M res.2 := by
  intro x1 M hf
  replace hf := (fX11_keep_0.eq_1 ..).symm.trans hf
  obtain ⟨r2, M3, he, hf⟩ := ea_ci_s hf
  have hs := ScZ.trans ScZ.rf (zX11_isSlot he)
  rcases ea_if_s hf with ⟨_, hf⟩ | ⟨_, hf⟩
  · exact scz_endi hf hs
  · obtain ⟨_, hf⟩ := ea_ck_s hf
    exact ScZ.trans (hs.pI rfl) (zX11_keep_19 (zX11_keep_52) ea_N _ _ _ hf)
theorem zX11_keep {res : Int32 × eM} {x1 : Int32} {M : eM} (hf : fX11_keep x1 M = some res) : ScZ M res.2 := zX11_keep_0 _ _ hf
theorem zX11_lightBack_137 {res : Int32 × eM} {k87 : Int32 → Int32 → Int32 → Int32 → Int32 → Int32 → Int32 → eM → Option (Int32 × eM)} (hk87 : ∀ (x3 : Int32) (x5 : Int32) (x6 : Int32) (x7 : Int32) (x8 : Int32) (x9 : Int32) (x10 : Int32) (M : eM), k87 x3 x5 x6 x7 x8 x9 x10 M = some res → ScZ M res.2) : ∀ (x3 : Int32) (x5 : Int32) (x6 : Int32) (x7 : Int32) (x8 : Int32) (x10 : Int32) (t0 : Int32) (M : eM), fX11_lightBack_137 k87 x3 x5 x6 x7 x8 x10 t0 M = some res → ScZ M res.2 := by
  intro x3 x5 x6 x7 x8 x10 t0 M hf
  replace hf := (fX11_lightBack_137.eq_1 ..).symm.trans hf
  exact ScZ.trans ScZ.rf (hk87 _ _ _ _ _ _ _ _ hf)
theorem zX11_lightBack_87 {res : Int32 × eM} {k145 : Int32 → Int32 → Int32 → Int32 → Int32 → Int32 → eM → Option (Int32 × eM)} (hk145 : ∀ (x3 : Int32) (x5 : Int32) (x6 : Int32) (x7 : Int32) (x8 : Int32) (x9 : Int32) (M : eM), k145 x3 x5 x6 x7 x8 x9 M = some res → ScZ M res.2) : ∀ (n : Nat) (x3 : Int32) (x5 : Int32) (x6 : Int32) (x7 : Int32) (x8 : Int32) (x9 : Int32) (x10 : Int32) (M : eM), fX11_lightBack_87 k145 n x3 x5 x6 x7 x8 x9 x10 M = some res → ScZ M res.2 := by
  intro n
  induction n with
  | zero => intro x3 x5 x6 x7 x8 x9 x10 M hf; cases hf
  | succ n ih =>
    intro x3 x5 x6 x7 x8 x9 x10 M hf
    replace hf := (fX11_lightBack_87.eq_2 ..).symm.trans hf
    rcases ea_if_s hf with ⟨_, hf⟩ | ⟨_, hf⟩
    · exact ScZ.trans ScZ.rf (hk145 _ _ _ _ _ _ _ hf)
    · rcases ea_if_s hf with ⟨_, hf⟩ | ⟨_, hf⟩
      · exact ScZ.trans ScZ.rf (hk145 _ _ _ _ _ _ _ hf)
      · obtain ⟨r4, M5, he, hf⟩ := ea_ci_s hf
        have hs := ScZ.trans ScZ.rf (zX11_colourOf he)
        obtain ⟨_, hf⟩ := ea_ck_s hf
        obtain ⟨r8, M9, he, hf⟩ := ea_ci_s hf
        have hs := ScZ.trans hs (zX11_plain he)
        rcases ea_if_s hf with ⟨_, hf⟩ | ⟨_, hf⟩
        · exact ScZ.trans hs (zX11_lightBack_137 ih _ _ _ _ _ _ _ _ hf)
        · exact ScZ.trans hs (zX11_lightBack_137 ih _ _ _ _ _ _ _ _ hf)
theorem zX11_lightBack_165 {res : Int32 × eM} {k73 : Int32 → Int32 → Int32 → Int32 → Int32 → eM → Option (Int32 × eM)} (hk73 : ∀ (x3 : Int32) (x5 : Int32) (x6 : Int32) (x7 : Int32) (x8 : Int32) (M : eM), k73 x3 x5 x6 x7 x8 M = some res → ScZ M res.2) : ∀ (x3 : Int32) (x5 : Int32) (x6 : Int32) (x7 : Int32) (x8 : Int32) (M : eM), fX11_lightBack_165 k73 x3 x5 x6 x7 x8 M = some res → ScZ M res.2 := by
  intro x3 x5 x6 x7 x8 M hf
  replace hf := (fX11_lightBack_165.eq_1 ..).symm.trans hf
  exact ScZ.trans ScZ.rf (hk73 _ _ _ _ _ _ hf)
theorem zX11_lightBack_161 {res : Int32 × eM} {k73 : Int32 → Int32 → Int32 → Int32 → Int32 → eM → Option (Int32 × eM)} (hk73 : ∀ (x3 : Int32) (x5 : Int32) (x6 : Int32) (x7 : Int32) (x8 : Int32) (M : eM), k73 x3 x5 x6 x7 x8 M = some res → ScZ M res.2) : ∀ (x3 : Int32) (x5 : Int32) (x6 : Int32) (x8 : Int32) (M : eM), fX11_lightBack_161 k73 x3 x5 x6 x8 M = some res → ScZ M res.2 := by
  intro x3 x5 x6 x8 M hf
  replace hf := (fX11_lightBack_161.eq_1 ..).symm.trans hf
  exact ScZ.trans ScZ.rf (zX11_lightBack_165 hk73 _ _ _ _ _ _ hf)
theorem zX11_lightBack_145 {res : Int32 × eM} {k73 : Int32 → Int32 → Int32 → Int32 → Int32 → eM → Option (Int32 × eM)} (hk73 : ∀ (x3 : Int32) (x5 : Int32) (x6 : Int32) (x7 : Int32) (x8 : Int32) (M : eM), k73 x3 x5 x6 x7 x8 M = some res → ScZ M res.2) : ∀ (x3 : Int32) (x5 : Int32) (x6 : Int32) (x7 : Int32) (x8 : Int32) (x9 : Int32) (M : eM), fX11_lightBack_145 k73 x3 x5 x6 x7 x8 x9 M = some res → ScZ M res.2 := by
  intro x3 x5 x6 x7 x8 x9 M hf
  replace hf := (fX11_lightBack_145.eq_1 ..).symm.trans hf
  rcases ea_if_s hf with ⟨_, hf⟩ | ⟨_, hf⟩
  · exact ScZ.trans ScZ.rf (zX11_lightBack_165 hk73 _ _ _ _ _ _ hf)
  · rcases ea_if_s hf with ⟨_, hf⟩ | ⟨_, hf⟩
    · rcases ea_if_s hf with ⟨_, hf⟩ | ⟨_, hf⟩
      · exact ScZ.trans ScZ.rf (zX11_lightBack_161 hk73 _ _ _ _ _ hf)
      · exact ScZ.trans ScZ.rf (zX11_lightBack_165 hk73 _ _ _ _ _ _ hf)
    · exact ScZ.trans ScZ.rf (zX11_lightBack_161 hk73 _ _ _ _ _ hf)
theorem zX11_lightBack_73 {res : Int32 × eM} : ∀ (n : Nat) (x3 : Int32) (x5 : Int32) (x6 : Int32) (x7 : Int32) (x8 : Int32) (M : eM), fX11_lightBack_73 n x3 x5 x6 x7 x8 M = some res → ScZ M res.2 := by
  intro n
  induction n with
  | zero => intro x3 x5 x6 x7 x8 M hf; cases hf
  | succ n ih =>
    intro x3 x5 x6 x7 x8 M hf
    replace hf := (fX11_lightBack_73.eq_2 ..).symm.trans hf
    rcases ea_if_s hf with ⟨_, hf⟩ | ⟨_, hf⟩
    · exact scz_endi hf ScZ.rf
    · exact ScZ.trans ScZ.rf (zX11_lightBack_87 (zX11_lightBack_145 ih) ea_N _ _ _ _ _ _ _ _ hf)
theorem zX11_lightBack_0 {res : Int32 × eM} : ∀ (x1 : Int32) (x2 : Int32) (x3 : Int32) (x4 : Int32) (x5 : Int32) (M : eM), fX11_lightBack_0 x1 x2 x3 x4 x5 M = some res → ScZ M res.2 := by
  intro x1 x2 x3 x4 x5 M hf
  replace hf := (fX11_lightBack_0.eq_1 ..).symm.trans hf
  obtain ⟨r2, M3, he, hf⟩ := ea_ci_s hf
  have hs := ScZ.trans ScZ.rf (zX11_isCell he)
  rcases ea_if_s hf with ⟨_, hf⟩ | ⟨_, hf⟩
  · exact scz_endi hf hs
  · obtain ⟨r6, M7, he, hf⟩ := ea_ci_s hf
    have hs := ScZ.trans hs (zX11_in he)
    rcases ea_if_s hf with ⟨_, hf⟩ | ⟨_, hf⟩
    · exact scz_endi hf hs
    · obtain ⟨r10, M11, he, hf⟩ := ea_ci_s hf
      have hs := ScZ.trans hs (zX11_isThread he)
      rcases ea_if_s hf with ⟨_, hf⟩ | ⟨_, hf⟩
      · exact scz_endi hf hs
      · obtain ⟨r14, M15, he, hf⟩ := ea_ci_s hf
        have hs := ScZ.trans hs (zX11_isStep he)
        rcases ea_if_s hf with ⟨_, hf⟩ | ⟨_, hf⟩
        · exact scz_endi hf hs
        · obtain ⟨r18, M19, he, hf⟩ := ea_ci_s hf
          have hs := ScZ.trans hs (zX11_lookAt he)
          rcases ea_if_s hf with ⟨_, hf⟩ | ⟨_, hf⟩
          · exact scz_endi hf hs
          · obtain ⟨_, hf⟩ := ea_ck_s hf
            rcases ea_if_s hf with ⟨_, hf⟩ | ⟨_, hf⟩
            · exact scz_endi hf hs
            · exact ScZ.trans hs (zX11_lightBack_73 ea_N _ _ _ _ _ _ hf)
theorem zX11_lightBack {res : Int32 × eM} {x1 : Int32} {x2 : Int32} {x3 : Int32} {x4 : Int32} {x5 : Int32} {M : eM} (hf : fX11_lightBack x1 x2 x3 x4 x5 M = some res) : ScZ M res.2 := zX11_lightBack_0 _ _ _ _ _ _ hf
theorem zX11_look_0 {res : Int32 × eM} : ∀ (x1 : Int32) (x2 : Int32) (x3 : Int32) (x4 : Int32) (x5 : Int32) (x6 : Int32) (M : eM), fX11_look_0 x1 x2 x3 x4 x5 x6 M = some res → ScZ M res.2 := by
  intro x1 x2 x3 x4 x5 x6 M hf
  replace hf := (fX11_look_0.eq_1 ..).symm.trans hf
  obtain ⟨r2, M3, he, hf⟩ := ea_ci_s hf
  have hs := ScZ.trans ScZ.rf (zX11_isTelling he)
  rcases ea_if_s hf with ⟨_, hf⟩ | ⟨_, hf⟩
  · exact scz_endi hf hs
  · obtain ⟨r6, M7, he, hf⟩ := ea_ci_s hf
    have hs := ScZ.trans hs (zX11_isCell he)
    rcases ea_if_s hf with ⟨_, hf⟩ | ⟨_, hf⟩
    · exact scz_endi hf hs
    · obtain ⟨r10, M11, he, hf⟩ := ea_ci_s hf
      have hs := ScZ.trans hs (zX11_in he)
      rcases ea_if_s hf with ⟨_, hf⟩ | ⟨_, hf⟩
      · exact scz_endi hf hs
      · obtain ⟨r14, M15, he, hf⟩ := ea_ci_s hf
        have hs := ScZ.trans hs (zX11_areColours he)
        rcases ea_if_s hf with ⟨_, hf⟩ | ⟨_, hf⟩
        · exact scz_endi hf hs
        · obtain ⟨r18, M19, he, hf⟩ := ea_ci_s hf
          have hs := ScZ.trans hs (zX11_addLook he)
          exact scz_endi hf hs
theorem zX11_look {res : Int32 × eM} {x1 : Int32} {x2 : Int32} {x3 : Int32} {x4 : Int32} {x5 : Int32} {x6 : Int32} {M : eM} (hf : fX11_look x1 x2 x3 x4 x5 x6 M = some res) : ScZ M res.2 := zX11_look_0 _ _ _ _ _ _ _ hf
theorem zX11_mark_2 {res : eM} {a1 : Nat} (ha1 : ∀ k, isZ a1 k = false) {k20 : eM → Option (eM)} (hk20 : ∀ (M : eM), k20 M = some res → ScZ M res) : ∀ (n : Nat) (x2 : Int32) (M : eM), fX11_mark_2 k20 a1 n x2 M = some res → ScZ M res := by
  intro n
  induction n with
  | zero => intro x2 M hf; cases hf
  | succ n ih =>
    intro x2 M hf
    replace hf := (fX11_mark_2.eq_2 ..).symm.trans hf
    rcases ea_if_s hf with ⟨_, hf⟩ | ⟨_, hf⟩
    · exact ScZ.trans ScZ.rf (hk20 _ hf)
    · obtain ⟨_, hf⟩ := ea_ck_s hf
      exact ScZ.trans (ScZ.rf.pI (ha1 _)) (ih _ _ hf)
theorem zX11_mark_22 {res : eM} {a1 : Nat} (ha1 : ∀ k, isZ a1 k = false) : ∀ (n : Nat) (x2 : Int32) (M : eM), fX11_mark_22 a1 n x2 M = some res → ScZ M res := by
  intro n
  induction n with
  | zero => intro x2 M hf; cases hf
  | succ n ih =>
    intro x2 M hf
    replace hf := (fX11_mark_22.eq_2 ..).symm.trans hf
    rcases ea_if_s hf with ⟨_, hf⟩ | ⟨_, hf⟩
    · exact scz_endv hf ScZ.rf
    · obtain ⟨_, hf⟩ := ea_ck_s hf
      obtain ⟨_, hf⟩ := ea_ck_s hf
      exact ScZ.trans (ScZ.rf.pI (ha1 _)) (ih _ _ hf)
theorem zX11_mark_20 {res : eM} {a1 : Nat} (ha1 : ∀ k, isZ a1 k = false) : ∀ (M : eM), fX11_mark_20 a1 M = some res → ScZ M res := by
  intro M hf
  replace hf := (fX11_mark_20.eq_1 ..).symm.trans hf
  exact ScZ.trans ScZ.rf (zX11_mark_22 ha1 ea_N _ _ hf)
theorem zX11_mark_0 {res : eM} {a1 : Nat} (ha1 : ∀ k, isZ a1 k = false) : ∀ (M : eM), fX11_mark_0 a1 M = some res → ScZ M res := by
  intro M hf
  replace hf := (fX11_mark_0.eq_1 ..).symm.trans hf
  exact ScZ.trans ScZ.rf (zX11_mark_2 ha1 (zX11_mark_20 ha1) ea_N _ _ hf)
theorem zX11_mark {res : eM} {a1 : Nat} (ha1 : ∀ k, isZ a1 k = false) {M : eM} (hf : fX11_mark a1 M = some res) : ScZ M res := zX11_mark_0 ha1  _ hf
theorem zX11_mended_52 {res : Int32 × eM} {k26 : Int32 → Int32 → eM → Option (Int32 × eM)} (hk26 : ∀ (x4 : Int32) (x5 : Int32) (M : eM), k26 x4 x5 M = some res → ScZ M res.2) : ∀ (x5 : Int32) (t0 : Int32) (t1 : Int32) (M : eM), fX11_mended_52 k26 x5 t0 t1 M = some res → ScZ M res.2 := by
  intro x5 t0 t1 M hf
  replace hf := (fX11_mended_52.eq_1 ..).symm.trans hf
  exact ScZ.trans ScZ.rf (hk26 _ _ _ hf)
theorem zX11_mended_26 {res : Int32 × eM} {k61 : Int32 → eM → Option (Int32 × eM)} (hk61 : ∀ (x4 : Int32) (M : eM), k61 x4 M = some res → ScZ M res.2) : ∀ (n : Nat) (x4 : Int32) (x5 : Int32) (M : eM), fX11_mended_26 k61 n x4 x5 M = some res → ScZ M res.2 := by
  intro n
  induction n with
  | zero => intro x4 x5 M hf; cases hf
  | succ n ih =>
    intro x4 x5 M hf
    replace hf := (fX11_mended_26.eq_2 ..).symm.trans hf
    rcases ea_if_s hf with ⟨_, hf⟩ | ⟨_, hf⟩
    · exact ScZ.trans ScZ.rf (hk61 _ _ hf)
    · obtain ⟨_, hf⟩ := ea_ck_s hf
      rcases ea_if_s hf with ⟨_, hf⟩ | ⟨_, hf⟩
      · exact ScZ.trans ScZ.rf (zX11_mended_52 ih _ _ _ _ hf)
      · exact ScZ.trans ScZ.rf (zX11_mended_52 ih _ _ _ _ hf)
theorem zX11_mended_61 {res : Int32 × eM} : ∀ (x4 : Int32) (M : eM), fX11_mended_61 x4 M = some res → ScZ M res.2 := by
  intro x4 M hf
  replace hf := (fX11_mended_61.eq_1 ..).symm.trans hf
  rcases ea_if_s hf with ⟨_, hf⟩ | ⟨_, hf⟩
  · exact scz_endi hf ScZ.rf
  · rcases ea_if_s hf with ⟨_, hf⟩ | ⟨_, hf⟩
    · exact scz_endi hf ScZ.rf
    · rcases ea_if_s hf with ⟨_, hf⟩ | ⟨_, hf⟩
      · exact scz_endi hf ScZ.rf
      · exact scz_endi hf ScZ.rf
theorem zX11_mended_0 {res : Int32 × eM} : ∀ (x1 : Int32) (x2 : Int32) (x3 : Int32) (M : eM), fX11_mended_0 x1 x2 x3 M = some res → ScZ M res.2 := by
  intro x1 x2 x3 M hf
  replace hf := (fX11_mended_0.eq_1 ..).symm.trans hf
  obtain ⟨r2, M3, he, hf⟩ := ea_ci_s hf
  have hs := ScZ.trans ScZ.rf (zX11_isAsked he)
  rcases ea_if_s hf with ⟨_, hf⟩ | ⟨_, hf⟩
  · exact scz_endi hf hs
  · obtain ⟨M6, he, hf⟩ := ea_cv_s hf
    have hs := ScZ.trans hs (zX11_findFits he)
    exact ScZ.trans hs (zX11_mended_26 (zX11_mended_61) ea_N _ _ _ hf)
theorem zX11_mended {res : Int32 × eM} {x1 : Int32} {x2 : Int32} {x3 : Int32} {M : eM} (hf : fX11_mended x1 x2 x3 M = some res) : ScZ M res.2 := zX11_mended_0 _ _ _ _ hf
theorem zX11_mostAlike_3 {res : Int32 × eM} {k25 : Int32 → Int32 → Int32 → eM → Option (Int32 × eM)} (hk25 : ∀ (x1 : Int32) (x2 : Int32) (x3 : Int32) (M : eM), k25 x1 x2 x3 M = some res → ScZ M res.2) : ∀ (n : Nat) (x1 : Int32) (x2 : Int32) (x3 : Int32) (x4 : Int32) (M : eM), fX11_mostAlike_3 k25 n x1 x2 x3 x4 M = some res → ScZ M res.2 := by
  intro n
  induction n with
  | zero => intro x1 x2 x3 x4 M hf; cases hf
  | succ n ih =>
    intro x1 x2 x3 x4 M hf
    replace hf := (fX11_mostAlike_3.eq_2 ..).symm.trans hf
    rcases ea_if_s hf with ⟨_, hf⟩ | ⟨_, hf⟩
    · exact ScZ.trans ScZ.rf (hk25 _ _ _ _ hf)
    · obtain ⟨_, hf⟩ := ea_ck_s hf
      exact ScZ.trans (ScZ.rf.pI rfl) (ih _ _ _ _ _ hf)
theorem zX11_mostAlike_122 {res : Int32 × eM} {k157 : Int32 → Int32 → Int32 → Int32 → Int32 → Int32 → Int32 → eM → Option (Int32 × eM)} (hk157 : ∀ (x1 : Int32) (x2 : Int32) (x3 : Int32) (x4 : Int32) (x5 : Int32) (x7 : Int32) (x8 : Int32) (M : eM), k157 x1 x2 x3 x4 x5 x7 x8 M = some res → ScZ M res.2) : ∀ (n : Nat) (x1 : Int32) (x2 : Int32) (x3 : Int32) (x4 : Int32) (x5 : Int32) (x7 : Int32) (x8 : Int32) (M : eM), fX11_mostAlike_122 k157 n x1 x2 x3 x4 x5 x7 x8 M = some res → ScZ M res.2 := by
  intro n
  induction n with
  | zero => intro x1 x2 x3 x4 x5 x7 x8 M hf; cases hf
  | succ n ih =>
    intro x1 x2 x3 x4 x5 x7 x8 M hf
    replace hf := (fX11_mostAlike_122.eq_2 ..).symm.trans hf
    obtain ⟨_, hf⟩ := ea_ck_s hf
    rcases ea_if_s hf with ⟨_, hf⟩ | ⟨_, hf⟩
    · exact ScZ.trans ScZ.rf (hk157 _ _ _ _ _ _ _ _ hf)
    · obtain ⟨_, hf⟩ := ea_ck_s hf
      rcases ea_if_s hf with ⟨_, hf⟩ | ⟨_, hf⟩
      · exact ScZ.trans ScZ.rf (hk157 _ _ _ _ _ _ _ _ hf)
      · obtain ⟨y5, _, hf⟩ := ea_lt_s hf
        exact ScZ.trans ScZ.rf (ih _ _ _ _ _ _ _ _ hf)
theorem zX11_mostAlike_201 {res : Int32 × eM} {k31 : Int32 → Int32 → Int32 → Int32 → Int32 → eM → Option (Int32 × eM)} (hk31 : ∀ (x1 : Int32) (x2 : Int32) (x3 : Int32) (x4 : Int32) (x5 : Int32) (M : eM), k31 x1 x2 x3 x4 x5 M = some res → ScZ M res.2) : ∀ (x1 : Int32) (x2 : Int32) (x3 : Int32) (x5 : Int32) (t0 : Int32) (M : eM), fX11_mostAlike_201 k31 x1 x2 x3 x5 t0 M = some res → ScZ M res.2 := by
  intro x1 x2 x3 x5 t0 M hf
  replace hf := (fX11_mostAlike_201.eq_1 ..).symm.trans hf
  exact ScZ.trans ScZ.rf (hk31 _ _ _ _ _ _ hf)
theorem zX11_mostAlike_157 {res : Int32 × eM} {k31 : Int32 → Int32 → Int32 → Int32 → Int32 → eM → Option (Int32 × eM)} (hk31 : ∀ (x1 : Int32) (x2 : Int32) (x3 : Int32) (x4 : Int32) (x5 : Int32) (M : eM), k31 x1 x2 x3 x4 x5 M = some res → ScZ M res.2) : ∀ (x1 : Int32) (x2 : Int32) (x3 : Int32) (x4 : Int32) (x5 : Int32) (x7 : Int32) (x8 : Int32) (M : eM), fX11_mostAlike_157 k31 x1 x2 x3 x4 x5 x7 x8 M = some res → ScZ M res.2 := by
  intro x1 x2 x3 x4 x5 x7 x8 M hf
  replace hf := (fX11_mostAlike_157.eq_1 ..).symm.trans hf
  obtain ⟨_, hf⟩ := ea_ck_s hf
  obtain ⟨_, hf⟩ := ea_ck_s hf
  obtain ⟨_, hf⟩ := ea_ck_s hf
  obtain ⟨_, hf⟩ := ea_ck_s hf
  rcases ea_if_s hf with ⟨_, hf⟩ | ⟨_, hf⟩
  · exact ScZ.trans ((ScZ.rf.pI rfl).pI rfl) (zX11_mostAlike_201 hk31 _ _ _ _ _ _ hf)
  · obtain ⟨_, hf⟩ := ea_ck_s hf
    exact ScZ.trans ((ScZ.rf.pI rfl).pI rfl) (zX11_mostAlike_201 hk31 _ _ _ _ _ _ hf)
theorem zX11_mostAlike_31 {res : Int32 × eM} : ∀ (n : Nat) (x1 : Int32) (x2 : Int32) (x3 : Int32) (x4 : Int32) (x5 : Int32) (M : eM), fX11_mostAlike_31 n x1 x2 x3 x4 x5 M = some res → ScZ M res.2 := by
  intro n
  induction n with
  | zero => intro x1 x2 x3 x4 x5 M hf; cases hf
  | succ n ih =>
    intro x1 x2 x3 x4 x5 M hf
    replace hf := (fX11_mostAlike_31.eq_2 ..).symm.trans hf
    rcases ea_if_s hf with ⟨_, hf⟩ | ⟨_, hf⟩
    · exact scz_endi hf ScZ.rf
    · obtain ⟨_, hf⟩ := ea_ck_s hf
      obtain ⟨r4, M5, he, hf⟩ := ea_ci_s hf
      have hs := ScZ.trans ScZ.rf (zX11_hoursOf he)
      obtain ⟨_, hf⟩ := ea_ck_s hf
      obtain ⟨r8, M9, he, hf⟩ := ea_ci_s hf
      have hs := ScZ.trans hs (zX11_colourOf he)
      obtain ⟨_, hf⟩ := ea_ck_s hf
      obtain ⟨r12, M13, he, hf⟩ := ea_ci_s hf
      have hs := ScZ.trans hs (zX11_colourOf he)
      obtain ⟨_, hf⟩ := ea_ck_s hf
      obtain ⟨r16, M17, he, hf⟩ := ea_ci_s hf
      have hs := ScZ.trans hs (zX11_colourOf he)
      obtain ⟨y18, _, hf⟩ := ea_lt_s hf
      obtain ⟨y20, _, hf⟩ := ea_lt_s hf
      exact ScZ.trans hs (zX11_mostAlike_122 (zX11_mostAlike_157 ih) ea_N _ _ _ _ _ _ _ _ hf)
theorem zX11_mostAlike_25 {res : Int32 × eM} : ∀ (x1 : Int32) (x2 : Int32) (x3 : Int32) (M : eM), fX11_mostAlike_25 x1 x2 x3 M = some res → ScZ M res.2 := by
  intro x1 x2 x3 M hf
  replace hf := (fX11_mostAlike_25.eq_1 ..).symm.trans hf
  exact ScZ.trans ScZ.rf (zX11_mostAlike_31 ea_N _ _ _ _ _ _ hf)
theorem zX11_mostAlike_0 {res : Int32 × eM} : ∀ (x1 : Int32) (x2 : Int32) (x3 : Int32) (M : eM), fX11_mostAlike_0 x1 x2 x3 M = some res → ScZ M res.2 := by
  intro x1 x2 x3 M hf
  replace hf := (fX11_mostAlike_0.eq_1 ..).symm.trans hf
  exact ScZ.trans ScZ.rf (zX11_mostAlike_3 (zX11_mostAlike_25) ea_N _ _ _ _ _ hf)
theorem zX11_mostAlike {res : Int32 × eM} {x1 : Int32} {x2 : Int32} {x3 : Int32} {M : eM} (hf : fX11_mostAlike x1 x2 x3 M = some res) : ScZ M res.2 := zX11_mostAlike_0 _ _ _ _ hf
theorem zX11_next_154 {res : Int32 × eM} {k33 : Int32 → Int32 → Int32 → Int64 → Int64 → Int32 → eM → Option (Int32 × eM)} (hk33 : ∀ (x1 : Int32) (x2 : Int32) (x3 : Int32) (x4 : Int64) (x6 : Int64) (x8 : Int32) (M : eM), k33 x1 x2 x3 x4 x6 x8 M = some res → ScZ M res.2) : ∀ (x1 : Int32) (x2 : Int32) (x3 : Int32) (x4 : Int64) (x6 : Int64) (x8 : Int32) (M : eM), fX11_next_154 k33 x1 x2 x3 x4 x6 x8 M = some res → ScZ M res.2 := by
  intro x1 x2 x3 x4 x6 x8 M hf
  replace hf := (fX11_next_154.eq_1 ..).symm.trans hf
  exact ScZ.trans ScZ.rf (hk33 _ _ _ _ _ _ _ hf)
theorem zX11_next_140 {res : Int32 × eM} {k33 : Int32 → Int32 → Int32 → Int64 → Int64 → Int32 → eM → Option (Int32 × eM)} (hk33 : ∀ (x1 : Int32) (x2 : Int32) (x3 : Int32) (x4 : Int64) (x6 : Int64) (x8 : Int32) (M : eM), k33 x1 x2 x3 x4 x6 x8 M = some res → ScZ M res.2) : ∀ (x1 : Int32) (x2 : Int32) (x8 : Int32) (x10 : Int64) (M : eM), fX11_next_140 k33 x1 x2 x8 x10 M = some res → ScZ M res.2 := by
  intro x1 x2 x8 x10 M hf
  replace hf := (fX11_next_140.eq_1 ..).symm.trans hf
  exact ScZ.trans ScZ.rf (zX11_next_154 hk33 _ _ _ _ _ _ _ hf)
theorem zX11_next_76 {res : Int32 × eM} {k33 : Int32 → Int32 → Int32 → Int64 → Int64 → Int32 → eM → Option (Int32 × eM)} (hk33 : ∀ (x1 : Int32) (x2 : Int32) (x3 : Int32) (x4 : Int64) (x6 : Int64) (x8 : Int32) (M : eM), k33 x1 x2 x3 x4 x6 x8 M = some res → ScZ M res.2) : ∀ (x1 : Int32) (x2 : Int32) (x3 : Int32) (x4 : Int64) (x6 : Int64) (x8 : Int32) (M : eM), fX11_next_76 k33 x1 x2 x3 x4 x6 x8 M = some res → ScZ M res.2 := by
  intro x1 x2 x3 x4 x6 x8 M hf
  replace hf := (fX11_next_76.eq_1 ..).symm.trans hf
  obtain ⟨M2, he, hf⟩ := ea_cv_s hf
  have hs := ScZ.trans ScZ.rf (zX11_findFits he)
  rcases ea_if_s hf with ⟨_, hf⟩ | ⟨_, hf⟩
  · obtain ⟨_, hf⟩ := ea_ck_s hf
    obtain ⟨r6, M7, he, hf⟩ := ea_ci_s hf
    have hs := ScZ.trans hs (zX11_mostAlike he)
    rcases ea_if_s hf with ⟨_, hf⟩ | ⟨_, hf⟩
    · exact ScZ.trans hs (zX11_next_140 hk33 _ _ _ _ _ hf)
    · rcases ea_if_s hf with ⟨_, hf⟩ | ⟨_, hf⟩
      · exact ScZ.trans hs (zX11_next_140 hk33 _ _ _ _ _ hf)
      · exact ScZ.trans hs (zX11_next_154 hk33 _ _ _ _ _ _ _ hf)
  · exact ScZ.trans hs (zX11_next_154 hk33 _ _ _ _ _ _ _ hf)
theorem zX11_next_33 {res : Int32 × eM} : ∀ (n : Nat) (x1 : Int32) (x2 : Int32) (x3 : Int32) (x4 : Int64) (x6 : Int64) (x8 : Int32) (M : eM), fX11_next_33 n x1 x2 x3 x4 x6 x8 M = some res → ScZ M res.2 := by
  intro n
  induction n with
  | zero => intro x1 x2 x3 x4 x6 x8 M hf; cases hf
  | succ n ih =>
    intro x1 x2 x3 x4 x6 x8 M hf
    replace hf := (fX11_next_33.eq_2 ..).symm.trans hf
    obtain ⟨r2, M3, he, hf⟩ := ea_ci_s hf
    have hs := ScZ.trans ScZ.rf (zX11_cells he)
    rcases ea_if_s hf with ⟨_, hf⟩ | ⟨_, hf⟩
    · exact scz_endi hf hs
    · obtain ⟨r6, M7, he, hf⟩ := ea_ci_s hf
      have hs := ScZ.trans hs (zX11_lookAt he)
      rcases ea_if_s hf with ⟨_, hf⟩ | ⟨_, hf⟩
      · exact ScZ.trans hs (zX11_next_76 ih _ _ _ _ _ _ _ hf)
      · obtain ⟨_, hf⟩ := ea_ck_s hf
        rcases ea_if_s hf with ⟨_, hf⟩ | ⟨_, hf⟩
        · exact ScZ.trans hs (zX11_next_154 ih _ _ _ _ _ _ _ hf)
        · exact ScZ.trans hs (zX11_next_76 ih _ _ _ _ _ _ _ hf)
theorem zX11_next_0 {res : Int32 × eM} : ∀ (x1 : Int32) (x2 : Int32) (M : eM), fX11_next_0 x1 x2 M = some res → ScZ M res.2 := by
  intro x1 x2 M hf
  replace hf := (fX11_next_0.eq_1 ..).symm.trans hf
  obtain ⟨r2, M3, he, hf⟩ := ea_ci_s hf
  have hs := ScZ.trans ScZ.rf (zX11_isStory he)
  rcases ea_if_s hf with ⟨_, hf⟩ | ⟨_, hf⟩
  · exact scz_endi hf hs
  · obtain ⟨r6, M7, he, hf⟩ := ea_ci_s hf
    have hs := ScZ.trans hs (zX11_in he)
    rcases ea_if_s hf with ⟨_, hf⟩ | ⟨_, hf⟩
    · exact scz_endi hf hs
    · exact ScZ.trans hs (zX11_next_33 ea_N _ _ _ _ _ _ _ hf)
theorem zX11_next {res : Int32 × eM} {x1 : Int32} {x2 : Int32} {M : eM} (hf : fX11_next x1 x2 M = some res) : ScZ M res.2 := zX11_next_0 _ _ _ hf
theorem zX11_pair_0 {res : Int32 × eM} : ∀ (x1 : Int32) (x2 : Int32) (x3 : Int32) (x4 : Int32) (x5 : Int32) (M : eM), fX11_pair_0 x1 x2 x3 x4 x5 M = some res → ScZ M res.2 := by
  intro x1 x2 x3 x4 x5 M hf
  replace hf := (fX11_pair_0.eq_1 ..).symm.trans hf
  obtain ⟨r2, M3, he, hf⟩ := ea_ci_s hf
  have hs := ScZ.trans ScZ.rf (zX11_isAsked he)
  rcases ea_if_s hf with ⟨_, hf⟩ | ⟨_, hf⟩
  · exact scz_endi hf hs
  · rcases ea_if_s hf with ⟨_, hf⟩ | ⟨_, hf⟩
    · exact scz_endi hf hs
    · obtain ⟨r7, M8, he, hf⟩ := ea_ci_s hf
      have hs := ScZ.trans hs (zX11_in he)
      rcases ea_if_s hf with ⟨_, hf⟩ | ⟨_, hf⟩
      · exact scz_endi hf hs
      · obtain ⟨M11, he, hf⟩ := ea_cv_s hf
        have hs := ScZ.trans hs (zX11_findFits he)
        rcases ea_if_s hf with ⟨_, hf⟩ | ⟨_, hf⟩
        · rcases ea_if_s hf with ⟨_, hf⟩ | ⟨_, hf⟩
          · obtain ⟨_, hf⟩ := ea_ck_s hf
            exact scz_endi hf hs
          · obtain ⟨_, hf⟩ := ea_ck_s hf
            exact scz_endi hf hs
        · exact scz_endi hf hs
theorem zX11_pair {res : Int32 × eM} {x1 : Int32} {x2 : Int32} {x3 : Int32} {x4 : Int32} {x5 : Int32} {M : eM} (hf : fX11_pair x1 x2 x3 x4 x5 M = some res) : ScZ M res.2 := zX11_pair_0 _ _ _ _ _ _ hf
theorem zX11_right_172 {res : Int32 × eM} {k139 : Int32 → Int32 → Int32 → Int32 → eM → Option (Int32 × eM)} (hk139 : ∀ (x2 : Int32) (x6 : Int32) (x8 : Int32) (x9 : Int32) (M : eM), k139 x2 x6 x8 x9 M = some res → ScZ M res.2) : ∀ (x2 : Int32) (x6 : Int32) (x9 : Int32) (t0 : Int32) (t1 : Int32) (M : eM), fX11_right_172 k139 x2 x6 x9 t0 t1 M = some res → ScZ M res.2 := by
  intro x2 x6 x9 t0 t1 M hf
  replace hf := (fX11_right_172.eq_1 ..).symm.trans hf
  exact ScZ.trans ScZ.rf (hk139 _ _ _ _ _ hf)
theorem zX11_right_139 {res : Int32 × eM} : ∀ (n : Nat) (x2 : Int32) (x6 : Int32) (x8 : Int32) (x9 : Int32) (M : eM), fX11_right_139 n x2 x6 x8 x9 M = some res → ScZ M res.2 := by
  intro n
  induction n with
  | zero => intro x2 x6 x8 x9 M hf; cases hf
  | succ n ih =>
    intro x2 x6 x8 x9 M hf
    replace hf := (fX11_right_139.eq_2 ..).symm.trans hf
    rcases ea_if_s hf with ⟨_, hf⟩ | ⟨_, hf⟩
    · exact scz_endi hf ScZ.rf
    · obtain ⟨_, hf⟩ := ea_ck_s hf
      rcases ea_if_s hf with ⟨_, hf⟩ | ⟨_, hf⟩
      · exact ScZ.trans ScZ.rf (zX11_right_172 ih _ _ _ _ _ _ hf)
      · exact ScZ.trans ScZ.rf (zX11_right_172 ih _ _ _ _ _ _ hf)
theorem zX11_right_0 {res : Int32 × eM} : ∀ (x1 : Int32) (x2 : Int32) (x3 : Int32) (x4 : Int32) (x5 : Int32) (M : eM), fX11_right_0 x1 x2 x3 x4 x5 M = some res → ScZ M res.2 := by
  intro x1 x2 x3 x4 x5 M hf
  replace hf := (fX11_right_0.eq_1 ..).symm.trans hf
  obtain ⟨r2, M3, he, hf⟩ := ea_ci_s hf
  have hs := ScZ.trans ScZ.rf (zX11_isTelling he)
  rcases ea_if_s hf with ⟨_, hf⟩ | ⟨_, hf⟩
  · exact scz_endi hf hs
  · obtain ⟨r6, M7, he, hf⟩ := ea_ci_s hf
    have hs := ScZ.trans hs (zX11_in he)
    rcases ea_if_s hf with ⟨_, hf⟩ | ⟨_, hf⟩
    · exact scz_endi hf hs
    · obtain ⟨r10, M11, he, hf⟩ := ea_ci_s hf
      have hs := ScZ.trans hs (zX11_areColours he)
      rcases ea_if_s hf with ⟨_, hf⟩ | ⟨_, hf⟩
      · exact scz_endi hf hs
      · obtain ⟨y13, _, hf⟩ := ea_lt_s hf
        rcases ea_if_s hf with ⟨_, hf⟩ | ⟨_, hf⟩
        · exact scz_endi hf hs
        · obtain ⟨y16, _, hf⟩ := ea_lt_s hf
          obtain ⟨_, hf⟩ := ea_ck_s hf
          obtain ⟨_, hf⟩ := ea_ck_s hf
          obtain ⟨_, hf⟩ := ea_ck_s hf
          obtain ⟨_, hf⟩ := ea_ck_s hf
          obtain ⟨_, hf⟩ := ea_ck_s hf
          exact ScZ.trans (((((((hs.pI rfl).pI rfl).pI rfl).pI rfl).pI rfl).pI rfl).pI rfl) (zX11_right_139 ea_N _ _ _ _ _ hf)
theorem zX11_right {res : Int32 × eM} {x1 : Int32} {x2 : Int32} {x3 : Int32} {x4 : Int32} {x5 : Int32} {M : eM} (hf : fX11_right x1 x2 x3 x4 x5 M = some res) : ScZ M res.2 := zX11_right_0 _ _ _ _ _ _ hf
theorem zX11_shows_0 {res : Int32 × eM} : ∀ (x1 : Int32) (x2 : Int32) (x3 : Int32) (x4 : Int32) (M : eM), fX11_shows_0 x1 x2 x3 x4 M = some res → ScZ M res.2 := by
  intro x1 x2 x3 x4 M hf
  replace hf := (fX11_shows_0.eq_1 ..).symm.trans hf
  obtain ⟨r2, M3, he, hf⟩ := ea_ci_s hf
  have hs := ScZ.trans ScZ.rf (zX11_isCell he)
  rcases ea_if_s hf with ⟨_, hf⟩ | ⟨_, hf⟩
  · exact scz_endi hf hs
  · obtain ⟨r6, M7, he, hf⟩ := ea_ci_s hf
    have hs := ScZ.trans hs (zX11_in he)
    rcases ea_if_s hf with ⟨_, hf⟩ | ⟨_, hf⟩
    · exact scz_endi hf hs
    · obtain ⟨r10, M11, he, hf⟩ := ea_ci_s hf
      have hs := ScZ.trans hs (zX11_isStep he)
      rcases ea_if_s hf with ⟨_, hf⟩ | ⟨_, hf⟩
      · exact scz_endi hf hs
      · obtain ⟨r14, M15, he, hf⟩ := ea_ci_s hf
        have hs := ScZ.trans hs (zX11_isColour he)
        rcases ea_if_s hf with ⟨_, hf⟩ | ⟨_, hf⟩
        · exact scz_endi hf hs
        · obtain ⟨r18, M19, he, hf⟩ := ea_ci_s hf
          have hs := ScZ.trans hs (zX11_lookAt he)
          rcases ea_if_s hf with ⟨_, hf⟩ | ⟨_, hf⟩
          · obtain ⟨_, hf⟩ := ea_ck_s hf
            rcases ea_if_s hf with ⟨_, hf⟩ | ⟨_, hf⟩
            · exact scz_endi hf hs
            · obtain ⟨_, hf⟩ := ea_ck_s hf
              exact scz_endi hf hs
          · exact scz_endi hf hs
theorem zX11_shows {res : Int32 × eM} {x1 : Int32} {x2 : Int32} {x3 : Int32} {x4 : Int32} {M : eM} (hf : fX11_shows x1 x2 x3 x4 M = some res) : ScZ M res.2 := zX11_shows_0 _ _ _ _ _ hf
theorem zX11_stories_83 {res : Int32 × eM} {k30 : Int32 → Int32 → Int32 → Int32 → Int32 → eM → Option (Int32 × eM)} (hk30 : ∀ (x1 : Int32) (x2 : Int32) (x3 : Int32) (x4 : Int32) (x5 : Int32) (M : eM), k30 x1 x2 x3 x4 x5 M = some res → ScZ M res.2) : ∀ (x1 : Int32) (x2 : Int32) (x3 : Int32) (x4 : Int32) (x5 : Int32) (M : eM), fX11_stories_83 k30 x1 x2 x3 x4 x5 M = some res → ScZ M res.2 := by
  intro x1 x2 x3 x4 x5 M hf
  replace hf := (fX11_stories_83.eq_1 ..).symm.trans hf
  exact ScZ.trans ScZ.rf (hk30 _ _ _ _ _ _ hf)
theorem zX11_stories_81 {res : Int32 × eM} {k30 : Int32 → Int32 → Int32 → Int32 → Int32 → eM → Option (Int32 × eM)} (hk30 : ∀ (x1 : Int32) (x2 : Int32) (x3 : Int32) (x4 : Int32) (x5 : Int32) (M : eM), k30 x1 x2 x3 x4 x5 M = some res → ScZ M res.2) : ∀ (x1 : Int32) (x2 : Int32) (x3 : Int32) (x5 : Int32) (t0 : Int32) (M : eM), fX11_stories_81 k30 x1 x2 x3 x5 t0 M = some res → ScZ M res.2 := by
  intro x1 x2 x3 x5 t0 M hf
  replace hf := (fX11_stories_81.eq_1 ..).symm.trans hf
  exact ScZ.trans ScZ.rf (zX11_stories_83 hk30 _ _ _ _ _ _ hf)
theorem zX11_stories_30 {res : Int32 × eM} {k89 : Int32 → Int32 → Int32 → Int32 → eM → Option (Int32 × eM)} (hk89 : ∀ (x1 : Int32) (x2 : Int32) (x3 : Int32) (x4 : Int32) (M : eM), k89 x1 x2 x3 x4 M = some res → ScZ M res.2) : ∀ (n : Nat) (x1 : Int32) (x2 : Int32) (x3 : Int32) (x4 : Int32) (x5 : Int32) (M : eM), fX11_stories_30 k89 n x1 x2 x3 x4 x5 M = some res → ScZ M res.2 := by
  intro n
  induction n with
  | zero => intro x1 x2 x3 x4 x5 M hf; cases hf
  | succ n ih =>
    intro x1 x2 x3 x4 x5 M hf
    replace hf := (fX11_stories_30.eq_2 ..).symm.trans hf
    obtain ⟨r2, M3, he, hf⟩ := ea_ci_s hf
    have hs := ScZ.trans ScZ.rf (zX11_cells he)
    rcases ea_if_s hf with ⟨_, hf⟩ | ⟨_, hf⟩
    · exact ScZ.trans hs (hk89 _ _ _ _ _ hf)
    · rcases ea_if_s hf with ⟨_, hf⟩ | ⟨_, hf⟩
      · exact ScZ.trans hs (hk89 _ _ _ _ _ hf)
      · obtain ⟨M7, he, hf⟩ := ea_cv_s hf
        have hs := ScZ.trans hs (zX11_findWords he)
        rcases ea_if_s hf with ⟨_, hf⟩ | ⟨_, hf⟩
        · exact ScZ.trans hs (zX11_stories_83 ih _ _ _ _ _ _ hf)
        · obtain ⟨M10, he, hf⟩ := ea_cv_s hf
          have hs := ScZ.trans hs (zX11_findFits he)
          rcases ea_if_s hf with ⟨_, hf⟩ | ⟨_, hf⟩
          · exact ScZ.trans hs (zX11_stories_81 ih _ _ _ _ _ _ hf)
          · exact ScZ.trans hs (zX11_stories_81 ih _ _ _ _ _ _ hf)
theorem zX11_stories_102 {res : Int32 × eM} {k14 : Int32 → Int32 → Int32 → eM → Option (Int32 × eM)} (hk14 : ∀ (x1 : Int32) (x2 : Int32) (x3 : Int32) (M : eM), k14 x1 x2 x3 M = some res → ScZ M res.2) : ∀ (x1 : Int32) (x3 : Int32) (t0 : Int32) (t1 : Int32) (M : eM), fX11_stories_102 k14 x1 x3 t0 t1 M = some res → ScZ M res.2 := by
  intro x1 x3 t0 t1 M hf
  replace hf := (fX11_stories_102.eq_1 ..).symm.trans hf
  exact ScZ.trans ScZ.rf (hk14 _ _ _ _ hf)
theorem zX11_stories_89 {res : Int32 × eM} {k14 : Int32 → Int32 → Int32 → eM → Option (Int32 × eM)} (hk14 : ∀ (x1 : Int32) (x2 : Int32) (x3 : Int32) (M : eM), k14 x1 x2 x3 M = some res → ScZ M res.2) : ∀ (x1 : Int32) (x2 : Int32) (x3 : Int32) (x4 : Int32) (M : eM), fX11_stories_89 k14 x1 x2 x3 x4 M = some res → ScZ M res.2 := by
  intro x1 x2 x3 x4 M hf
  replace hf := (fX11_stories_89.eq_1 ..).symm.trans hf
  rcases ea_if_s hf with ⟨_, hf⟩ | ⟨_, hf⟩
  · exact ScZ.trans ScZ.rf (zX11_stories_102 hk14 _ _ _ _ _ hf)
  · exact ScZ.trans ScZ.rf (zX11_stories_102 hk14 _ _ _ _ _ hf)
theorem zX11_stories_14 {res : Int32 × eM} : ∀ (n : Nat) (x1 : Int32) (x2 : Int32) (x3 : Int32) (M : eM), fX11_stories_14 n x1 x2 x3 M = some res → ScZ M res.2 := by
  intro n
  induction n with
  | zero => intro x1 x2 x3 M hf; cases hf
  | succ n ih =>
    intro x1 x2 x3 M hf
    replace hf := (fX11_stories_14.eq_2 ..).symm.trans hf
    rcases ea_if_s hf with ⟨_, hf⟩ | ⟨_, hf⟩
    · exact scz_endi hf ScZ.rf
    · exact ScZ.trans ScZ.rf (zX11_stories_30 (zX11_stories_89 ih) ea_N _ _ _ _ _ _ hf)
theorem zX11_stories_0 {res : Int32 × eM} : ∀ (x1 : Int32) (M : eM), fX11_stories_0 x1 M = some res → ScZ M res.2 := by
  intro x1 M hf
  replace hf := (fX11_stories_0.eq_1 ..).symm.trans hf
  obtain ⟨r2, M3, he, hf⟩ := ea_ci_s hf
  have hs := ScZ.trans ScZ.rf (zX11_isStep he)
  rcases ea_if_s hf with ⟨_, hf⟩ | ⟨_, hf⟩
  · exact scz_endi hf hs
  · exact ScZ.trans hs (zX11_stories_14 ea_N _ _ _ _ hf)
theorem zX11_stories {res : Int32 × eM} {x1 : Int32} {M : eM} (hf : fX11_stories x1 M = some res) : ScZ M res.2 := zX11_stories_0 _ _ hf
theorem zX11_strength_0 {res : Int32 × eM} : ∀ (x1 : Int32) (x2 : Int32) (M : eM), fX11_strength_0 x1 x2 M = some res → ScZ M res.2 := by
  intro x1 x2 M hf
  replace hf := (fX11_strength_0.eq_1 ..).symm.trans hf
  obtain ⟨r2, M3, he, hf⟩ := ea_ci_s hf
  have hs := ScZ.trans ScZ.rf (zX11_isStuff he)
  rcases ea_if_s hf with ⟨_, hf⟩ | ⟨_, hf⟩
  · exact scz_endi hf hs
  · obtain ⟨r6, M7, he, hf⟩ := ea_ci_s hf
    have hs := ScZ.trans hs (zX11_areHours he)
    rcases ea_if_s hf with ⟨_, hf⟩ | ⟨_, hf⟩
    · exact scz_endi hf hs
    · obtain ⟨r10, M11, he, hf⟩ := ea_ci_s hf
      have hs := ScZ.trans hs (zX11_strengthOf he)
      exact scz_endi hf hs
theorem zX11_strength {res : Int32 × eM} {x1 : Int32} {x2 : Int32} {M : eM} (hf : fX11_strength x1 x2 M = some res) : ScZ M res.2 := zX11_strength_0 _ _ _ hf
theorem zX11_take_24 {res : Int32 × eM} {k57 : eM → Option (Int32 × eM)} (hk57 : ∀ (M : eM), k57 M = some res → ScZ M res.2) : ∀ (n : Nat) (x1 : Int32) (x2 : Int32) (M : eM), fX11_take_24 k57 n x1 x2 M = some res → ScZ M res.2 := by
  intro n
  induction n with
  | zero => intro x1 x2 M hf; cases hf
  | succ n ih =>
    intro x1 x2 M hf
    replace hf := (fX11_take_24.eq_2 ..).symm.trans hf
    rcases ea_if_s hf with ⟨_, hf⟩ | ⟨_, hf⟩
    · exact ScZ.trans ScZ.rf (hk57 _ hf)
    · obtain ⟨_, hf⟩ := ea_ck_s hf
      obtain ⟨_, hf⟩ := ea_ck_s hf
      exact ScZ.trans (ScZ.rf.pI rfl) (ih _ _ _ hf)
theorem zX11_take_57 {res : Int32 × eM} : ∀ (M : eM), fX11_take_57 M = some res → ScZ M res.2 := by
  intro M hf
  replace hf := (fX11_take_57.eq_1 ..).symm.trans hf
  exact scz_endi hf ScZ.rf
theorem zX11_take_0 {res : Int32 × eM} : ∀ (x1 : Int32) (M : eM), fX11_take_0 x1 M = some res → ScZ M res.2 := by
  intro x1 M hf
  replace hf := (fX11_take_0.eq_1 ..).symm.trans hf
  obtain ⟨r2, M3, he, hf⟩ := ea_ci_s hf
  have hs := ScZ.trans ScZ.rf (zX11_isSlot he)
  rcases ea_if_s hf with ⟨_, hf⟩ | ⟨_, hf⟩
  · exact scz_endi hf hs
  · obtain ⟨_, hf⟩ := ea_ck_s hf
    rcases ea_if_s hf with ⟨_, hf⟩ | ⟨_, hf⟩
    · exact scz_endi hf hs
    · exact ScZ.trans hs (zX11_take_24 (zX11_take_57) ea_N _ _ _ hf)
theorem zX11_take {res : Int32 × eM} {x1 : Int32} {M : eM} (hf : fX11_take x1 M = some res) : ScZ M res.2 := zX11_take_0 _ _ hf
theorem zX11_thrown_0 {res : Int32 × eM} : ∀ (x1 : Int32) (x2 : Int32) (x3 : Int32) (x4 : Int32) (x5 : Int32) (M : eM), fX11_thrown_0 x1 x2 x3 x4 x5 M = some res → ScZ M res.2 := by
  intro x1 x2 x3 x4 x5 M hf
  replace hf := (fX11_thrown_0.eq_1 ..).symm.trans hf
  obtain ⟨r2, M3, he, hf⟩ := ea_ci_s hf
  have hs := ScZ.trans ScZ.rf (zX11_isCell he)
  rcases ea_if_s hf with ⟨_, hf⟩ | ⟨_, hf⟩
  · exact scz_endi hf hs
  · obtain ⟨r6, M7, he, hf⟩ := ea_ci_s hf
    have hs := ScZ.trans hs (zX11_isEye he)
    rcases ea_if_s hf with ⟨_, hf⟩ | ⟨_, hf⟩
    · exact scz_endi hf hs
    · obtain ⟨r10, M11, he, hf⟩ := ea_ci_s hf
      have hs := ScZ.trans hs (zX11_isStory he)
      rcases ea_if_s hf with ⟨_, hf⟩ | ⟨_, hf⟩
      · exact scz_endi hf hs
      · obtain ⟨r14, M15, he, hf⟩ := ea_ci_s hf
        have hs := ScZ.trans hs (zX11_isBound he)
        rcases ea_if_s hf with ⟨_, hf⟩ | ⟨_, hf⟩
        · exact scz_endi hf hs
        · obtain ⟨r18, M19, he, hf⟩ := ea_ci_s hf
          have hs := ScZ.trans hs (zX11_in he)
          rcases ea_if_s hf with ⟨_, hf⟩ | ⟨_, hf⟩
          · exact scz_endi hf hs
          · obtain ⟨r22, M23, he, hf⟩ := ea_ci_s hf
            have hs := ScZ.trans hs (zX11_frontOf he)
            rcases ea_if_s hf with ⟨_, hf⟩ | ⟨_, hf⟩
            · obtain ⟨M26, he, hf⟩ := ea_cv_s hf
              have hs := ScZ.trans hs (zX11_throwLight he)
              rcases ea_if_s hf with ⟨_, hf⟩ | ⟨_, hf⟩
              · exact scz_endi hf hs
              · obtain ⟨_, hf⟩ := ea_ck_s hf
                exact scz_endi hf hs
            · exact scz_endi hf hs
theorem zX11_thrown {res : Int32 × eM} {x1 : Int32} {x2 : Int32} {x3 : Int32} {x4 : Int32} {x5 : Int32} {M : eM} (hf : fX11_thrown x1 x2 x3 x4 x5 M = some res) : ScZ M res.2 := zX11_thrown_0 _ _ _ _ _ _ hf
theorem zX11_told_211 {res : Int32 × eM} : ∀ (n : Nat) (x1 : Int32) (x2 : Int32) (x3 : Int32) (M : eM), fX11_told_211 n x1 x2 x3 M = some res → ScZ M res.2 := by
  intro n
  induction n with
  | zero => intro x1 x2 x3 M hf; cases hf
  | succ n ih =>
    intro x1 x2 x3 M hf
    replace hf := (fX11_told_211.eq_2 ..).symm.trans hf
    obtain ⟨_, hf⟩ := ea_ck_s hf
    rcases ea_if_s hf with ⟨_, hf⟩ | ⟨_, hf⟩
    · exact scz_endi hf ScZ.rf
    · obtain ⟨_, hf⟩ := ea_ck_s hf
      obtain ⟨y4, _, hf⟩ := ea_lt_s hf
      exact ScZ.trans ScZ.rf (ih _ _ _ _ hf)
theorem zX11_told_0 {res : Int32 × eM} : ∀ (x1 : Int32) (M : eM), fX11_told_0 x1 M = some res → ScZ M res.2 := by
  intro x1 M hf
  replace hf := (fX11_told_0.eq_1 ..).symm.trans hf
  obtain ⟨r2, M3, he, hf⟩ := ea_ci_s hf
  have hs := ScZ.trans ScZ.rf (zX11_in he)
  rcases ea_if_s hf with ⟨_, hf⟩ | ⟨_, hf⟩
  · obtain ⟨r6, M7, he, hf⟩ := ea_ci_s hf
    have hs := ScZ.trans hs (zX11_in he)
    rcases ea_if_s hf with ⟨_, hf⟩ | ⟨_, hf⟩
    · obtain ⟨r10, M11, he, hf⟩ := ea_ci_s hf
      have hs := ScZ.trans hs (zX11_in he)
      rcases ea_if_s hf with ⟨_, hf⟩ | ⟨_, hf⟩
      · obtain ⟨r14, M15, he, hf⟩ := ea_ci_s hf
        have hs := ScZ.trans hs (zX11_isStory he)
        rcases ea_if_s hf with ⟨_, hf⟩ | ⟨_, hf⟩
        · obtain ⟨r18, M19, he, hf⟩ := ea_ci_s hf
          have hs := ScZ.trans hs (zX11_isStory he)
          rcases ea_if_s hf with ⟨_, hf⟩ | ⟨_, hf⟩
          · exact scz_endi hf hs
          · exact ScZ.trans hs (zX11_told_211 ea_N _ _ _ _ hf)
        · obtain ⟨_, hf⟩ := ea_ck_s hf
          exact scz_endi hf hs
      · obtain ⟨_, hf⟩ := ea_ck_s hf
        exact scz_endi hf hs
    · obtain ⟨_, hf⟩ := ea_ck_s hf
      exact scz_endi hf hs
  · rcases ea_if_s hf with ⟨_, hf⟩ | ⟨_, hf⟩
    · exact scz_endi hf hs
    · rcases ea_if_s hf with ⟨_, hf⟩ | ⟨_, hf⟩
      · exact scz_endi hf hs
      · rcases ea_if_s hf with ⟨_, hf⟩ | ⟨_, hf⟩
        · exact scz_endi hf hs
        · rcases ea_if_s hf with ⟨_, hf⟩ | ⟨_, hf⟩
          · exact scz_endi hf hs
          · rcases ea_if_s hf with ⟨_, hf⟩ | ⟨_, hf⟩
            · exact scz_endi hf hs
            · rcases ea_if_s hf with ⟨_, hf⟩ | ⟨_, hf⟩
              · exact scz_endi hf hs
              · rcases ea_if_s hf with ⟨_, hf⟩ | ⟨_, hf⟩
                · exact scz_endi hf hs
                · exact scz_endi hf hs
theorem zX11_told {res : Int32 × eM} {x1 : Int32} {M : eM} (hf : fX11_told x1 M = some res) : ScZ M res.2 := zX11_told_0 _ _ hf
theorem zX11_vat_134 {res : Int32 × eM} {k68 : Int32 → Int32 → Int32 → Int32 → eM → Option (Int32 × eM)} (hk68 : ∀ (x5 : Int32) (x6 : Int32) (x7 : Int32) (x8 : Int32) (M : eM), k68 x5 x6 x7 x8 M = some res → ScZ M res.2) : ∀ (x5 : Int32) (x6 : Int32) (x8 : Int32) (t0 : Int32) (t1 : Int32) (M : eM), fX11_vat_134 k68 x5 x6 x8 t0 t1 M = some res → ScZ M res.2 := by
  intro x5 x6 x8 t0 t1 M hf
  replace hf := (fX11_vat_134.eq_1 ..).symm.trans hf
  exact ScZ.trans ScZ.rf (hk68 _ _ _ _ _ hf)
theorem zX11_vat_129 {res : Int32 × eM} {k68 : Int32 → Int32 → Int32 → Int32 → eM → Option (Int32 × eM)} (hk68 : ∀ (x5 : Int32) (x6 : Int32) (x7 : Int32) (x8 : Int32) (M : eM), k68 x5 x6 x7 x8 M = some res → ScZ M res.2) : ∀ (x5 : Int32) (x6 : Int32) (x8 : Int32) (t0 : Int32) (M : eM), fX11_vat_129 k68 x5 x6 x8 t0 M = some res → ScZ M res.2 := by
  intro x5 x6 x8 t0 M hf
  replace hf := (fX11_vat_129.eq_1 ..).symm.trans hf
  exact ScZ.trans ScZ.rf (zX11_vat_134 hk68 _ _ _ _ _ _ hf)
theorem zX11_vat_104 {res : Int32 × eM} {k68 : Int32 → Int32 → Int32 → Int32 → eM → Option (Int32 × eM)} (hk68 : ∀ (x5 : Int32) (x6 : Int32) (x7 : Int32) (x8 : Int32) (M : eM), k68 x5 x6 x7 x8 M = some res → ScZ M res.2) : ∀ (x5 : Int32) (x7 : Int32) (x8 : Int32) (t0 : Int32) (t1 : Int32) (M : eM), fX11_vat_104 k68 x5 x7 x8 t0 t1 M = some res → ScZ M res.2 := by
  intro x5 x7 x8 t0 t1 M hf
  replace hf := (fX11_vat_104.eq_1 ..).symm.trans hf
  obtain ⟨_, hf⟩ := ea_ck_s hf
  rcases ea_if_s hf with ⟨_, hf⟩ | ⟨_, hf⟩
  · obtain ⟨_, hf⟩ := ea_ck_s hf
    rcases ea_if_s hf with ⟨_, hf⟩ | ⟨_, hf⟩
    · exact ScZ.trans ScZ.rf (zX11_vat_134 hk68 _ _ _ _ _ _ hf)
    · exact ScZ.trans ScZ.rf (zX11_vat_129 hk68 _ _ _ _ _ hf)
  · exact ScZ.trans ScZ.rf (zX11_vat_129 hk68 _ _ _ _ _ hf)
theorem zX11_vat_103 {res : Int32 × eM} {k68 : Int32 → Int32 → Int32 → Int32 → eM → Option (Int32 × eM)} (hk68 : ∀ (x5 : Int32) (x6 : Int32) (x7 : Int32) (x8 : Int32) (M : eM), k68 x5 x6 x7 x8 M = some res → ScZ M res.2) : ∀ (x5 : Int32) (x7 : Int32) (x8 : Int32) (t0 : Int32) (M : eM), fX11_vat_103 k68 x5 x7 x8 t0 M = some res → ScZ M res.2 := by
  intro x5 x7 x8 t0 M hf
  replace hf := (fX11_vat_103.eq_1 ..).symm.trans hf
  exact ScZ.trans ScZ.rf (zX11_vat_104 hk68 _ _ _ _ _ _ hf)
theorem zX11_vat_68 {res : Int32 × eM} {k143 : Int32 → Int32 → Int32 → eM → Option (Int32 × eM)} (hk143 : ∀ (x5 : Int32) (x6 : Int32) (x7 : Int32) (M : eM), k143 x5 x6 x7 M = some res → ScZ M res.2) : ∀ (n : Nat) (x5 : Int32) (x6 : Int32) (x7 : Int32) (x8 : Int32) (M : eM), fX11_vat_68 k143 n x5 x6 x7 x8 M = some res → ScZ M res.2 := by
  intro n
  induction n with
  | zero => intro x5 x6 x7 x8 M hf; cases hf
  | succ n ih =>
    intro x5 x6 x7 x8 M hf
    replace hf := (fX11_vat_68.eq_2 ..).symm.trans hf
    rcases ea_if_s hf with ⟨_, hf⟩ | ⟨_, hf⟩
    · exact ScZ.trans ScZ.rf (hk143 _ _ _ _ hf)
    · obtain ⟨_, hf⟩ := ea_ck_s hf
      rcases ea_if_s hf with ⟨_, hf⟩ | ⟨_, hf⟩
      · exact ScZ.trans ScZ.rf (zX11_vat_103 ih _ _ _ _ _ hf)
      · obtain ⟨_, hf⟩ := ea_ck_s hf
        rcases ea_if_s hf with ⟨_, hf⟩ | ⟨_, hf⟩
        · exact ScZ.trans ScZ.rf (zX11_vat_103 ih _ _ _ _ _ hf)
        · exact ScZ.trans ScZ.rf (zX11_vat_104 ih _ _ _ _ _ _ hf)
theorem zX11_vat_171 {res : Int32 × eM} : ∀ (x6 : Int32) (x7 : Int32) (t0 : Int32) (M : eM), fX11_vat_171 x6 x7 t0 M = some res → ScZ M res.2 := by
  intro x6 x7 t0 M hf
  replace hf := (fX11_vat_171.eq_1 ..).symm.trans hf
  obtain ⟨r2, M3, he, hf⟩ := ea_ci_s hf
  have hs := ScZ.trans ScZ.rf (zX11_common he)
  obtain ⟨_, hf⟩ := ea_ck_s hf
  exact scz_endi hf hs
theorem zX11_vat_143 {res : Int32 × eM} : ∀ (x5 : Int32) (x6 : Int32) (x7 : Int32) (M : eM), fX11_vat_143 x5 x6 x7 M = some res → ScZ M res.2 := by
  intro x5 x6 x7 M hf
  replace hf := (fX11_vat_143.eq_1 ..).symm.trans hf
  rcases ea_if_s hf with ⟨_, hf⟩ | ⟨_, hf⟩
  · rcases ea_if_s hf with ⟨_, hf⟩ | ⟨_, hf⟩
    · exact scz_endi hf ScZ.rf
    · exact scz_endi hf ScZ.rf
  · rcases ea_if_s hf with ⟨_, hf⟩ | ⟨_, hf⟩
    · exact ScZ.trans ScZ.rf (zX11_vat_171 _ _ _ _ hf)
    · exact ScZ.trans ScZ.rf (zX11_vat_171 _ _ _ _ hf)
theorem zX11_vat_0 {res : Int32 × eM} : ∀ (x1 : Int32) (x2 : Int32) (x3 : Int32) (x4 : Int32) (x5 : Int32) (M : eM), fX11_vat_0 x1 x2 x3 x4 x5 M = some res → ScZ M res.2 := by
  intro x1 x2 x3 x4 x5 M hf
  replace hf := (fX11_vat_0.eq_1 ..).symm.trans hf
  obtain ⟨r2, M3, he, hf⟩ := ea_ci_s hf
  have hs := ScZ.trans ScZ.rf (zX11_isAsked he)
  rcases ea_if_s hf with ⟨_, hf⟩ | ⟨_, hf⟩
  · exact scz_endi hf hs
  · obtain ⟨r6, M7, he, hf⟩ := ea_ci_s hf
    have hs := ScZ.trans hs (zX11_isCell he)
    rcases ea_if_s hf with ⟨_, hf⟩ | ⟨_, hf⟩
    · exact scz_endi hf hs
    · rcases ea_if_s hf with ⟨_, hf⟩ | ⟨_, hf⟩
      · exact scz_endi hf hs
      · obtain ⟨M11, he, hf⟩ := ea_cv_s hf
        have hs := ScZ.trans hs (zX11_findFits he)
        obtain ⟨M13, he, hf⟩ := ea_cv_s hf
        have hs := ScZ.trans hs (zX11_mark (fun _ => rfl) he)
        obtain ⟨M15, he, hf⟩ := ea_cv_s hf
        have hs := ScZ.trans hs (zX11_findFits he)
        obtain ⟨M17, he, hf⟩ := ea_cv_s hf
        have hs := ScZ.trans hs (zX11_mark (fun _ => rfl) he)
        exact ScZ.trans hs (zX11_vat_68 (zX11_vat_143) ea_N _ _ _ _ _ hf)
theorem zX11_vat {res : Int32 × eM} {x1 : Int32} {x2 : Int32} {x3 : Int32} {x4 : Int32} {x5 : Int32} {M : eM} (hf : fX11_vat x1 x2 x3 x4 x5 M = some res) : ScZ M res.2 := zX11_vat_0 _ _ _ _ _ _ hf
theorem zX11_vats_94 {res : Int32 × eM} {k53 : Int32 → Int32 → Int32 → Int32 → Int32 → Int32 → eM → Option (Int32 × eM)} (hk53 : ∀ (x1 : Int32) (x2 : Int32) (x3 : Int32) (x4 : Int32) (x5 : Int32) (x6 : Int32) (M : eM), k53 x1 x2 x3 x4 x5 x6 M = some res → ScZ M res.2) : ∀ (x1 : Int32) (x2 : Int32) (x3 : Int32) (x4 : Int32) (x6 : Int32) (t0 : Int32) (t1 : Int32) (M : eM), fX11_vats_94 k53 x1 x2 x3 x4 x6 t0 t1 M = some res → ScZ M res.2 := by
  intro x1 x2 x3 x4 x6 t0 t1 M hf
  replace hf := (fX11_vats_94.eq_1 ..).symm.trans hf
  exact ScZ.trans ScZ.rf (hk53 _ _ _ _ _ _ _ hf)
theorem zX11_vats_53 {res : Int32 × eM} {k103 : Int32 → Int32 → Int32 → Int32 → Int32 → eM → Option (Int32 × eM)} (hk103 : ∀ (x1 : Int32) (x2 : Int32) (x3 : Int32) (x4 : Int32) (x5 : Int32) (M : eM), k103 x1 x2 x3 x4 x5 M = some res → ScZ M res.2) : ∀ (n : Nat) (x1 : Int32) (x2 : Int32) (x3 : Int32) (x4 : Int32) (x5 : Int32) (x6 : Int32) (M : eM), fX11_vats_53 k103 n x1 x2 x3 x4 x5 x6 M = some res → ScZ M res.2 := by
  intro n
  induction n with
  | zero => intro x1 x2 x3 x4 x5 x6 M hf; cases hf
  | succ n ih =>
    intro x1 x2 x3 x4 x5 x6 M hf
    replace hf := (fX11_vats_53.eq_2 ..).symm.trans hf
    rcases ea_if_s hf with ⟨_, hf⟩ | ⟨_, hf⟩
    · exact ScZ.trans ScZ.rf (hk103 _ _ _ _ _ _ hf)
    · obtain ⟨_, hf⟩ := ea_ck_s hf
      rcases ea_if_s hf with ⟨_, hf⟩ | ⟨_, hf⟩
      · exact ScZ.trans ScZ.rf (hk103 _ _ _ _ _ _ hf)
      · obtain ⟨_, hf⟩ := ea_ck_s hf
        obtain ⟨_, hf⟩ := ea_ck_s hf
        rcases ea_if_s hf with ⟨_, hf⟩ | ⟨_, hf⟩
        · exact ScZ.trans ScZ.rf (zX11_vats_94 ih _ _ _ _ _ _ _ _ hf)
        · exact ScZ.trans ScZ.rf (zX11_vats_94 ih _ _ _ _ _ _ _ _ hf)
theorem zX11_vats_115 {res : Int32 × eM} {k23 : Int32 → Int32 → Int32 → Int32 → eM → Option (Int32 × eM)} (hk23 : ∀ (x1 : Int32) (x2 : Int32) (x3 : Int32) (x4 : Int32) (M : eM), k23 x1 x2 x3 x4 M = some res → ScZ M res.2) : ∀ (x1 : Int32) (x2 : Int32) (x4 : Int32) (t0 : Int32) (t1 : Int32) (M : eM), fX11_vats_115 k23 x1 x2 x4 t0 t1 M = some res → ScZ M res.2 := by
  intro x1 x2 x4 t0 t1 M hf
  replace hf := (fX11_vats_115.eq_1 ..).symm.trans hf
  exact ScZ.trans ScZ.rf (hk23 _ _ _ _ _ hf)
theorem zX11_vats_103 {res : Int32 × eM} {k23 : Int32 → Int32 → Int32 → Int32 → eM → Option (Int32 × eM)} (hk23 : ∀ (x1 : Int32) (x2 : Int32) (x3 : Int32) (x4 : Int32) (M : eM), k23 x1 x2 x3 x4 M = some res → ScZ M res.2) : ∀ (x1 : Int32) (x2 : Int32) (x3 : Int32) (x4 : Int32) (x5 : Int32) (M : eM), fX11_vats_103 k23 x1 x2 x3 x4 x5 M = some res → ScZ M res.2 := by
  intro x1 x2 x3 x4 x5 M hf
  replace hf := (fX11_vats_103.eq_1 ..).symm.trans hf
  rcases ea_if_s hf with ⟨_, hf⟩ | ⟨_, hf⟩
  · exact ScZ.trans ScZ.rf (zX11_vats_115 hk23 _ _ _ _ _ _ hf)
  · exact ScZ.trans ScZ.rf (zX11_vats_115 hk23 _ _ _ _ _ _ hf)
theorem zX11_vats_23 {res : Int32 × eM} : ∀ (n : Nat) (x1 : Int32) (x2 : Int32) (x3 : Int32) (x4 : Int32) (M : eM), fX11_vats_23 n x1 x2 x3 x4 M = some res → ScZ M res.2 := by
  intro n
  induction n with
  | zero => intro x1 x2 x3 x4 M hf; cases hf
  | succ n ih =>
    intro x1 x2 x3 x4 M hf
    replace hf := (fX11_vats_23.eq_2 ..).symm.trans hf
    obtain ⟨r2, M3, he, hf⟩ := ea_ci_s hf
    have hs := ScZ.trans ScZ.rf (zX11_cells he)
    rcases ea_if_s hf with ⟨_, hf⟩ | ⟨_, hf⟩
    · exact scz_endi hf hs
    · obtain ⟨r6, M7, he, hf⟩ := ea_ci_s hf
      have hs := ScZ.trans hs (zX11_onlyThread he)
      obtain ⟨_, hf⟩ := ea_ck_s hf
      exact ScZ.trans (hs.pI rfl) (zX11_vats_53 (zX11_vats_103 ih) ea_N _ _ _ _ _ _ _ hf)
theorem zX11_vats_0 {res : Int32 × eM} : ∀ (x1 : Int32) (x2 : Int32) (M : eM), fX11_vats_0 x1 x2 M = some res → ScZ M res.2 := by
  intro x1 x2 M hf
  replace hf := (fX11_vats_0.eq_1 ..).symm.trans hf
  obtain ⟨r2, M3, he, hf⟩ := ea_ci_s hf
  have hs := ScZ.trans ScZ.rf (zX11_isStory he)
  rcases ea_if_s hf with ⟨_, hf⟩ | ⟨_, hf⟩
  · exact scz_endi hf hs
  · obtain ⟨r6, M7, he, hf⟩ := ea_ci_s hf
    have hs := ScZ.trans hs (zX11_isStep he)
    rcases ea_if_s hf with ⟨_, hf⟩ | ⟨_, hf⟩
    · exact scz_endi hf hs
    · exact ScZ.trans hs (zX11_vats_23 ea_N _ _ _ _ _ hf)
theorem zX11_vats {res : Int32 × eM} {x1 : Int32} {x2 : Int32} {M : eM} (hf : fX11_vats x1 x2 M = some res) : ScZ M res.2 := zX11_vats_0 _ _ _ hf
theorem zX11_was_0 {res : Int32 × eM} : ∀ (x1 : Int32) (x2 : Int32) (x3 : Int32) (x4 : Int32) (x5 : Int32) (M : eM), fX11_was_0 x1 x2 x3 x4 x5 M = some res → ScZ M res.2 := by
  intro x1 x2 x3 x4 x5 M hf
  replace hf := (fX11_was_0.eq_1 ..).symm.trans hf
  obtain ⟨r2, M3, he, hf⟩ := ea_ci_s hf
  have hs := ScZ.trans ScZ.rf (zX11_isAsked he)
  rcases ea_if_s hf with ⟨_, hf⟩ | ⟨_, hf⟩
  · exact scz_endi hf hs
  · obtain ⟨r6, M7, he, hf⟩ := ea_ci_s hf
    have hs := ScZ.trans hs (zX11_isColour he)
    rcases ea_if_s hf with ⟨_, hf⟩ | ⟨_, hf⟩
    · exact scz_endi hf hs
    · obtain ⟨M10, he, hf⟩ := ea_cv_s hf
      have hs := ScZ.trans hs (zX11_findFits he)
      obtain ⟨r12, M13, he, hf⟩ := ea_ci_s hf
      have hs := ScZ.trans hs (zX11_spanEnd he)
      exact scz_endi hf hs
theorem zX11_was {res : Int32 × eM} {x1 : Int32} {x2 : Int32} {x3 : Int32} {x4 : Int32} {x5 : Int32} {M : eM} (hf : fX11_was x1 x2 x3 x4 x5 M = some res) : ScZ M res.2 := zX11_was_0 _ _ _ _ _ _ hf
theorem zX11_world_161 {res : Int32 × eM} {k88 : Int32 → Int32 → Int32 → Int32 → Int32 → Int32 → Int32 → eM → Option (Int32 × eM)} (hk88 : ∀ (x1 : Int32) (x3 : Int32) (x4 : Int32) (x5 : Int32) (x6 : Int32) (x7 : Int32) (x8 : Int32) (M : eM), k88 x1 x3 x4 x5 x6 x7 x8 M = some res → ScZ M res.2) : ∀ (x1 : Int32) (x3 : Int32) (x5 : Int32) (x6 : Int32) (x7 : Int32) (x8 : Int32) (t0 : Int32) (t1 : Int32) (M : eM), fX11_world_161 k88 x1 x3 x5 x6 x7 x8 t0 t1 M = some res → ScZ M res.2 := by
  intro x1 x3 x5 x6 x7 x8 t0 t1 M hf
  replace hf := (fX11_world_161.eq_1 ..).symm.trans hf
  exact ScZ.trans ScZ.rf (hk88 _ _ _ _ _ _ _ _ hf)
theorem zX11_world_88 {res : Int32 × eM} {k170 : Int32 → Int32 → Int32 → Int32 → eM → Option (Int32 × eM)} (hk170 : ∀ (x1 : Int32) (x3 : Int32) (x4 : Int32) (x5 : Int32) (M : eM), k170 x1 x3 x4 x5 M = some res → ScZ M res.2) : ∀ (n : Nat) (x1 : Int32) (x3 : Int32) (x4 : Int32) (x5 : Int32) (x6 : Int32) (x7 : Int32) (x8 : Int32) (M : eM), fX11_world_88 k170 n x1 x3 x4 x5 x6 x7 x8 M = some res → ScZ M res.2 := by
  intro n
  induction n with
  | zero => intro x1 x3 x4 x5 x6 x7 x8 M hf; cases hf
  | succ n ih =>
    intro x1 x3 x4 x5 x6 x7 x8 M hf
    replace hf := (fX11_world_88.eq_2 ..).symm.trans hf
    rcases ea_if_s hf with ⟨_, hf⟩ | ⟨_, hf⟩
    · exact ScZ.trans ScZ.rf (hk170 _ _ _ _ _ hf)
    · obtain ⟨_, hf⟩ := ea_ck_s hf
      obtain ⟨r4, M5, he, hf⟩ := ea_ci_s hf
      have hs := ScZ.trans ScZ.rf (zX11_hoursOf he)
      obtain ⟨r7, M8, he, hf⟩ := ea_ci_s hf
      have hs := ScZ.trans hs (zX11_colourOf he)
      obtain ⟨r10, M11, he, hf⟩ := ea_ci_s hf
      have hs := ScZ.trans hs (zX11_colourOf he)
      obtain ⟨r13, M14, he, hf⟩ := ea_ci_s hf
      have hs := ScZ.trans hs (zX11_colourOf he)
      obtain ⟨r16, M17, he, hf⟩ := ea_ci_s hf
      have hs := ScZ.trans hs (zX11_addLook he)
      rcases ea_if_s hf with ⟨_, hf⟩ | ⟨_, hf⟩
      · exact ScZ.trans hs (zX11_world_161 ih _ _ _ _ _ _ _ _ _ hf)
      · exact ScZ.trans hs (zX11_world_161 ih _ _ _ _ _ _ _ _ _ hf)
theorem zX11_world_170 {res : Int32 × eM} {k42 : Int32 → Int32 → Int32 → Int32 → eM → Option (Int32 × eM)} (hk42 : ∀ (x1 : Int32) (x3 : Int32) (x4 : Int32) (x5 : Int32) (M : eM), k42 x1 x3 x4 x5 M = some res → ScZ M res.2) : ∀ (x1 : Int32) (x3 : Int32) (x4 : Int32) (x5 : Int32) (M : eM), fX11_world_170 k42 x1 x3 x4 x5 M = some res → ScZ M res.2 := by
  intro x1 x3 x4 x5 M hf
  replace hf := (fX11_world_170.eq_1 ..).symm.trans hf
  exact ScZ.trans ScZ.rf (hk42 _ _ _ _ _ hf)
theorem zX11_world_42 {res : Int32 × eM} : ∀ (n : Nat) (x1 : Int32) (x3 : Int32) (x4 : Int32) (x5 : Int32) (M : eM), fX11_world_42 n x1 x3 x4 x5 M = some res → ScZ M res.2 := by
  intro n
  induction n with
  | zero => intro x1 x3 x4 x5 M hf; cases hf
  | succ n ih =>
    intro x1 x3 x4 x5 M hf
    replace hf := (fX11_world_42.eq_2 ..).symm.trans hf
    obtain ⟨r2, M3, he, hf⟩ := ea_ci_s hf
    have hs := ScZ.trans ScZ.rf (zX11_cells he)
    rcases ea_if_s hf with ⟨_, hf⟩ | ⟨_, hf⟩
    · exact scz_endi hf hs
    · rcases ea_if_s hf with ⟨_, hf⟩ | ⟨_, hf⟩
      · exact scz_endi hf hs
      · obtain ⟨r7, M8, he, hf⟩ := ea_ci_s hf
        have hs := ScZ.trans hs (zX11_drawThread he)
        obtain ⟨r10, M11, he, hf⟩ := ea_ci_s hf
        have hs := ScZ.trans hs (zX11_draw he)
        obtain ⟨r13, M14, he, hf⟩ := ea_ci_s hf
        have hs := ScZ.trans hs (zX11_yearAt he)
        exact ScZ.trans hs (zX11_world_88 (zX11_world_170 ih) ea_N _ _ _ _ _ _ _ _ hf)
theorem zX11_world_0 {res : Int32 × eM} : ∀ (x1 : Int32) (x2 : Int32) (x3 : Int32) (M : eM), fX11_world_0 x1 x2 x3 M = some res → ScZ M res.2 := by
  intro x1 x2 x3 M hf
  replace hf := (fX11_world_0.eq_1 ..).symm.trans hf
  obtain ⟨r2, M3, he, hf⟩ := ea_ci_s hf
  have hs := ScZ.trans ScZ.rf (zX11_isTelling he)
  rcases ea_if_s hf with ⟨_, hf⟩ | ⟨_, hf⟩
  · exact scz_endi hf hs
  · rcases ea_if_s hf with ⟨_, hf⟩ | ⟨_, hf⟩
    · exact scz_endi hf hs
    · obtain ⟨r7, M8, he, hf⟩ := ea_ci_s hf
      have hs := ScZ.trans hs (zX11_isStory he)
      rcases ea_if_s hf with ⟨_, hf⟩ | ⟨_, hf⟩
      · exact scz_endi hf hs
      · exact ScZ.trans ((hs.pL).pI rfl) (zX11_world_42 ea_N _ _ _ _ _ hf)
theorem zX11_world {res : Int32 × eM} {x1 : Int32} {x2 : Int32} {x3 : Int32} {M : eM} (hf : fX11_world x1 x2 x3 M = some res) : ScZ M res.2 := zX11_world_0 _ _ _ _ hf
theorem zX11_keyAt_89 {res : Int32 × eM} {k52 : Int32 → Int32 → Int32 → Int32 → Int32 → Int32 → Int32 → eM → Option (Int32 × eM)} (hk52 : ∀ (x1 : Int32) (x2 : Int32) (x3 : Int32) (x4 : Int32) (x5 : Int32) (x6 : Int32) (x7 : Int32) (M : eM), k52 x1 x2 x3 x4 x5 x6 x7 M = some res → ScZ M res.2) : ∀ (x1 : Int32) (x2 : Int32) (x3 : Int32) (x4 : Int32) (x5 : Int32) (x7 : Int32) (t0 : Int32) (M : eM), fX11_keyAt_89 k52 x1 x2 x3 x4 x5 x7 t0 M = some res → ScZ M res.2 := by
  intro x1 x2 x3 x4 x5 x7 t0 M hf
  replace hf := (fX11_keyAt_89.eq_1 ..).symm.trans hf
  exact ScZ.trans ScZ.rf (hk52 _ _ _ _ _ _ _ _ hf)
theorem zX11_keyAt_52 {res : Int32 × eM} {k97 : Int32 → Int32 → Int32 → Int32 → Int32 → eM → Option (Int32 × eM)} (hk97 : ∀ (x1 : Int32) (x2 : Int32) (x3 : Int32) (x5 : Int32) (x6 : Int32) (M : eM), k97 x1 x2 x3 x5 x6 M = some res → ScZ M res.2) : ∀ (n : Nat) (x1 : Int32) (x2 : Int32) (x3 : Int32) (x4 : Int32) (x5 : Int32) (x6 : Int32) (x7 : Int32) (M : eM), fX11_keyAt_52 k97 n x1 x2 x3 x4 x5 x6 x7 M = some res → ScZ M res.2 := by
  intro n
  induction n with
  | zero => intro x1 x2 x3 x4 x5 x6 x7 M hf; cases hf
  | succ n ih =>
    intro x1 x2 x3 x4 x5 x6 x7 M hf
    replace hf := (fX11_keyAt_52.eq_2 ..).symm.trans hf
    rcases ea_if_s hf with ⟨_, hf⟩ | ⟨_, hf⟩
    · exact ScZ.trans ScZ.rf (hk97 _ _ _ _ _ _ hf)
    · rcases ea_if_s hf with ⟨_, hf⟩ | ⟨_, hf⟩
      · exact ScZ.trans ScZ.rf (hk97 _ _ _ _ _ _ hf)
      · obtain ⟨_, hf⟩ := ea_ck_s hf
        obtain ⟨r5, M6, he, hf⟩ := ea_ci_s hf
        have hs := ScZ.trans ScZ.rf (zX11_byteAt he)
        rcases ea_if_s hf with ⟨_, hf⟩ | ⟨_, hf⟩
        · exact ScZ.trans hs (zX11_keyAt_89 ih _ _ _ _ _ _ _ _ hf)
        · exact ScZ.trans hs (zX11_keyAt_89 ih _ _ _ _ _ _ _ _ hf)
theorem zX11_keyAt_113 {res : Int32 × eM} {k8 : Int32 → Int32 → Int32 → Int32 → Int32 → eM → Option (Int32 × eM)} (hk8 : ∀ (x1 : Int32) (x2 : Int32) (x3 : Int32) (x4 : Int32) (x5 : Int32) (M : eM), k8 x1 x2 x3 x4 x5 M = some res → ScZ M res.2) : ∀ (x1 : Int32) (x2 : Int32) (x3 : Int32) (x4 : Int32) (x5 : Int32) (M : eM), fX11_keyAt_113 k8 x1 x2 x3 x4 x5 M = some res → ScZ M res.2 := by
  intro x1 x2 x3 x4 x5 M hf
  replace hf := (fX11_keyAt_113.eq_1 ..).symm.trans hf
  exact ScZ.trans ScZ.rf (hk8 _ _ _ _ _ _ hf)
theorem zX11_keyAt_97 {res : Int32 × eM} {k8 : Int32 → Int32 → Int32 → Int32 → Int32 → eM → Option (Int32 × eM)} (hk8 : ∀ (x1 : Int32) (x2 : Int32) (x3 : Int32) (x4 : Int32) (x5 : Int32) (M : eM), k8 x1 x2 x3 x4 x5 M = some res → ScZ M res.2) : ∀ (x1 : Int32) (x2 : Int32) (x3 : Int32) (x5 : Int32) (x6 : Int32) (M : eM), fX11_keyAt_97 k8 x1 x2 x3 x5 x6 M = some res → ScZ M res.2 := by
  intro x1 x2 x3 x5 x6 M hf
  replace hf := (fX11_keyAt_97.eq_1 ..).symm.trans hf
  rcases ea_if_s hf with ⟨_, hf⟩ | ⟨_, hf⟩
  · exact ScZ.trans ScZ.rf (zX11_keyAt_113 hk8 _ _ _ _ _ _ hf)
  · exact scz_endi hf ScZ.rf
theorem zX11_keyAt_47 {res : Int32 × eM} {k8 : Int32 → Int32 → Int32 → Int32 → Int32 → eM → Option (Int32 × eM)} (hk8 : ∀ (x1 : Int32) (x2 : Int32) (x3 : Int32) (x4 : Int32) (x5 : Int32) (M : eM), k8 x1 x2 x3 x4 x5 M = some res → ScZ M res.2) : ∀ (x1 : Int32) (x2 : Int32) (x3 : Int32) (x4 : Int32) (x5 : Int32) (t0 : Int32) (M : eM), fX11_keyAt_47 k8 x1 x2 x3 x4 x5 t0 M = some res → ScZ M res.2 := by
  intro x1 x2 x3 x4 x5 t0 M hf
  replace hf := (fX11_keyAt_47.eq_1 ..).symm.trans hf
  exact ScZ.trans ScZ.rf (zX11_keyAt_52 (zX11_keyAt_97 hk8) ea_N _ _ _ _ _ _ _ _ hf)
theorem zX11_keyAt_8 {res : Int32 × eM} : ∀ (n : Nat) (x1 : Int32) (x2 : Int32) (x3 : Int32) (x4 : Int32) (x5 : Int32) (M : eM), fX11_keyAt_8 n x1 x2 x3 x4 x5 M = some res → ScZ M res.2 := by
  intro n
  induction n with
  | zero => intro x1 x2 x3 x4 x5 M hf; cases hf
  | succ n ih =>
    intro x1 x2 x3 x4 x5 M hf
    replace hf := (fX11_keyAt_8.eq_2 ..).symm.trans hf
    rcases ea_if_s hf with ⟨_, hf⟩ | ⟨_, hf⟩
    · exact scz_endi hf ScZ.rf
    · obtain ⟨_, hf⟩ := ea_ck_s hf
      rcases ea_if_s hf with ⟨_, hf⟩ | ⟨_, hf⟩
      · rcases ea_if_s hf with ⟨_, hf⟩ | ⟨_, hf⟩
        · exact ScZ.trans ScZ.rf (zX11_keyAt_47 ih _ _ _ _ _ _ _ hf)
        · exact ScZ.trans ScZ.rf (zX11_keyAt_47 ih _ _ _ _ _ _ _ hf)
      · exact ScZ.trans ScZ.rf (zX11_keyAt_113 ih _ _ _ _ _ _ hf)
theorem zX11_keyAt_0 {res : Int32 × eM} : ∀ (x1 : Int32) (x2 : Int32) (M : eM), fX11_keyAt_0 x1 x2 M = some res → ScZ M res.2 := by
  intro x1 x2 M hf
  replace hf := (fX11_keyAt_0.eq_1 ..).symm.trans hf
  exact ScZ.trans ScZ.rf (zX11_keyAt_8 ea_N _ _ _ _ _ _ hf)
theorem zX11_keyAt {res : Int32 × eM} {x1 : Int32} {x2 : Int32} {M : eM} (hf : fX11_keyAt x1 x2 M = some res) : ScZ M res.2 := zX11_keyAt_0 _ _ _ hf
theorem zX11_scan_25 {res : eM} {k5 : Int32 → eM → Option (eM)} (hk5 : ∀ (x1 : Int32) (M : eM), k5 x1 M = some res → ScZ M res) : ∀ (x1 : Int32) (M : eM), fX11_scan_25 k5 x1 M = some res → ScZ M res := by
  intro x1 M hf
  replace hf := (fX11_scan_25.eq_1 ..).symm.trans hf
  exact ScZ.trans ScZ.rf (hk5 _ _ hf)
theorem zX11_scan_5 {res : eM} {k31 : Int32 → eM → Option (eM)} (hk31 : ∀ (x1 : Int32) (M : eM), k31 x1 M = some res → ScZ M res) : ∀ (n : Nat) (x1 : Int32) (M : eM), fX11_scan_5 k31 n x1 M = some res → ScZ M res := by
  intro n
  induction n with
  | zero => intro x1 M hf; cases hf
  | succ n ih =>
    intro x1 M hf
    replace hf := (fX11_scan_5.eq_2 ..).symm.trans hf
    obtain ⟨r2, M3, he, hf⟩ := ea_ci_s hf
    have hs := ScZ.trans ScZ.rf (zX11_byteAt he)
    rcases ea_if_s hf with ⟨_, hf⟩ | ⟨_, hf⟩
    · exact ScZ.trans hs (zX11_scan_25 ih _ _ hf)
    · obtain ⟨r6, M7, he, hf⟩ := ea_ci_s hf
      have hs := ScZ.trans hs (zX11_byteAt he)
      rcases ea_if_s hf with ⟨_, hf⟩ | ⟨_, hf⟩
      · exact ScZ.trans hs (zX11_scan_25 ih _ _ hf)
      · exact ScZ.trans hs (hk31 _ _ hf)
theorem zX11_scan_124 {res : eM} {k80 : Int32 → Int32 → eM → Option (eM)} (hk80 : ∀ (x1 : Int32) (x3 : Int32) (M : eM), k80 x1 x3 M = some res → ScZ M res) : ∀ (x1 : Int32) (x3 : Int32) (M : eM), fX11_scan_124 k80 x1 x3 M = some res → ScZ M res := by
  intro x1 x3 M hf
  replace hf := (fX11_scan_124.eq_1 ..).symm.trans hf
  exact ScZ.trans ScZ.rf (hk80 _ _ _ hf)
theorem zX11_scan_80 {res : eM} {k130 : Int32 → Int32 → eM → Option (eM)} (hk130 : ∀ (x1 : Int32) (x3 : Int32) (M : eM), k130 x1 x3 M = some res → ScZ M res) : ∀ (n : Nat) (x1 : Int32) (x3 : Int32) (M : eM), fX11_scan_80 k130 n x1 x3 M = some res → ScZ M res := by
  intro n
  induction n with
  | zero => intro x1 x3 M hf; cases hf
  | succ n ih =>
    intro x1 x3 M hf
    replace hf := (fX11_scan_80.eq_2 ..).symm.trans hf
    obtain ⟨r2, M3, he, hf⟩ := ea_ci_s hf
    have hs := ScZ.trans ScZ.rf (zX11_byteAt he)
    obtain ⟨r5, M6, he, hf⟩ := ea_ci_s hf
    have hs := ScZ.trans hs (zX11_isSmall he)
    rcases ea_if_s hf with ⟨_, hf⟩ | ⟨_, hf⟩
    · exact ScZ.trans hs (hk130 _ _ _ hf)
    · rcases ea_if_s hf with ⟨_, hf⟩ | ⟨_, hf⟩
      · exact ScZ.trans hs (zX11_scan_124 ih _ _ _ hf)
      · obtain ⟨r10, M11, he, hf⟩ := ea_ci_s hf
        have hs := ScZ.trans hs (zX11_byteAt he)
        exact ScZ.trans (hs.pL) (zX11_scan_124 ih _ _ _ hf)
theorem zX11_scan_270 {res : eM} : ∀ (x3 : Int32) (M : eM), fX11_scan_270 x3 M = some res → ScZ M res := by
  intro x3 M hf
  replace hf := (fX11_scan_270.eq_1 ..).symm.trans hf
  exact scz_endv hf (ScZ.rf.pI rfl)
theorem zX11_scan_144 {res : eM} : ∀ (x1 : Int32) (x3 : Int32) (t0 : Int32) (M : eM), fX11_scan_144 x1 x3 t0 M = some res → ScZ M res := by
  intro x1 x3 t0 M hf
  replace hf := (fX11_scan_144.eq_1 ..).symm.trans hf
  rcases ea_if_s hf with ⟨_, hf⟩ | ⟨_, hf⟩
  · obtain ⟨r3, M4, he, hf⟩ := ea_ci_s hf
    have hs := ScZ.trans (ScZ.rf.pI rfl) (zX11_keyAt he)
    exact ScZ.trans (hs.pI rfl) (zX11_scan_270 _ _ hf)
  · exact ScZ.trans (ScZ.rf.pI rfl) (zX11_scan_270 _ _ hf)
theorem zX11_scan_130 {res : eM} : ∀ (x1 : Int32) (x3 : Int32) (M : eM), fX11_scan_130 x1 x3 M = some res → ScZ M res := by
  intro x1 x3 M hf
  replace hf := (fX11_scan_130.eq_1 ..).symm.trans hf
  rcases ea_if_s hf with ⟨_, hf⟩ | ⟨_, hf⟩
  · exact ScZ.trans ScZ.rf (zX11_scan_144 _ _ _ _ hf)
  · exact ScZ.trans ScZ.rf (zX11_scan_144 _ _ _ _ hf)
theorem zX11_scan_227 {res : eM} {k185 : Int32 → Int32 → eM → Option (eM)} (hk185 : ∀ (x1 : Int32) (x3 : Int32) (M : eM), k185 x1 x3 M = some res → ScZ M res) : ∀ (x1 : Int32) (x3 : Int32) (t0 : Int32) (M : eM), fX11_scan_227 k185 x1 x3 t0 M = some res → ScZ M res := by
  intro x1 x3 t0 M hf
  replace hf := (fX11_scan_227.eq_1 ..).symm.trans hf
  exact ScZ.trans (ScZ.rf.pI rfl) (hk185 _ _ _ hf)
theorem zX11_scan_185 {res : eM} {k236 : Int32 → Int32 → eM → Option (eM)} (hk236 : ∀ (x1 : Int32) (x3 : Int32) (M : eM), k236 x1 x3 M = some res → ScZ M res) : ∀ (n : Nat) (x1 : Int32) (x3 : Int32) (M : eM), fX11_scan_185 k236 n x1 x3 M = some res → ScZ M res := by
  intro n
  induction n with
  | zero => intro x1 x3 M hf; cases hf
  | succ n ih =>
    intro x1 x3 M hf
    replace hf := (fX11_scan_185.eq_2 ..).symm.trans hf
    obtain ⟨r2, M3, he, hf⟩ := ea_ci_s hf
    have hs := ScZ.trans ScZ.rf (zX11_byteAt he)
    obtain ⟨r5, M6, he, hf⟩ := ea_ci_s hf
    have hs := ScZ.trans hs (zX11_isDigit he)
    rcases ea_if_s hf with ⟨_, hf⟩ | ⟨_, hf⟩
    · exact ScZ.trans hs (hk236 _ _ _ hf)
    · rcases ea_if_s hf with ⟨_, hf⟩ | ⟨_, hf⟩
      · exact ScZ.trans hs (zX11_scan_227 ih _ _ _ _ hf)
      · obtain ⟨r10, M11, he, hf⟩ := ea_ci_s hf
        have hs := ScZ.trans hs (zX11_byteAt he)
        exact ScZ.trans hs (zX11_scan_227 ih _ _ _ _ hf)
theorem zX11_scan_249 {res : eM} : ∀ (x3 : Int32) (t0 : Int32) (M : eM), fX11_scan_249 x3 t0 M = some res → ScZ M res := by
  intro x3 t0 M hf
  replace hf := (fX11_scan_249.eq_1 ..).symm.trans hf
  exact ScZ.trans (ScZ.rf.pI rfl) (zX11_scan_270 _ _ hf)
theorem zX11_scan_236 {res : eM} : ∀ (x1 : Int32) (x3 : Int32) (M : eM), fX11_scan_236 x1 x3 M = some res → ScZ M res := by
  intro x1 x3 M hf
  replace hf := (fX11_scan_236.eq_1 ..).symm.trans hf
  rcases ea_if_s hf with ⟨_, hf⟩ | ⟨_, hf⟩
  · exact ScZ.trans ScZ.rf (zX11_scan_249 _ _ _ hf)
  · exact ScZ.trans ScZ.rf (zX11_scan_249 _ _ _ hf)
theorem zX11_scan_267 {res : eM} : ∀ (x3 : Int32) (t0 : Int32) (M : eM), fX11_scan_267 x3 t0 M = some res → ScZ M res := by
  intro x3 t0 M hf
  replace hf := (fX11_scan_267.eq_1 ..).symm.trans hf
  exact ScZ.trans (ScZ.rf.pI rfl) (zX11_scan_270 _ _ hf)
theorem zX11_scan_31 {res : eM} : ∀ (x1 : Int32) (M : eM), fX11_scan_31 x1 M = some res → ScZ M res := by
  intro x1 M hf
  replace hf := (fX11_scan_31.eq_1 ..).symm.trans hf
  obtain ⟨r2, M3, he, hf⟩ := ea_ci_s hf
  have hs := ScZ.trans (ScZ.rf.pI rfl) (zX11_byteAt he)
  rcases ea_if_s hf with ⟨_, hf⟩ | ⟨_, hf⟩
  · exact ScZ.trans ((hs.pI rfl).pI rfl) (zX11_scan_270 _ _ hf)
  · obtain ⟨r6, M7, he, hf⟩ := ea_ci_s hf
    have hs := ScZ.trans (hs.pI rfl) (zX11_isSmall he)
    rcases ea_if_s hf with ⟨_, hf⟩ | ⟨_, hf⟩
    · obtain ⟨r10, M11, he, hf⟩ := ea_ci_s hf
      have hs := ScZ.trans hs (zX11_isDigit he)
      rcases ea_if_s hf with ⟨_, hf⟩ | ⟨_, hf⟩
      · rcases ea_if_s hf with ⟨_, hf⟩ | ⟨_, hf⟩
        · exact ScZ.trans hs (zX11_scan_267 _ _ _ hf)
        · exact ScZ.trans hs (zX11_scan_267 _ _ _ hf)
      · exact ScZ.trans (hs.pI rfl) (zX11_scan_185 (zX11_scan_236) ea_N _ _ _ hf)
    · exact ScZ.trans (hs.pL) (zX11_scan_80 (zX11_scan_130) ea_N _ _ _ hf)
theorem zX11_scan_0 {res : eM} : ∀ (M : eM), fX11_scan_0 M = some res → ScZ M res := by
  intro M hf
  replace hf := (fX11_scan_0.eq_1 ..).symm.trans hf
  exact ScZ.trans ScZ.rf (zX11_scan_5 (zX11_scan_31) ea_N _ _ hf)
theorem zX11_scan {res : eM} {M : eM} (hf : fX11_scan M = some res) : ScZ M res := zX11_scan_0  _ hf
