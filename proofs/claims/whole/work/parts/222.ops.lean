/-- within two bounds, as a bit -/
def pb (x a h : Int32) : Int32 := if x < a then 0 else if h < x then 0 else 1
theorem px_in (x a h : Int32) (M : eM) : fX10_isWithin x a h M = some (pb x a h, M) := by
  unfold fX10_isWithin fX10_isWithin_0 pb
  by_cases h1 : x < a
  · rw [if_pos h1, if_pos h1]
  · rw [if_neg h1, if_neg h1]
    by_cases h2 : h < x
    · rw [if_pos h2, if_pos h2]
    · rw [if_neg h2, if_neg h2]
theorem py_in (x a h : Int32) (M : eM) : fX11_in x a h M = some (pb x a h, M) := px_in x a h M
theorem pb_01 (x a h : Int32) : pb x a h = 0 ∨ pb x a h = 1 := by
  unfold pb
  by_cases h1 : x < a
  · rw [if_pos h1]; exact Or.inl rfl
  · rw [if_neg h1]
    by_cases h2 : h < x
    · rw [if_pos h2]; exact Or.inl rfl
    · rw [if_neg h2]; exact Or.inr rfl
theorem pb_ok (x a h : Int32) : ea_01 (pb x a h) = true := by
  unfold ea_01
  exact decide_eq_true (pb_01 x a h)
theorem pb_le {x a h : Int32} (hb : pb x a h = 1) : a ≤ x ∧ x ≤ h := by
  unfold pb at hb
  by_cases h1 : x < a
  · rw [if_pos h1] at hb; exact absurd hb (by decide)
  · rw [if_neg h1] at hb
    by_cases h2 : h < x
    · rw [if_pos h2] at hb; exact absurd hb (by decide)
    · exact ⟨Int32.not_lt.mp h1, Int32.not_lt.mp h2⟩
theorem pb_nat {x : Int32} {a k : Nat} (ha : a < 2 ^ 30) (hk : k < 2 ^ 30) (hb : pb x (nI a) (nI k - 1) = 1) : ∃ f, a ≤ f ∧ f < k ∧ x = nI f := by
  obtain ⟨h1, h2⟩ := pb_le hb
  have h3 := Int32.le_iff_toInt_le.mp h1
  have h4 := Int32.le_iff_toInt_le.mp h2
  rw [nI_toInt (by omega)] at h3
  have e := pk_sub_toInt (a := k) (b := 1) hk (by decide)
  rw [show (nI k - 1 : Int32) = nI k - nI 1 from rfl, e] at h4
  obtain ⟨f, hf, rfl⟩ := nI_of (x := x) (by
    rw [Int32.not_lt, Int32.le_iff_toInt_le]
    have z : (0 : Int32).toInt = 0 := by decide
    omega)
  rw [nI_toInt hf] at h3 h4
  exact ⟨f, by omega, by omega, rfl⟩
theorem pb_nat0 {x : Int32} {k : Nat} (hk : k < 2 ^ 30) (hb : pb x 0 (nI k - 1) = 1) : ∃ f, f < k ∧ x = nI f := by
  obtain ⟨f, -, h1, h2⟩ := pb_nat (a := 0) (by decide) hk hb
  exact ⟨f, h1, h2⟩
theorem pz_cl (k : Nat) (hk : k < 2 ^ 31) : (OfNat.ofNat k : Int32).toNatClampNeg = k := nI_clamp hk
section GD
variable {M : eM} {c : Nat} {n : Nat → Nat} {v : Nat → Nat → Nat} {th : Nat} {o w : Nat → Nat}
theorem gx_story (h : pn_C M c n v th o w) (x : Int32) : fX10_isStory x M = some (pb x 0 (nI (n 5) - 1), M) := by
  obtain ⟨h1, h2, -, -, h5, -⟩ := h
  unfold fX10_isStory fX10_isStory_0
  rw [h2, ea_ck_t (pn_is h1), h5.1.2.2.2.2.2.1, ea_ci_t (px_in ..), ea_ck_t (pb_ok ..)]
theorem gy_story (h : pn_C M c n v th o w) (x : Int32) : fX11_isStory x M = some (pb x 0 (nI (n 5) - 1), M) := by
  obtain ⟨-, -, -, -, -, h6, -⟩ := h
  unfold fX11_isStory fX11_isStory_0
  rw [show (5 : Int32).toNatClampNeg = 5 from rfl, h6.1.2.2.2.2.2.1, ea_ci_t (py_in ..), ea_ck_t (pb_ok ..)]
theorem gx_thread (h : pn_C M c n v th o w) (x : Int32) : fX10_isThread x M = some (pb x 0 (nI th - 1), M) := by
  obtain ⟨-, -, -, -, -, -, -, h8, -⟩ := h
  unfold fX10_isThread fX10_isThread_0
  rw [h8.1, ea_ci_t (px_in ..), ea_ck_t (pb_ok ..)]
theorem gy_thread (h : pn_C M c n v th o w) (x : Int32) : fX11_isThread x M = some (pb x 0 (nI th - 1), M) := by
  obtain ⟨-, -, -, -, -, -, -, -, h9⟩ := h
  unfold fX11_isThread fX11_isThread_0
  rw [h9.1, ea_ci_t (py_in ..), ea_ck_t (pb_ok ..)]
theorem gx_colour (x : Int32) : fX10_isColour x M = some (pb x 0 (nI 3 - 1), M) := by
  unfold fX10_isColour fX10_isColour_0
  rw [ea_ci_t (px_in ..), ea_ck_t (pb_ok ..)]
  rfl
theorem gy_colour (x : Int32) : fX11_isColour x M = some (pb x 0 (nI 3 - 1), M) := by
  unfold fX11_isColour fX11_isColour_0
  rw [ea_ci_t (py_in ..), ea_ck_t (pb_ok ..)]
  rfl
theorem gx_step (x : Int32) : fX10_isStep x M = some (pb x 0 (nI 1000 - 1), M) := by
  unfold fX10_isStep fX10_isStep_0
  rw [ea_ci_t (px_in ..), ea_ck_t (pb_ok ..)]
  rfl
theorem gy_step (x : Int32) : fX11_isStep x M = some (pb x 0 (nI 1000 - 1), M) := by
  unfold fX11_isStep fX11_isStep_0
  rw [ea_ci_t (py_in ..), ea_ck_t (pb_ok ..)]
  rfl
theorem gx_side (x : Int32) : fX10_isSide x M = some (pb x 0 (nI 2 - 1), M) := by
  unfold fX10_isSide fX10_isSide_0 fX10_isSide_9
  by_cases h0 : x = 0
  · subst h0; rfl
  · rw [if_neg h0]
    by_cases h1 : x = 1
    · subst h1; rfl
    · rw [if_neg h1]
      rcases pb_01 x 0 (nI 2 - 1) with h | h
      · rw [h]
      · obtain ⟨f, hf, rfl⟩ := pb_nat0 (by decide) h
        rcases (show f = 0 ∨ f = 1 by omega) with rfl | rfl
        · exact absurd rfl h0
        · exact absurd rfl h1
theorem gx_cell (h : pn_C M c n v th o w) (x : Int32) : fX10_isCell x M = some (pb x 0 (nI (n 0 * n 1) - 1), M) := by
  obtain ⟨h1, h2, -, -, h5, -⟩ := h
  have hc : fX1_cells c M = some (nI (n 0 * n 1), M) := by
    unfold fX1_cells fX1_cells_0
    rw [h5.1.1, h5.1.2.1, pk_mul]
  unfold fX10_isCell fX10_isCell_0
  rw [h2, ea_ck_t (pn_is h1), ea_ci_t hc, ea_ci_t (px_in ..), ea_ck_t (pb_ok ..)]
theorem gy_cells (h : pn_C M c n v th o w) : fX11_cells M = some (nI (n 0 * n 1), M) := by
  obtain ⟨-, -, -, -, -, h6, -⟩ := h
  unfold fX11_cells fX11_cells_0
  rw [show (0 : Int32).toNatClampNeg = 0 from rfl, show (1 : Int32).toNatClampNeg = 1 from rfl, h6.1.1, h6.1.2.1, pk_mul]
theorem gy_cell (h : pn_C M c n v th o w) (x : Int32) : fX11_isCell x M = some (pb x 0 (nI (n 0 * n 1) - 1), M) := by
  unfold fX11_isCell fX11_isCell_0
  rw [ea_ci_t (gy_cells h), ea_ci_t (py_in ..), ea_ck_t (pb_ok ..)]
theorem gy_stuff (h : pn_C M c n v th o w) (x : Int32) : fX11_isStuff x M = some (pb x 0 (nI (n 4) - 1), M) := by
  obtain ⟨-, -, -, -, -, h6, -⟩ := h
  unfold fX11_isStuff fX11_isStuff_0
  rw [show (4 : Int32).toNatClampNeg = 4 from rfl, h6.1.2.2.2.2.1, ea_ci_t (py_in ..), ea_ck_t (pb_ok ..)]
theorem gy_hrs (x : Int32) : fX11_areHours x M = some (pb x 0 (nI 1000000 - 1), M) := by
  unfold fX11_areHours fX11_areHours_0
  rw [ea_ci_t (py_in ..), ea_ck_t (pb_ok ..)]
  rfl
end GD
/-- the small calls -/
theorem st_fault (a : Int32) : ea_st Inv (fX10_fault a) (fX11_fault a) := by
  intro M hM
  obtain ⟨c, n, v, th, o, w, len, q, l, t, r, h1, h2, h3, h4⟩ := id hM
  obtain ⟨-, -, -, -, e1, e2⟩ := h2
  unfold fX10_fault fX10_fault_0 fX11_fault fX11_fault_0
  rw [e1, e2]
  by_cases ha : a = 0
  · rw [if_pos ha]; exact ⟨_, _, M, rfl, by rw [if_pos ha], hM⟩
  · rw [if_neg ha]
    by_cases hb : a = 1
    · rw [if_pos hb]; exact ⟨_, _, M, rfl, by rw [if_neg ha, if_pos hb], hM⟩
    · rw [if_neg hb]; exact ⟨_, _, M, rfl, by rw [if_neg ha, if_neg hb], hM⟩
theorem st_count (a : Int32) : ea_st Inv (fX10_count a) (fX11_count a) := by
  intro M hM
  obtain ⟨c, n, v, th, o, w, len, q, l, t, r, h1, h2, h3, h4⟩ := id hM
  obtain ⟨hc, hr, -, -, hX, hY, -, hTX, hTY⟩ := h1
  obtain ⟨-, hLX, hLY, -⟩ := h3
  have e0 := hLY.1 0 (by decide)
  have e1 := hLY.1 1 (by decide)
  have e2 := hLY.1 2 (by decide)
  have key : fX10_count a M = fX11_count a M := by
    unfold fX10_count fX10_count_0 fX11_count fX11_count_0
    rw [hr, ea_ck_t (pn_is hc), hX.1.2.2.2.2.2.2.2.2, hY.1.2.2.2.2.2.2.2.2, hLX.1.1, hLX.1.2.1, hLX.1.2.2.1, hTX.1, hTY.1, h2.2.1, h2.2.2.1, show (0 : Int32).toNatClampNeg = 0 from rfl, show (1 : Int32).toNatClampNeg = 1 from rfl, show (2 : Int32).toNatClampNeg = 2 from rfl]
    rw [Nat.zero_add] at e0 e1 e2
    rw [e0, e1, e2]
  have ex : ∃ r', fX11_count a M = some (r', M) := by
    unfold fX11_count fX11_count_0
    repeat' split
    all_goals exact ⟨_, rfl⟩
  obtain ⟨r', hr'⟩ := ex
  exact ⟨r', M, M, key.trans hr', hr', hM⟩
theorem st_strength (a b : Int32) : ea_st Inv (fX10_strength a b) (fX11_strength a b) := by
  intro M hM
  obtain ⟨c, n, v, th, o, w, len, q, l, t, r, h1, h2, h3, h4⟩ := id hM
  obtain ⟨hc, hr, -, ho, hX, hY, -⟩ := id h1
  have h5 := ho.2.2.2.2.1
  unfold fX10_strength fX10_strength_0 fX11_strength fX11_strength_0
  rw [hr, ea_ck_t (pn_is hc), hX.1.2.2.2.2.1, ea_ci_t (px_in ..), show (999999 : Int32) = nI 1000000 - 1 from rfl]
  rcases pb_01 a 0 (nI (n 4) - 1) with hb | hb
  · refine ⟨-2, M, M, ?_, ?_, hM⟩
    · rw [hb, if_pos rfl]
    · rw [ea_ci_t (gy_stuff h1 a), hb, if_pos rfl]
  · obtain ⟨f, hf, rfl⟩ := pb_nat0 (by omega) hb
    rw [hb, if_neg (by decide), ea_ci_t (px_in ..)]
    rcases pb_01 b 0 (nI 1000000 - 1) with hb2 | hb2
    · refine ⟨-2, M, M, ?_, ?_, hM⟩
      · rw [hb2, if_pos rfl]
      · rw [ea_ci_t (gy_stuff h1 _), hb, if_neg (by decide), ea_ci_t (gy_hrs _), hb2, if_pos rfl]
    · obtain ⟨h, hh, rfl⟩ := pb_nat0 (by decide) hb2
      refine ⟨nI (sp_str v f h), M, M, ?_, ?_, hM⟩
      · rw [hb2, if_neg (by decide), hr, ea_ck_t (pn_is hc), ea_ci_t (px_strength hc hX ho hf (by omega))]
      · rw [ea_ci_t (gy_stuff h1 _), hb, if_neg (by decide), ea_ci_t (gy_hrs _), hb2, if_neg (by decide), ea_ci_t (py_strength hY ho hf (by omega))]
theorem st_hours (a b d e : Int32) : ea_st Inv (fX10_hours a b d e) (fX11_hours a b d e) := by
  intro M hM
  obtain ⟨c, n, v, th, o, w, len, q, l, t, r, h1, h2, h3, h4⟩ := id hM
  obtain ⟨hc, hr, -, ho, hX, hY, -⟩ := id h1
  have b0 := ho.1
  have b5 := ho.2.2.2.2.2.1
  have no : fX10_hours_51 a b d e M = some (-2, M) := rfl
  unfold fX10_hours fX10_hours_0 fX11_hours fX11_hours_0
  rw [ea_ci_t (gx_story h1 a), hr, ea_ck_t (pn_is hc), hX.1.1, show (999 : Int32) = nI 1000 - 1 from rfl, show (0 : Int32).toNatClampNeg = 0 from rfl, ea_ci_t (px_in ..), ea_ci_t (px_in ..), ea_ci_t (gx_side e)]
  rcases pb_01 a 0 (nI (n 5) - 1) with hb | hb
  · exact ⟨-2, M, M, by rw [hb, if_pos rfl, no], by rw [ea_ci_t (gy_story h1 a), hb, if_pos rfl], hM⟩
  rcases pb_01 b 0 (nI (n 0) - 1) with hb2 | hb2
  · exact ⟨-2, M, M, by rw [hb, if_neg (by decide), hb2, if_pos rfl, no], by rw [ea_ci_t (gy_story h1 a), hb, if_neg (by decide), hY.1.1, ea_ci_t (py_in ..), hb2, if_pos rfl], hM⟩
  rcases pb_01 d 0 (nI 1000 - 1) with hb3 | hb3
  · exact ⟨-2, M, M, by rw [hb, if_neg (by decide), hb2, if_neg (by decide), hb3, if_pos rfl, no], by rw [ea_ci_t (gy_story h1 a), hb, if_neg (by decide), hY.1.1, ea_ci_t (py_in ..), hb2, if_neg (by decide), ea_ci_t (py_in ..), hb3, if_pos rfl], hM⟩
  rcases pb_01 e 0 (nI 2 - 1) with hb4 | hb4
  · exact ⟨-2, M, M, by rw [hb, if_neg (by decide), hb2, if_neg (by decide), hb3, if_neg (by decide), hb4, if_pos rfl, no], by rw [ea_ci_t (gy_story h1 a), hb, if_neg (by decide), hY.1.1, ea_ci_t (py_in ..), hb2, if_neg (by decide), ea_ci_t (py_in ..), hb3, if_neg (by decide), ea_ci_t (py_in e 0 1 M), show (1 : Int32) = nI 2 - 1 from rfl, hb4, if_pos rfl], hM⟩
  obtain ⟨s, hs, rfl⟩ := pb_nat0 (by omega) hb
  obtain ⟨col, hcol, rfl⟩ := pb_nat0 (by omega) hb2
  obtain ⟨y, hy, rfl⟩ := pb_nat0 (by decide) hb3
  obtain ⟨sd, hsd, rfl⟩ := pb_nat0 (by decide) hb4
  refine ⟨nI (sp_hours n v s col y sd), M, M, ?_, ?_, hM⟩
  · rw [hb, if_neg (by decide), hb2, if_neg (by decide), hb3, if_neg (by decide), hb4, if_neg (by decide)]
    unfold fX10_hours_52
    rw [if_neg (by decide), hr, ea_ck_t (pn_is hc), ea_ci_t (px_hours hc hX ho hs hcol (by omega) (by omega))]
  · rw [ea_ci_t (gy_story h1 _), hb, if_neg (by decide), hY.1.1, ea_ci_t (py_in ..), hb2, if_neg (by decide), ea_ci_t (py_in ..), hb3, if_neg (by decide), ea_ci_t (py_in (nI sd) 0 1 M), show (1 : Int32) = nI 2 - 1 from rfl, hb4, if_neg (by decide), ea_ci_t (py_hours hY ho hs hcol (by omega) (by omega))]
theorem st_colour (a b d : Int32) : ea_st Inv (fX10_colour a b d) (fX11_colour a b d) := by
  intro M hM
  obtain ⟨c, n, v, th, o, w, len, q, l, t, r, h1, h2, h3, h4⟩ := id hM
  obtain ⟨hc, hr, -, ho, hX, hY, hTh, hTX, hTY⟩ := id h1
  have hk := hTh.1
  have hth := hk.1
  have no : fX10_colour_29 a b d M = some (-2, M) := rfl
  unfold fX10_colour fX10_colour_0 fX11_colour fX11_colour_0
  rw [ea_ci_t (gx_thread h1 a), show (999999 : Int32) = nI 1000000 - 1 from rfl, ea_ci_t (px_in ..), ea_ci_t (gx_colour d)]
  rcases pb_01 a 0 (nI th - 1) with hb | hb
  · exact ⟨-2, M, M, by rw [hb, if_pos rfl, no], by rw [ea_ci_t (gy_thread h1 a), hb, if_pos rfl], hM⟩
  rcases pb_01 b 0 (nI 1000000 - 1) with hb2 | hb2
  · exact ⟨-2, M, M, by rw [hb, if_neg (by decide), hb2, if_pos rfl, no], by rw [ea_ci_t (gy_thread h1 a), hb, if_neg (by decide), ea_ci_t (gy_hrs b), hb2, if_pos rfl], hM⟩
  rcases pb_01 d 0 (nI 3 - 1) with hb3 | hb3
  · exact ⟨-2, M, M, by rw [hb, if_neg (by decide), hb2, if_neg (by decide), hb3, if_pos rfl, no], by rw [ea_ci_t (gy_thread h1 a), hb, if_neg (by decide), ea_ci_t (gy_hrs b), hb2, if_neg (by decide), ea_ci_t (gy_colour d), hb3, if_pos rfl], hM⟩
  obtain ⟨x, hx, rfl⟩ := pb_nat0 (by omega) hb
  obtain ⟨h, hh, rfl⟩ := pb_nat0 (by decide) hb2
  obtain ⟨k, hk3, rfl⟩ := pb_nat0 (by decide) hb3
  refine ⟨nI (sp_col v o w x h k), M, M, ?_, ?_, hM⟩
  · rw [hb, if_neg (by decide), hb2, if_neg (by decide), hb3, if_neg (by decide)]
    unfold fX10_colour_30
    rw [if_neg (by decide), ea_ci_t (px_shade hr hc hX ho hTX hk hx (by omega) hk3)]
  · rw [ea_ci_t (gy_thread h1 _), hb, if_neg (by decide), ea_ci_t (gy_hrs _), hb2, if_neg (by decide), ea_ci_t (gy_colour _), hb3, if_neg (by decide), ea_ci_t (py_colour hY ho hTY hk hx (by omega) hk3)]
