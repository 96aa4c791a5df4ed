/-- frames by parts: the CLOTH's cells; the TAPE's and the FAULT's; a TELLING's -/
def isKCc (c : Nat) : Bool := [5, 6, 10, 11, 12, 13, 14, 15, 16, 17, 18, 19, 20, 21, 22, 23, 24, 25, 26, 27, 28, 29, 102, 106, 107, 108, 109, 110, 111, 112, 113].contains c
def isKC (c k : Nat) : Bool := isKCc c || ((c == 4 && k == 1) || (c == 100 && k == 20) || (c == 100 && k == 22))
def FrC (M M' : eM) : Prop := (∀ c k, isKC c k = true → M'.1 c k = M.1 c k) ∧ M'.2.2 = M.2.2
theorem isCC {c : Nat} (h : isKCc c = true) (k : Nat) : isKC c k = true := by unfold isKC; rw [h]; rfl
theorem pn_X.fr {M M' : eM} {c : Nat} {n : Nat → Nat} {v : Nat → Nat → Nat} (hs : FrC M M') (hc : pn_c c) (h : pn_X M c n v) : pn_X M' c n v := by
  have key : ∀ a k, isKCc (c + a) = true → M'.1 (c + a) k = M.1 (c + a) k := fun a k ha => hs.1 _ _ (isCC ha k)
  have e0 : isKCc (c + 0) = true := by rcases hc with rfl | rfl <;> rfl
  have e1 : isKCc (c + 1) = true := by rcases hc with rfl | rfl <;> rfl
  have e2 : isKCc (c + 2) = true := by rcases hc with rfl | rfl <;> rfl
  have e4 : isKCc (c + 4) = true := by rcases hc with rfl | rfl <;> rfl
  have e6 : isKCc (c + 6) = true := by rcases hc with rfl | rfl <;> rfl
  have e7 : isKCc (c + 7) = true := by rcases hc with rfl | rfl <;> rfl
  have e9 : isKCc (c + 9) = true := by rcases hc with rfl | rfl <;> rfl
  have k0 : ∀ k, M'.1 c k = M.1 c k := fun k => key 0 k e0
  unfold pn_X at h ⊢
  simp only [k0, key _ _ e1, key _ _ e2, key _ _ e4, key _ _ e6, key _ _ e7, key _ _ e9]
  exact h
theorem pn_Y.fr {M M' : eM} {n : Nat → Nat} {v : Nat → Nat → Nat} (hs : FrC M M') (h : pn_Y M n v) : pn_Y M' n v := by
  have k2 : ∀ k, M'.1 102 k = M.1 102 k := fun k => hs.1 _ _ (isCC rfl k)
  have k6 : ∀ k, M'.1 106 k = M.1 106 k := fun k => hs.1 _ _ (isCC rfl k)
  have k7 : ∀ k, M'.1 107 k = M.1 107 k := fun k => hs.1 _ _ (isCC rfl k)
  have k8 : ∀ k, M'.1 108 k = M.1 108 k := fun k => hs.1 _ _ (isCC rfl k)
  have k9 : ∀ k, M'.1 109 k = M.1 109 k := fun k => hs.1 _ _ (isCC rfl k)
  have kc : M'.1 100 20 = M.1 100 20 := hs.1 _ _ rfl
  unfold pn_Y at h ⊢
  simp only [k2, k6, k7, k8, k9, kc]
  exact h
theorem pn_TX.fr {M M' : eM} {th : Nat} {o w : Nat → Nat} (hs : FrC M M') (h : pn_TX M th o w) : pn_TX M' th o w := by
  have k5 : ∀ k, M'.1 5 k = M.1 5 k := fun k => hs.1 _ _ (isCC rfl k)
  have k6 : ∀ k, M'.1 6 k = M.1 6 k := fun k => hs.1 _ _ (isCC rfl k)
  have kc : M'.1 4 1 = M.1 4 1 := hs.1 _ _ rfl
  unfold pn_TX at h ⊢
  simp only [k5, k6, kc]
  exact h
theorem pn_TY.fr {M M' : eM} {th : Nat} {o w : Nat → Nat} (hs : FrC M M') (h : pn_TY M th o w) : pn_TY M' th o w := by
  have k0 : ∀ k, M'.1 110 k = M.1 110 k := fun k => hs.1 _ _ (isCC rfl k)
  have k1 : ∀ k, M'.1 111 k = M.1 111 k := fun k => hs.1 _ _ (isCC rfl k)
  have k2 : ∀ k, M'.1 112 k = M.1 112 k := fun k => hs.1 _ _ (isCC rfl k)
  have k3 : ∀ k, M'.1 113 k = M.1 113 k := fun k => hs.1 _ _ (isCC rfl k)
  have kc : M'.1 100 22 = M.1 100 22 := hs.1 _ _ rfl
  unfold pn_TY at h ⊢
  simp only [k0, k1, k2, k3, kc]
  exact h
theorem pn_C.fr {M M' : eM} {c : Nat} {n : Nat → Nat} {v : Nat → Nat → Nat} {th : Nat} {o w : Nat → Nat} (hs : FrC M M') (h : pn_C M c n v th o w) : pn_C M' c n v th o w := by
  obtain ⟨h1, h2, h3, h4, h5, h6, h7, h8, h9⟩ := h
  exact ⟨h1, by rw [hs.2]; exact h2, by rw [hs.2]; exact h3, h4, h5.fr hs h1, h6.fr hs, h7, h8.fr hs, h9.fr hs⟩
theorem pn_P.fr {M M' : eM} {len : Nat} (k2 : ∀ k, M'.1 2 k = M.1 2 k) (k1 : ∀ k, M'.1 101 k = M.1 101 k) (a1 : M'.1 1 1 = M.1 1 1) (a2 : M'.1 100 1 = M.1 100 1) (a3 : M'.1 3 0 = M.1 3 0) (a4 : M'.1 3 1 = M.1 3 1) (a5 : M'.1 100 8 = M.1 100 8) (a6 : M'.1 100 9 = M.1 100 9) (h : pn_P M len) : pn_P M' len := by
  unfold pn_P at h ⊢
  simp only [k1, k2, a1, a2, a3, a4, a5, a6]
  exact h
theorem pn_LX.fr {M M' : eM} {a : Nat} {q : Nat → Nat} {l t r : Nat → Nat → Nat} (hs : ∀ d k, d < 4 → M'.1 (a + d) k = M.1 (a + d) k) (h : pn_LX M a q l t r) : pn_LX M' a q l t r := by
  have k0 : ∀ k, M'.1 a k = M.1 a k := fun k => hs 0 k (by decide)
  unfold pn_LX at h ⊢
  simp only [k0, hs 1 _ (by decide), hs 2 _ (by decide), hs 3 _ (by decide)]
  exact h
theorem pn_LY.fr {M M' : eM} {b : Nat} {q : Nat → Nat} {l t r : Nat → Nat → Nat} (hok : pn_Lok q l t r) (hs : ∀ k, b ≤ k → k < b + 854 → M'.1 114 k = M.1 114 k) (h : pn_LY M b q l t r) : pn_LY M' b q l t r := by
  obtain ⟨h1, h2, h3, h4⟩ := h
  obtain ⟨o1, o2, o3, -⟩ := hok
  exact ⟨fun k hk => by rw [hs _ (by omega) (by omega)]; exact h1 k hk, fun i k hi hk => by rw [hs _ (by omega) (by omega)]; exact h2 i k hi hk, fun i k hi hk => by rw [hs _ (by omega) (by omega)]; exact h3 i k hi hk, fun i k hi hk => by rw [hs _ (by omega) (by omega)]; exact h4 i k hi hk⟩
theorem pn_S.fr {M M' : eM} {n : Nat → Nat} {j : Nat} (h0 : ∀ d k, d < 4 → M'.1 (34 + 4 * j + d) k = M.1 (34 + 4 * j + d) k) (h1 : M'.1 115 j = M.1 115 j) (h2 : ∀ k, 854 * (j + 1) ≤ k → k < 854 * (j + 1) + 854 → M'.1 114 k = M.1 114 k) (h : pn_S M n j) : pn_S M' n j := by
  have k0 : M'.1 (34 + 4 * j) 7 = M.1 (34 + 4 * j) 7 := h0 0 7 (by decide)
  unfold pn_S at h ⊢
  rw [k0, h1]
  rcases h with h | ⟨g1, g2, q, l, t, r, g3, g4, g5, g6⟩
  · exact Or.inl h
  · exact Or.inr ⟨g1, g2, q, l, t, r, g3, g4.fr h0, g5.fr g3 h2, g6⟩
theorem ea_pI_ne {M : eM} {c k a j : Nat} {x : Int32} (h : a ≠ c ∨ j ≠ k) : (ea_pI M c k x).1 a j = M.1 a j := by
  show (if a = c then upd (M.1 c) k x else M.1 a) j = _
  by_cases e : a = c
  · subst e
    rw [if_pos rfl]
    unfold upd
    rcases h with h | h
    · exact absurd rfl h
    · rw [if_neg h]
  · rw [if_neg e]
theorem ea_pI_eq {M : eM} {c k : Nat} {x : Int32} : (ea_pI M c k x).1 c k = x := by
  show (if c = c then upd (M.1 c) k x else M.1 c) k = _
  rw [if_pos rfl]
  unfold upd
  rw [if_pos rfl]
theorem ea_pI_r {M : eM} {c k : Nat} {x : Int32} : (ea_pI M c k x).2.2 = M.2.2 := rfl
theorem FrC.rf {M : eM} : FrC M M := ⟨fun _ _ _ => rfl, rfl⟩
theorem FrC.pI {M M1 : eM} (h : FrC M M1) {c k : Nat} {x : Int32} (hi : isKC c k = false) : FrC M (ea_pI M1 c k x) := by
  refine ⟨fun a j ha => ?_, h.2⟩
  rw [ea_pI_ne (by
    by_cases e : a = c
    · subst e
      refine Or.inr (fun e2 => ?_)
      subst e2
      rw [hi] at ha
      cases ha
    · exact Or.inl e)]
  exact h.1 a j ha
theorem st_end (a : Int32) : ea_st Inv (fX10_end a) (fX11_end a) := by
  intro M hM
  obtain ⟨c, n, v, th, o, w, len, q, l, t, r, h1, h2, h3, h4⟩ := id hM
  obtain ⟨p1, p2, p3, p4, p5, p6⟩ := id h2
  unfold fX10_end fX10_end_0 fX11_end fX11_end_0
  rw [p2]
  by_cases ha : a < 0
  · rw [if_pos ha]
    exact ⟨_, M, M, rfl, by rw [if_pos ha], hM⟩
  · rw [if_neg ha]
    by_cases hb : a ≤ nI len
    · rw [if_pos hb]
      obtain ⟨f, hf, rfl⟩ := nI_of ha
      have hfl : f ≤ len := (nI_leI hf (by omega)).mp hb
      refine ⟨_, _, ea_pI (ea_pI M 1 1 (nI f)) 100 1 (nI f), rfl, ?_, ?_⟩
      · rw [if_neg ha, ea_pI_ne (by decide), p3, if_pos hb]
      · have e : ∀ c k, (c ≠ 1 ∨ k ≠ 1) → (c ≠ 100 ∨ k ≠ 1) → (ea_pI (ea_pI M 1 1 (nI f)) 100 1 (nI f)).1 c k = M.1 c k := fun c k e1 e2 => by rw [ea_pI_ne e2, ea_pI_ne e1]
        refine ⟨c, n, v, th, o, w, f, q, l, t, r, h1.fr ((FrC.rf.pI rfl).pI rfl), ?_, ?_, fun j hj => (h4 j hj).fr ?_ ?_ ?_⟩
        · refine ⟨by omega, by rw [ea_pI_ne (by decide), ea_pI_eq], ea_pI_eq, fun k hk => ?_, ?_, ?_⟩
          · rw [e 2 k (Or.inl (by decide)) (Or.inl (by decide)), e 101 k (Or.inl (by decide)) (Or.inl (by decide))]
            exact p4 k (by omega)
          · rw [e 3 0 (by decide) (by decide), e 100 8 (by decide) (by decide)]; exact p5
          · rw [e 3 1 (by decide) (by decide), e 100 9 (by decide) (by decide)]; exact p6
        · exact ⟨h3.1, h3.2.1.fr (fun d k hd => e _ _ (Or.inl (by omega)) (Or.inl (by omega))), h3.2.2.1.fr h3.1 (fun k _ _ => e _ _ (Or.inl (by decide)) (Or.inl (by decide))), h3.2.2.2⟩
        · exact fun d k hd => e _ _ (Or.inl (by omega)) (Or.inl (by omega))
        · exact e _ _ (Or.inl (by decide)) (Or.inl (by decide))
        · exact fun k _ _ => e _ _ (Or.inl (by decide)) (Or.inl (by decide))
    · rw [if_neg hb]
      exact ⟨_, M, M, rfl, by rw [if_neg ha, p3, if_neg hb], hM⟩
theorem ea_same {fx fm : eM → Option (Int32 × eM)} (h : ∀ M, Inv M → ∃ r, fx M = some (r, M) ∧ fm M = some (r, M)) : ea_st Inv fx fm := fun M hM => by
  obtain ⟨r, h1, h2⟩ := h M hM
  exact ⟨r, M, M, h1, h2, hM⟩
/-- queries that leave scratch behind -/
theorem ea_quer {fx fm : eM → Option (Int32 × eM)} (sx : ∀ M res, fx M = some res → Scr M res.2) (sm : ∀ M res, fm M = some res → Scr M res.2) (h : ∀ M, Inv M → ∃ r M1, fx M = some (r, M1)) (h2 : ∀ M M1 r, Inv M → fx M = some (r, M1) → ∃ M2, fm M1 = some (r, M2)) : ea_st Inv fx fm := fun M hM => by
  obtain ⟨r, M1, e1⟩ := h M hM
  obtain ⟨M2, e2⟩ := h2 M M1 r hM e1
  exact ⟨r, M1, M2, e1, e2, (hM.scr (sx _ _ e1)).scr (sm _ _ e2)⟩
theorem gy_side {M : eM} (x : Int32) : fX11_in x 0 1 M = some (pb x 0 (nI 2 - 1), M) := py_in x 0 1 M
theorem st_shows (a b d e : Int32) : ea_st Inv (fX10_shows a b d e) (fX11_shows a b d e) := by
  refine ea_same (fun M hM => ?_)
  obtain ⟨c, n, v, th, o, w, len, q, l, t, r, h1, h2, h3, h4⟩ := id hM
  obtain ⟨hok, hLX, hLY, -⟩ := id h3
  have ho := h1.2.2.2.1
  have hcl : n 0 * n 1 ≤ 48 := Nat.mul_le_mul ho.1.2 ho.2.1.2
  unfold fX10_shows fX10_shows_0 fX11_shows fX11_shows_0
  rw [ea_ci_t (gx_cell h1 a), ea_ci_t (gx_side b), ea_ci_t (gx_step d), ea_ci_t (gx_colour e), ea_ci_t (gy_cell h1 a), ea_ci_t (gy_side b), ea_ci_t (gy_step d), ea_ci_t (gy_colour e)]
  rcases pb_01 a 0 (nI (n 0 * n 1) - 1) with hb | hb
  · exact ⟨-2, by rw [hb, if_pos rfl], by rw [hb, if_pos rfl]⟩
  rcases pb_01 b 0 (nI 2 - 1) with hb2 | hb2
  · exact ⟨-2, by rw [hb, if_neg (by decide), hb2, if_pos rfl], by rw [hb, if_neg (by decide), hb2, if_pos rfl]⟩
  rcases pb_01 d 0 (nI 1000 - 1) with hb3 | hb3
  · exact ⟨-2, by rw [hb, if_neg (by decide), hb2, if_neg (by decide), hb3, if_pos rfl], by rw [hb, if_neg (by decide), hb2, if_neg (by decide), hb3, if_pos rfl]⟩
  rcases pb_01 e 0 (nI 3 - 1) with hb4 | hb4
  · exact ⟨-2, by rw [hb, if_neg (by decide), hb2, if_neg (by decide), hb3, if_neg (by decide), hb4, if_pos rfl], by rw [hb, if_neg (by decide), hb2, if_neg (by decide), hb3, if_neg (by decide), hb4, if_pos rfl]⟩
  obtain ⟨cell, hcell, rfl⟩ := pb_nat0 (by omega) hb
  obtain ⟨sd, hsd, rfl⟩ := pb_nat0 (by decide) hb2
  obtain ⟨kn, hkn, rfl⟩ := pb_nat0 (by decide) hb3
  obtain ⟨k, hk, rfl⟩ := pb_nat0 (by decide) hb4
  generalize hz : lst (lkp l cell sd kn) (q 0) = z
  have hzl : ∀ i, z = some i → i < q 0 := fun i hi => (lst_lt (hz.trans hi)).1
  have hX := px_look (Or.inl rfl) hok hLX (cell := cell) (side := sd) (known := kn) (by omega) (by omega) (by omega)
  have hY := py_look hok hLY (cell := cell) (side := sd) (known := kn) (by omega) (by omega) (by omega)
  rw [hz] at hX hY
  refine ⟨sp_ls l z k, ?_, ?_⟩
  · rw [hb, if_neg (by decide), hb2, if_neg (by decide), hb3, if_neg (by decide), hb4, if_neg (by decide), ea_ci_t hX, ea_ci_t (px_shadeL (Or.inl rfl) hok hLX hzl hk)]
  · rw [hb, if_neg (by decide), hb2, if_neg (by decide), hb3, if_neg (by decide), hb4, if_neg (by decide), ea_ci_t hY]
    cases z with
    | none => rfl
    | some i =>
      have hi := hzl i rfl
      have hq := hok.1
      obtain ⟨-, -, -, b3, b6, -⟩ := hok.2.2.2.2.1 i hi
      have g6 : M.1 114 (4 + 7 * i + 6) = nI (l i 6) := by have := hLY.2.1 i 6 hi (by decide); rw [Nat.zero_add] at this; exact this
      have gk : M.1 114 (4 + 7 * i + (3 + k)) = nI (l i (3 + k)) := by have := hLY.2.1 i (3 + k) hi (by omega); rw [Nat.zero_add] at this; exact this
      have ll : ea_len 114 = 3416 := rfl
      show (if 0 ≤ nI (4 + 7 * i) then ea_ck (ea_ix (nI (4 + 7 * i) + 6) _) (if M.1 114 (nI (4 + 7 * i) + 6).toNatClampNeg = 1 then _ else ea_ck (ea_ix (nI (4 + 7 * i) + 3 + nI k) _) (some (M.1 114 (nI (4 + 7 * i) + 3 + nI k).toNatClampNeg, M))) else _) = some (if l i 6 = 1 then -5 else nI (l i (3 + k)), M)
      have i6 : nI (4 + 7 * i) + 6 = nI (4 + 7 * i + 6) := nI_add _ 6
      have ik : nI (4 + 7 * i) + 3 + nI k = nI (4 + 7 * i + (3 + k)) := by rw [show (3 : Int32) = nI 3 from rfl, nI_add, nI_add, Nat.add_assoc]
      rw [if_pos (nI_pos' (by omega)), i6, ik, ll, ea_ck_t (pn_ix (by omega) (by decide)), nI_clamp (by omega), nI_clamp (by omega), g6, gk]
      have e1 : (nI (l i 6) = 1) ↔ l i 6 = 1 := nI_eq (b := 1) (by omega) (by decide)
      by_cases hg : l i 6 = 1
      · rw [if_pos (e1.mpr hg), if_pos hg]
      · rw [if_neg (fun q => hg (e1.mp q)), if_neg hg, ea_ck_t (pn_ix (by omega) (by decide))]
