def q3s (q : Nat → Nat) (step : Nat) : Nat → Nat := fun k => if k = 3 then step else q k
theorem q3_ok {q : Nat → Nat} {l t r : Nat → Nat → Nat} (h : pn_Lok q l t r) {step : Nat} (hs : step ≤ 999) : pn_Lok (q3s q step) l t r := ⟨h.1, h.2.1, h.2.2.1, hs, h.2.2.2.2⟩
theorem q3_X {M : eM} {q : Nat → Nat} {l t r : Nat → Nat → Nat} (h : pn_LX M 30 q l t r) (step : Nat) : pn_LX (ea_pI M 30 6 (nI step)) 30 (q3s q step) l t r := by
  have e : ∀ c k, c ≠ 30 ∨ k ≠ 6 → (ea_pI M 30 6 (nI step)).1 c k = M.1 c k := fun c k hk => ea_pI_ne hk
  refine ⟨⟨?_, ?_, ?_, ?_⟩, fun i k hi hk => ⟨?_, ?_⟩, fun i k hi hk => ?_, fun i hi => ⟨?_, ?_, fun k hk => ?_⟩⟩
  · rw [e _ _ (by omega)]; exact h.1.1
  · rw [e _ _ (by omega)]; exact h.1.2.1
  · rw [e _ _ (by omega)]; exact h.1.2.2.1
  · rw [ea_pI_eq]; rfl
  · rw [e _ _ (by omega)]; exact (h.2.1 i k hi hk).1
  · rw [e _ _ (by omega)]; exact (h.2.1 i k hi hk).2
  · rw [e _ _ (by omega)]; exact h.2.2.1 i k hi hk
  · rw [e _ _ (by omega)]; exact (h.2.2.2 i hi).1
  · rw [e _ _ (by omega)]; exact (h.2.2.2 i hi).2.1
  · rw [e _ _ (by omega)]; exact (h.2.2.2 i hi).2.2 k hk
theorem q3_Y {M : eM} {q : Nat → Nat} {l t r : Nat → Nat → Nat} (h : pn_LY M 0 q l t r) (step : Nat) : pn_LY (ea_pI M 114 3 (nI step)) 0 (q3s q step) l t r := by
  have e : ∀ c k, c ≠ 114 ∨ k ≠ 3 → (ea_pI M 114 3 (nI step)).1 c k = M.1 c k := fun c k hk => ea_pI_ne hk
  refine ⟨fun k hk => ?_, fun i k hi hk => ?_, fun i k hi hk => ?_, fun i k hi hk => ?_⟩
  · by_cases h3 : k = 3
    · subst h3
      rw [show 0 + 3 = 3 from rfl, ea_pI_eq]
      rfl
    · rw [e _ _ (by omega), h.1 k hk]
      show nI (q k) = nI (if k = 3 then step else q k)
      rw [if_neg h3]
  · rw [e _ _ (by omega)]; exact h.2.1 i k hi hk
  · rw [e _ _ (by omega)]; exact h.2.2.1 i k hi hk
  · rw [e _ _ (by omega)]; exact h.2.2.2 i k hi hk
theorem sz_world (x1 x2 x3 : Int32) : ea_st InvZ (fX10_world x1 x2 x3) (fX11_world x1 x2 x3) := by
  intro M hM
  obtain ⟨c, n, v, th, o, w, len, q, l, t, r, h1, h2, h3, h4⟩ := hM.1
  obtain ⟨hok, hLX, hLY, k1, k2, k3⟩ := id h3
  have ho := h1.2.2.2.1
  have h5 := ho.2.2.2.2.2.1
  have hn4 := ho.2.2.2.2.1
  have hcl : n 0 * n 1 ≤ 48 := Nat.mul_le_mul ho.1.2 ho.2.1.2
  have hq3 := hok.2.2.2.1
  have hq0 := hok.1
  have gx1 := gx_tell hLX x1
  have gy1 := gy_tell hLY x1
  have gx3 := gx_story h1 x3
  have gy3 := gy_story h1 x3
  rcases pb_01 x1 (nI (q 3)) (nI 1000 - 1) with b1 | b1
  · refine ⟨-2, M, M, ?_, ?_, hM⟩
    · unfold fX10_world fX10_world_0
      rw [gx1, b1, ev_ci, if_pos rfl]
    · unfold fX11_world fX11_world_0
      rw [gy1, b1, ev_ci, if_pos rfl]
  by_cases hx2 : x2 < 0
  · refine ⟨-2, M, M, ?_, ?_, hM⟩
    · unfold fX10_world fX10_world_0
      rw [gx1, b1, ev_ci, if_neg (by decide), if_pos hx2]
    · unfold fX11_world fX11_world_0
      rw [gy1, b1, ev_ci, if_neg (by decide), if_pos hx2]
  rcases pb_01 x3 0 (nI (n 5) - 1) with b3 | b3
  · refine ⟨-2, M, M, ?_, ?_, hM⟩
    · unfold fX10_world fX10_world_0
      rw [gx1, b1, ev_ci, if_neg (by decide), if_neg hx2, gx3, b3, ev_ci, if_pos rfl]
    · unfold fX11_world fX11_world_0
      rw [gy1, b1, ev_ci, if_neg (by decide), if_neg hx2, gy3, b3, ev_ci, if_pos rfl]
  obtain ⟨step, s1, s2, rfl⟩ := pb_nat (by omega) (by decide) b1
  obtain ⟨s, hs, rfl⟩ := nI_of hx2
  obtain ⟨st, hst, rfl⟩ := pb_nat0 (by omega) b3
  have okq := q3_ok hok (step := step) (by omega)
  have e64 : ((nI s).toInt64).toInt = (s : Int) := by rw [Int32.toInt_toInt64, nI_toInt hs]
  -- the class's start
  have fA : ∀ c k, ¬ (30 ≤ c ∧ c ≤ 33) → (ea_pI M 30 6 (nI step)).1 c k = M.1 c k := fun c k hk => by rw [ea_pI_ne (by omega)]
  have hCA : pn_C (ea_pI M 30 6 (nI step)) c n v th o w := h1.fr (FrC.ofX fA rfl)
  have hLA := q3_X hLX step
  have x8 : (ea_pI M 30 6 (nI step)).1 c 8 = nI (n 4) := hCA.2.2.2.2.1.1.2.2.2.2.1
  have x30 : (ea_pI M 30 6 (nI step)).1 30 3 = nI (q 0) := by rw [ea_pI_ne (by omega)]; exact hLX.1.1
  have xr : (ea_pI M 30 6 (nI step)).2.2 4 0 = c := h1.2.1
  have hX : fX10_world (nI step) (nI s) (nI st) M = if nI (n 4) ≤ 0 then fX10_world_149 (nI (q 0)) (ea_pI M 30 6 (nI step)) else fX10_world_65 fX10_world_149 ea_N (nI step) (nI st) (nI (q 0)) 0 (ea_pL (ea_pI M 30 6 (nI step)) 78 0 (nI s).toInt64) := by
    unfold fX10_world fX10_world_0
    rw [gx1, b1, ev_ci, if_neg (by decide), if_neg hx2, gx3, b3, ev_ci, if_neg (by decide), x30, ev_lt_, xr, ea_ck_t (pn_is h1.1), x8]
  have hY : ∀ M1, pn_C M1 c n v th o w → pn_LY M1 0 q l t r → fX11_world (nI step) (nI s) (nI st) M1 = fX11_world_42 ea_N (nI step) (nI st) 0 0 (ea_pI (ea_pL M1 100 47 (nI s).toInt64) 114 3 (nI step)) := by
    intro M1 c1 l1
    unfold fX11_world fX11_world_0
    rw [gy_tell l1, b1, ev_ci, if_neg (by decide), if_neg hx2, gy_story c1, b3, ev_ci, if_neg (by decide)]
    rfl
  -- the model's start
  have startY : ∀ M1, pn_C M1 c n v th o w → pn_LY M1 0 q l t r → pn_C (ea_pI (ea_pL M1 100 47 (nI s).toInt64) 114 3 (nI step)) c n v th o w ∧ pn_LY (ea_pI (ea_pL M1 100 47 (nI s).toInt64) 114 3 (nI step)) 0 (q3s q step) l t r ∧ FrT M1 (ea_pI (ea_pL M1 100 47 (nI s).toInt64) 114 3 (nI step)) ∧ (∀ c k, c ≠ 114 → (ea_pI (ea_pL M1 100 47 (nI s).toInt64) 114 3 (nI step)).1 c k = M1.1 c k) ∧ ((ea_pI (ea_pL M1 100 47 (nI s).toInt64) 114 3 (nI step)).2.1 100 47).toInt = (s : Int) := by
    intro M1 c1 l1
    have fT : FrT M1 (ea_pI (ea_pL M1 100 47 (nI s).toInt64) 114 3 (nI step)) := ⟨fun a k _ hb => by
      rw [ea_pI_ne (by
        by_cases e : a = 114
        · exact Or.inr (fun e2 => hb ⟨e, by omega⟩)
        · exact Or.inl e)]
      rfl, rfl⟩
    refine ⟨c1.fr fT.C, q3_Y (l1.fr hok (fun _ _ _ => rfl)) step, fT, fun a k ha => by rw [ea_pI_ne (Or.inl ha)]; rfl, ?_⟩
    have : (ea_pI (ea_pL M1 100 47 (nI s).toInt64) 114 3 (nI step)).2.1 100 47 = (ea_pL M1 100 47 (nI s).toInt64).2.1 100 47 := rfl
    rw [this, ev_pL]
    exact e64
  have zf : ∀ M2, FrT M M2 → pn_Z M2 := fun M2 f k hk => ⟨(f.1 52 _ (by omega) (by omega)).trans (hM.2 k hk).1, (f.1 62 _ (by omega) (by omega)).trans (hM.2 k hk).2⟩
  rcases Nat.eq_zero_or_pos (n 4) with h40 | h40
  · -- no STUFF: the STEP alone
    have hCA' := hCA
    obtain ⟨cY, lY, fY, gY, sY⟩ := startY (ea_pI M 30 6 (nI step)) hCA (hLY.fr hok (fun k _ _ => fA _ _ (by omega)))
    have fAll : FrT M (ea_pI (ea_pL (ea_pI M 30 6 (nI step)) 100 47 (nI s).toInt64) 114 3 (nI step)) := FrT.trans (FrT.rf.pI (by omega)) fY
    refine ⟨0, ea_pI M 30 6 (nI step), ea_pI (ea_pL (ea_pI M 30 6 (nI step)) 100 47 (nI s).toInt64) 114 3 (nI step), ?_, ?_, ?_, zf _ fAll⟩
    · rw [hX, if_pos (by rw [h40]; decide)]
      unfold fX10_world_149
      rw [x30, Int32.sub_self]
    · rw [hY _ hCA (hLY.fr hok (fun k _ _ => fA _ _ (by omega)))]
      have y4 : (ea_pI (ea_pL (ea_pI M 30 6 (nI step)) 100 47 (nI s).toInt64) 114 3 (nI step)).1 102 4 = nI (n 4) := cY.2.2.2.2.2.1.1.2.2.2.2.1
      have hpos : 1 ≤ n 0 * n 1 := Nat.mul_le_mul ho.1.1 ho.2.1.1
      generalize ea_pI (ea_pL (ea_pI M 30 6 (nI step)) 100 47 (nI s).toInt64) 114 3 (nI step) = M2 at cY y4
      show fX11_world_42 (99999 + 1) (nI step) (nI st) 0 0 M2 = _
      rw [fX11_world_42, gy_cells cY, ev_ci, if_neg (by rw [pn_le0 (by omega)]; omega), show (4 : Int32).toNatClampNeg = 4 from rfl, y4, if_pos (by rw [h40]; decide)]
    · exact Inv_tell fAll h1 h2 h4 ⟨okq, hLA.fr (fun d k hd => gY _ _ (by omega)), lY, k1, k2, k3⟩
  · obtain ⟨q', l', i1, i2, i3, i4, i5, iX, iY⟩ := world_both (t := t) (r := r) ho h1.2.2.2.2.2.2.1 h40 hst (show step ≤ 999 by omega) (n 0 * n 1) ea_N 0 (q3s q step) l s (by omega) (by omega) (by unfold ea_N; omega) okq k1 hs
    have hq'0 := i1.1
    obtain ⟨M1, w1, w2, w3, w4⟩ := iX (ea_pL (ea_pI M 30 6 (nI step)) 78 0 (nI s).toInt64) c (nI (q 0)) (hCA.same rfl rfl) (hLA.same rfl) (by rw [ev_pL]; exact e64)
    have f1 : ∀ c k, ¬ (30 ≤ c ∧ c ≤ 33) → M1.1 c k = M.1 c k := fun c k hk => by rw [w3 c k hk]; exact fA c k hk
    have hC1 : pn_C M1 c n v th o w := h1.fr (FrC.ofX f1 w4)
    have hL1 : pn_LY M1 0 q l t r := hLY.fr hok (fun k _ _ => f1 _ _ (by omega))
    obtain ⟨cY, lY, fY, gY, sY⟩ := startY M1 hC1 hL1
    obtain ⟨M2, u1, u2, u3, u4⟩ := iY _ c 0 cY lY sY
    have fX : FrT M M1 := ⟨fun c k hk _ => f1 c k hk, w4⟩
    have fAll := (fX.trans fY).trans u3
    have hres : nI (q' 0) - nI (q 0) = nI (0 + (q' 0 - q3s q step 0)) := by
      have : q 0 ≤ q' 0 := i2
      rw [ev_sub this, Nat.zero_add]
      rfl
    refine ⟨nI (q' 0) - nI (q 0), M1, M2, ?_, ?_, ?_, zf _ fAll⟩
    · rw [hX, if_neg (by rw [pn_le0 (by omega)]; omega)]
      exact w1
    · rw [hY M1 hC1 hL1, hres]
      exact u1
    · refine Inv_tell fAll h1 h2 h4 ⟨i1, w2.fr (fun d k hd => by rw [u4 _ _ (by omega), gY _ _ (by omega)]), u2, i5, fun i hi => k2 i (by rw [i3] at hi; exact hi), fun i hi => ?_⟩
      have hi : i < q' 2 := hi
      rw [i4] at hi
      rw [i3]
      exact k3 i hi
