theorem sz_next (x1 x2 : Int32) : ea_st InvZ (fX10_next x1 x2) (fX11_next x1 x2) := by
  refine ea_qz (fun M c n v th o w q l t r hC => ?_)
  have ho := hC.1.2.2.2.1
  have hn0 := ho.1
  have h5 := ho.2.2.2.2.2.1
  have h7 := ho.2.2.2.2.2.2.2.1
  have hth := hC.1.2.2.2.2.2.2.1.1.1
  have hcl : n 0 * n 1 ≤ 48 := Nat.mul_le_mul ho.1.2 ho.2.1.2
  have hcc := hC.1.1
  have gx1 := gx_story hC.1 x1
  have gx2 : fX10_isWithin x2 1 999 M = some (pb x2 (nI 1) (nI 1000 - 1), M) := px_in x2 1 999 M
  rcases pb_01 x1 0 (nI (n 5) - 1) with b1 | b1
  · refine ⟨-2, ⟨M, by unfold fX10_next fX10_next_0; rw [gx1, b1, ev_ci, if_pos rfl], Kp.rf M⟩, fun M1 h1 => ⟨M1, ?_, Kp.rf M1⟩⟩
    have gy1 := gy_story h1.1 x1
    unfold fX11_next fX11_next_0
    rw [gy1, b1, ev_ci, if_pos rfl]
  rcases pb_01 x2 (nI 1) (nI 1000 - 1) with b2 | b2
  · refine ⟨-2, ⟨M, by unfold fX10_next fX10_next_0; rw [gx1, b1, ev_ci, if_neg (by decide), gx2, b2, ev_ci, if_pos rfl], Kp.rf M⟩, fun M1 h1 => ⟨M1, ?_, Kp.rf M1⟩⟩
    have gy1 := gy_story h1.1 x1
    have gy2 : fX11_in x2 1 999 M1 = some (pb x2 (nI 1) (nI 1000 - 1), M1) := py_in x2 1 999 M1
    unfold fX11_next fX11_next_0
    rw [gy1, b1, ev_ci, if_neg (by decide), gy2, b2, ev_ci, if_pos rfl]
  obtain ⟨s, hs, rfl⟩ := pb_nat0 (by omega) b1
  obtain ⟨hr, hr1, hr2, rfl⟩ := pb_nat (by decide) (by decide) b2
  -- the most alike of each CELL
  have exR : ∀ cell : Nat, ∃ m : Nat, cell < 48 → MXT (fun z => Tot n v o w th (gk n v o w q l t r s 999 cell) s (cell % n 0) hr z (n 7 + 1)) m ∧ m ≤ 3420 := by
    intro cell
    by_cases hcell : cell < 48
    · obtain ⟨M1, e1, f1, r1⟩ := px_find (a := 50) (known := 999) (Or.inl rfl) hC hcell (by decide) hs
      obtain ⟨m, M2, -, k2, k3, -⟩ := px_mostAlike (hC.kp (r1.kp (Or.inl rfl))) (g := gk n v o w q l t r s 999 cell) f1.1 hcell hs (hr := hr) (by omega)
      exact ⟨m, fun _ => ⟨k2, k3⟩⟩
    · exact ⟨0, fun h => absurd h hcell⟩
  obtain ⟨R, hR⟩ := Classical.axiomOfChoice exR
  have hRb : ∀ k, k < 48 → R k ≤ 3420 := fun k hk => (hR k hk).2
  have hPb : ∀ k, (fun k => (LL n v th o w q l t r s 999 k).length) k ≤ 3420 := fun k => LL_len hC
  have hcP : ∀ k, (fun k => ct (gk n v o w q l t r s 999 k) th) k ≤ (fun k => (LL n v th o w q l t r s 999 k).length) k := fun k => ct_len (show n 7 + 1 ≤ 4 by omega) (fun x p hp => gk_f hp) th
  have hctb : ∀ k, ct (gk n v o w q l t r s 999 k) th ≤ th := fun k => cnt_le _ _
  have hsame : ∀ j k, sgs q l t r j 999 = [] → sgs q l t r k 999 = [] → j % n 0 = k % n 0 → gk n v o w q l t r s 999 j = gk n v o w q l t r s 999 k := fun j k h1 h2 h3 => by unfold gk; rw [h1, h2, h3]
  -- what class and model need of a CELL
  have clsX : ∀ M1 k, Ctx M1 c n v th o w q l t r → k < 48 → ∃ M2, fX3_find 50 (nI k) (nI s) 999 M1 = some M2 ∧ M2.1 50 8 = nI (ct (gk n v o w q l t r s 999 k) th) ∧ M2.1 50 6 = nI (LL n v th o w q l t r s 999 k).length ∧ Kp M1 M2 ∧ ∃ M3, fX4_mostAlike 50 (nI k) (nI s) (nI hr) M2 = some (nI (R k), M3) ∧ M3.1 50 6 = nI (LL n v th o w q l t r s 999 k).length ∧ Kp M2 M3 := by
    intro M1 k h1 hk
    obtain ⟨M2, e1, f1, r1⟩ := px_find (a := 50) (known := 999) (Or.inl rfl) h1 hk (by decide) hs
    obtain ⟨m, M3, k1, k2, k3, k4⟩ := px_mostAlike (h1.kp (r1.kp (Or.inl rfl))) (g := gk n v o w q l t r s 999 k) f1.1 hk hs (hr := hr) (by omega)
    have em : m = R k := k2.uq (hR k hk).1 (fun _ => rfl)
    rw [em] at k1
    have f6 : M2.1 50 6 = nI (LL n v th o w q l t r s 999 k).length := f1.2.1
    exact ⟨M2, e1, f1.2.2.2.1, f6, r1.kp (Or.inl rfl), M3, k1, by rw [k4.1 _ _ (by omega) (by omega) (by omega)]; exact f6, k4.kp⟩
  have clsY : ∀ M1 k, Ctx M1 c n v th o w q l t r → k < 48 → ∃ M2, fX11_findFits (nI k) (nI s) 999 M1 = some M2 ∧ M2.1 100 34 = nI (ct (gk n v o w q l t r s 999 k) th) ∧ M2.1 102 0 = nI (n 0) ∧ Kp M1 M2 ∧ ∃ M3, fX11_mostAlike (nI s) (nI (k % n 0)) (nI hr) M2 = some (nI (R k), M3) ∧ M3.1 100 33 = nI (LL n v th o w q l t r s 999 k).length ∧ Kp M2 M3 := by
    intro M1 k h1 hk
    obtain ⟨M2, e1, f1, g1, r1⟩ := py_findFits (known := 999) h1 hk (by decide) hs
    have f1 : FL M2 v (LL n v th o w q l t r s 999 k) := f1
    obtain ⟨m, M3, k1, k2, k3, k4⟩ := py_mostAlike (h1.kp r1.kp) f1 (fun e he => LL_mem he) (LL_len h1) (Nat.mod_lt k (by omega)) hs (hr := hr) (by omega)
    have em : m = R k := k2.uq (hR k hk).1 (fun z => by
      show lcn _ z (pl (gk n v o w q l t r s 999 k) (n 7 + 1) th) = Tot n v o w th (gk n v o w q l t r s 999 k) s (k % n 0) hr z (n 7 + 1)
      rw [lcn_pl, Tot_sum, ← sumN_swap])
    rw [em] at k1
    exact ⟨M2, e1, g1, (h1.kp r1.kp).1.2.2.2.2.2.1.1.1, r1.kp, M3, k1, by rw [k4.1 _ _ (by omega) (by omega)]; exact f1.1, k4.kp⟩
  have hRsame : ∀ j k, j < 48 → k < 48 → gk n v o w q l t r s 999 j = gk n v o w q l t r s 999 k → j % n 0 = k % n 0 → R j = R k := fun j k h1 h2 h3 h4 => (hR j h1).1.uq (hR k h2).1 (fun z => by
    show Tot n v o w th (gk n v o w q l t r s 999 j) s (j % n 0) hr z (n 7 + 1) = Tot n v o w th (gk n v o w q l t r s 999 k) s (k % n 0) hr z (n 7 + 1)
    rw [h3, h4])
  have hPsame : ∀ j k, gk n v o w q l t r s 999 j = gk n v o w q l t r s 999 k → (LL n v th o w q l t r s 999 j).length = (LL n v th o w q l t r s 999 k).length := fun j k h => by unfold LL; rw [h]
  have hCsame : ∀ j k, gk n v o w q l t r s 999 j = gk n v o w q l t r s 999 k → ct (gk n v o w q l t r s 999 j) th = ct (gk n v o w q l t r s 999 k) th := fun j k h => by rw [h]
  generalize hPe : (fun k => (LL n v th o w q l t r s 999 k).length) = P at hPb hcP
  generalize hce : (fun k => ct (gk n v o w q l t r s 999 k) th) = ctf at hcP
  have eP : ∀ k, (LL n v th o w q l t r s 999 k).length = P k := fun k => by rw [← hPe]
  have eC : ∀ k, ct (gk n v o w q l t r s 999 k) th = ctf k := fun k => by rw [← hce]
  simp only [eP, eC] at clsX clsY hPsame hCsame hctb
  have fok := fun k hk => nfd_ok (go := goF l q) hPb hRb hcP (N := 48) (Nat.le_refl _) k hk
  refine ⟨nb1 (nfd (goF l q) ctf P R (n 0 * n 1)), ?_, fun M3 h3 => ?_⟩
  · have gcs := fun M1 (h1 : Ctx M1 c n v th o w q l t r) => gx_cells h1.1
    generalize hN : n 0 * n 1 = N at hcl gcs
    have lp : ∀ (d f k : Nat) (M1 : eM) (bs : Nat → Bool), N - k = d → k ≤ N → d < f → Kp M M1 → (∀ col, col < 8 → bs col = true → ∃ j, j < k ∧ j % n 0 = col ∧ sgs q l t r j 999 = [] ∧ goF l q j = false) → ∃ M2, fX10_next_36 f (nI s) (nI hr) (nb1 (nfd (goF l q) ctf P R k)) (nb2 (nfd (goF l q) ctf P R k)) (nb3 (nfd (goF l q) ctf P R k)) (nI (mkc bs)) (nI k) M1 = some (nb1 (nfd (goF l q) ctf P R N), M2) ∧ Kp M M2 := by
      intro d
      induction d with
      | zero =>
        intro f k M1 bs hd hk hf hK hbs
        obtain ⟨f, rfl⟩ : ∃ f', f = f' + 1 := ⟨f - 1, by omega⟩
        have ek : k = N := by omega
        have gc := gcs M1 (hC.kp hK)
        refine ⟨M1, ?_, hK⟩
        rw [ek, fX10_next_36, (hC.kp hK).1.2.1, ea_ck_t (pn_is hcc), gc, ev_ci, if_pos (by rw [pn_leI (by omega) (by omega)]; omega)]
      | succ d ih =>
        intro f k M1 bs hd hk hf hK hbs
        obtain ⟨f, rfl⟩ : ∃ f', f = f' + 1 := ⟨f - 1, by omega⟩
        have hC1 := hC.kp hK
        have gc := gcs M1 hC1
        have hk48 : k < 48 := by omega
        have bl := px_blank hC1 (cell := k) (known := 999) hk48 (by decide)
        have bl : fX8_isBlank 30 (nI k) 999 M1 = _ := bl
        have gn := px_gone hC1 hk48
        have hcol : k % n 0 < 8 := by have := Nat.mod_lt k (show 0 < n 0 by omega); omega
        have en : nfd (goF l q) ctf P R (k + 1) = nup (goF l q) ctf P R k (nfd (goF l q) ctf P R k) := rfl
        -- passing on with the same best
        have skip : ∀ M2 bs', Kp M M2 → nup (goF l q) ctf P R k (nfd (goF l q) ctf P R k) = nfd (goF l q) ctf P R k → (∀ col, col < 8 → bs' col = true → ∃ j, j < k + 1 ∧ j % n 0 = col ∧ sgs q l t r j 999 = [] ∧ goF l q j = false) → ∃ M3, fX10_next_208 (fX10_next_36 f) (nI s) (nI hr) (nb1 (nfd (goF l q) ctf P R k)) (nb2 (nfd (goF l q) ctf P R k)) (nb3 (nfd (goF l q) ctf P R k)) (nI (mkc bs')) (nI k) M2 = some (nb1 (nfd (goF l q) ctf P R N), M3) ∧ Kp M M3 := by
          intro M2 bs' hK2 hnu hbs'
          obtain ⟨M3, r1, r2⟩ := ih f (k + 1) M2 bs' (by omega) (by omega) (by omega) hK2 hbs'
          rw [en, hnu] at r1
          refine ⟨M3, ?_, r2⟩
          unfold fX10_next_208
          rw [show nI k + 1 = nI (k + 1) from nI_add k 1]
          exact r1
        -- weighing the CELL
        have w113 : ∀ bs', (∀ col, col < 8 → bs' col = true → ∃ j, j < k + 1 ∧ j % n 0 = col ∧ sgs q l t r j 999 = [] ∧ goF l q j = false) → ∃ M3, fX10_next_113 (fX10_next_36 f) (nI s) (nI hr) (nb1 (nfd (goF l q) ctf P R k)) (nb2 (nfd (goF l q) ctf P R k)) (nb3 (nfd (goF l q) ctf P R k)) (nI (mkc bs')) (nI k) M1 = some (nb1 (nfd (goF l q) ctf P R N), M3) ∧ Kp M M3 := by
          intro bs' hbs'
          unfold fX10_next_113
          rw [gn, ev_ci]
          by_cases hg : goF l q k = true
          · obtain ⟨M3, r1, r2⟩ := skip M1 bs' hK (by unfold nup; rw [if_pos hg]) hbs'
            refine ⟨M3, ?_, r2⟩
            rw [hg, if_pos (rfl : true = true), if_neg (by decide)]
            exact r1
          · have hgf := Bool.eq_false_iff.mpr hg
            obtain ⟨M2, e2, f8, f6, k2, M4, e4, f64, k4⟩ := clsX M1 k hC1 hk48
            have hcb := hctb k
            rw [hgf, if_neg Bool.false_ne_true, if_pos rfl, e2, ev_cv, f8]
            by_cases hct : ctf k < 2
            · obtain ⟨M3, r1, r2⟩ := skip M2 bs' (hK.trans k2) (by unfold nup; rw [if_neg hg, if_pos hct]) hbs'
              refine ⟨M3, ?_, r2⟩
              rw [if_neg (by rw [show (2 : Int32) = nI 2 from rfl, pn_leI (by omega) (by omega)]; omega)]
              exact r1
            · rw [if_pos (by rw [show (2 : Int32) = nI 2 from rfl, pn_leI (by omega) (by omega)]; omega), e4, ev_ci]
              have hPk := hPb k
              have hRk := hRb k hk48
              have hok := fok k (by omega)
              -- taking it
              have take : nup (goF l q) ctf P R k (nfd (goF l q) ctf P R k) = some (k, R k, P k) → ∃ M3, fX10_next_192 (fX10_next_36 f) (nI s) (nI hr) (nI (mkc bs')) (nI k) (nI (R k)) M4 = some (nb1 (nfd (goF l q) ctf P R N), M3) ∧ Kp M M3 := by
                intro hnu
                obtain ⟨M3, r1, r2⟩ := ih f (k + 1) M4 bs' (by omega) (by omega) (by omega) ((hK.trans k2).trans k4) hbs'
                rw [en, hnu] at r1
                refine ⟨M3, ?_, r2⟩
                unfold fX10_next_192 fX10_next_208
                rw [f64, show nI k + 1 = nI (k + 1) from nI_add k 1]
                exact r1
              have nu : nup (goF l q) ctf P R k (nfd (goF l q) ctf P R k) = match nfd (goF l q) ctf P R k with
                | none => some (k, R k, P k)
                | some (b, a, p) => if R k * p < a * P k then some (k, R k, P k) else some (b, a, p) := by
                unfold nup
                rw [if_neg hg, if_neg hct]
                cases nfd (goF l q) ctf P R k with
                | none => rfl
                | some e =>
                  obtain ⟨b, a, p⟩ := e
                  rfl
              match hst : nfd (goF l q) ctf P R k with
              | none =>
                rw [hst] at nu take
                obtain ⟨M3, r1, r2⟩ := take nu
                refine ⟨M3, ?_, r2⟩
                show (if (-1 : Int32) = -1 then _ else _) = _
                rw [if_pos rfl]
                exact r1
              | some (b, a, p) =>
                rw [hst] at nu take hok skip
                have hok : b < 48 ∧ a ≤ 3420 ∧ 0 < p ∧ p ≤ 3420 := hok
                have nu : nup (goF l q) ctf P R k (some (b, a, p)) = if R k * p < a * P k then some (k, R k, P k) else some (b, a, p) := nu
                show ∃ M3, (if nI b = -1 then _ else if nI a * M4.1 50 6 ≤ nI (R k) * nI p then fX10_next_208 (fX10_next_36 f) (nI s) (nI hr) (nI b) (nI a) (nI p) (nI (mkc bs')) (nI k) M4 else fX10_next_192 (fX10_next_36 f) (nI s) (nI hr) (nI (mkc bs')) (nI k) (nI (R k)) M4) = some (nb1 (nfd (goF l q) ctf P R N), M3) ∧ Kp M M3
                have m1 : a * P k ≤ 3420 * 3420 := Nat.mul_le_mul hok.2.1 hPk
                have m2 : R k * p ≤ 3420 * 3420 := Nat.mul_le_mul hRk hok.2.2.2
                rw [if_neg (ev_neg (by omega) (by decide)), f64, ev_mul, ev_mul]
                have wl := pn_leI (show a * P k < 2 ^ 31 by omega) (show R k * p < 2 ^ 31 by omega)
                by_cases hlt : R k * p < a * P k
                · rw [if_pos hlt] at nu
                  obtain ⟨M3, r1, r2⟩ := take nu
                  refine ⟨M3, ?_, r2⟩
                  rw [if_neg (fun z => by have := wl.mp z; omega)]
                  exact r1
                · rw [if_neg hlt] at nu
                  obtain ⟨M3, r1, r2⟩ := skip M4 bs' ((hK.trans k2).trans k4) nu hbs'
                  refine ⟨M3, ?_, r2⟩
                  rw [if_pos (wl.mpr (by omega))]
                  exact r1
        rw [fX10_next_36, hC1.1.2.1, ea_ck_t (pn_is hcc), gc, ev_ci, if_neg (by rw [pn_leI (by omega) (by omega)]; omega), bl, ev_ci]
        have up : ∀ col, col < 8 → bs col = true → ∃ j, j < k + 1 ∧ j % n 0 = col ∧ sgs q l t r j 999 = [] ∧ goF l q j = false := fun col h1 h2 => by
          obtain ⟨j, j1, j2⟩ := hbs col h1 h2
          exact ⟨j, by omega, j2⟩
        by_cases hb : sgs q l t r k 999 = []
        · obtain ⟨t1, t2, t3⟩ := mkc_t hcol bs
          rw [if_pos hb, if_neg (by decide), hC1.1.2.1, ea_ck_t (pn_is hcc), px_col hC1.1.2.2.2.2.1 ho hk48, ev_ci, ev_lt_]
          cases hbc : bs (k % n 0) with
          | true =>
            obtain ⟨j, j1, j2, j3, j4⟩ := hbs _ hcol hbc
            have hsg := hsame k j hb j3 j2.symm
            obtain ⟨M3, r1, r2⟩ := skip M1 bs hK (nup_skip hPb hRb hcP j1 hk48 j4 (hCsame k j hsg) (hPsame k j hsg) (hRsame k j hk48 (by omega) hsg j2.symm)) up
            refine ⟨M3, ?_, r2⟩
            rw [if_neg (fun z => by have := t1.mp z; rw [hbc] at this; cases this)]
            exact r1
          | false =>
            rw [if_pos (t1.mpr hbc), gn, ev_ci]
            by_cases hg : goF l q k = true
            · obtain ⟨M3, r1, r2⟩ := w113 bs up
              refine ⟨M3, ?_, r2⟩
              rw [hg, if_pos (rfl : true = true), if_neg (by decide)]
              unfold fX10_next_110
              rw [t3]
              exact r1
            · have hgf := Bool.eq_false_iff.mpr hg
              obtain ⟨M3, r1, r2⟩ := w113 (st1 bs (k % n 0)) (fun col h1 h2 => by
                by_cases e : col = k % n 0
                · exact ⟨k, Nat.lt_succ_self k, e.symm, hb, hgf⟩
                · have h2 : (if col = k % n 0 then true else bs col) = true := h2
                  rw [if_neg e] at h2
                  exact up col h1 h2)
              refine ⟨M3, ?_, r2⟩
              rw [hgf, if_neg Bool.false_ne_true, if_pos rfl]
              unfold fX10_next_110
              rw [t2]
              exact r1
        · obtain ⟨M3, r1, r2⟩ := w113 bs up
          refine ⟨M3, ?_, r2⟩
          rw [if_neg hb, if_pos rfl]
          exact r1
    obtain ⟨M2, e2, k2⟩ := lp N ea_N 0 M (fun _ => false) (by omega) (by omega) (by unfold ea_N; omega) (Kp.rf M) (fun col _ h => by cases h)
    refine ⟨M2, ?_, k2⟩
    unfold fX10_next fX10_next_0
    rw [gx1, b1, ev_ci, if_neg (by decide), gx2, b2, ev_ci, if_neg (by decide)]
    exact e2
  · have gcs := fun M1 (h1 : Ctx M1 c n v th o w q l t r) => gy_cells h1.1
    generalize hN : n 0 * n 1 = N at hcl gcs
    have lp : ∀ (d f k : Nat) (M1 : eM), N - k = d → k ≤ N → d < f → Kp M3 M1 → ∃ M2, fX11_next_33 f (nI s) (nI hr) (nb1 (nfd (goF l q) ctf P R k)) (nc4 (nfd (goF l q) ctf P R k)) (nc6 (nfd (goF l q) ctf P R k)) (nI k) M1 = some (nb1 (nfd (goF l q) ctf P R N), M2) ∧ Kp M3 M2 := by
      intro d
      induction d with
      | zero =>
        intro f k M1 hd hk hf hK
        obtain ⟨f, rfl⟩ : ∃ f', f = f' + 1 := ⟨f - 1, by omega⟩
        have ek : k = N := by omega
        have gc := gcs M1 (h3.kp hK)
        refine ⟨M1, ?_, hK⟩
        rw [ek, fX11_next_33, gc, ev_ci, if_pos (by rw [pn_leI (by omega) (by omega)]; omega)]
      | succ d ih =>
        intro f k M1 hd hk hf hK
        obtain ⟨f, rfl⟩ : ∃ f', f = f' + 1 := ⟨f - 1, by omega⟩
        have hC1 := h3.kp hK
        have gc := gcs M1 hC1
        have hk48 : k < 48 := by omega
        have en : nfd (goF l q) ctf P R (k + 1) = nup (goF l q) ctf P R k (nfd (goF l q) ctf P R k) := rfl
        have skip : ∀ M2, Kp M3 M2 → nup (goF l q) ctf P R k (nfd (goF l q) ctf P R k) = nfd (goF l q) ctf P R k → ∃ M4, fX11_next_154 (fX11_next_33 f) (nI s) (nI hr) (nb1 (nfd (goF l q) ctf P R k)) (nc4 (nfd (goF l q) ctf P R k)) (nc6 (nfd (goF l q) ctf P R k)) (nI k) M2 = some (nb1 (nfd (goF l q) ctf P R N), M4) ∧ Kp M3 M4 := by
          intro M2 hK2 hnu
          obtain ⟨M4, r1, r2⟩ := ih f (k + 1) M2 (by omega) (by omega) (by omega) hK2
          rw [en, hnu] at r1
          refine ⟨M4, ?_, r2⟩
          unfold fX11_next_154
          rw [show nI k + 1 = nI (k + 1) from nI_add k 1]
          exact r1
        have w76 : goF l q k ≠ true → ∃ M4, fX11_next_76 (fX11_next_33 f) (nI s) (nI hr) (nb1 (nfd (goF l q) ctf P R k)) (nc4 (nfd (goF l q) ctf P R k)) (nc6 (nfd (goF l q) ctf P R k)) (nI k) M1 = some (nb1 (nfd (goF l q) ctf P R N), M4) ∧ Kp M3 M4 := by
          intro hg
          obtain ⟨M2, e2, f34, f0, k2, M4, e4, f33, k4⟩ := clsY M1 k hC1 hk48
          have hcb := hctb k
          unfold fX11_next_76
          rw [e2, ev_cv, f34]
          by_cases hct : ctf k < 2
          · obtain ⟨M5, r1, r2⟩ := skip M2 (hK.trans k2) (by unfold nup; rw [if_neg hg, if_pos hct])
            refine ⟨M5, ?_, r2⟩
            rw [if_neg (by rw [show (2 : Int32) = nI 2 from rfl, pn_leI (by omega) (by omega)]; omega)]
            exact r1
          · have hrm : nI k - nI k / nI (n 0) * nI (n 0) = nI (k % n 0) := ev_rem (by omega) (by omega) (by omega)
            rw [if_pos (by rw [show (2 : Int32) = nI 2 from rfl, pn_leI (by omega) (by omega)]; omega), show (0 : Int32).toNatClampNeg = 0 from rfl, f0, ea_ck_t (pn_nz (by omega) (by omega)), hrm, e4, ev_ci]
            have hPk := hPb k
            have hRk := hRb k hk48
            have hok := fok k (by omega)
            have take : nup (goF l q) ctf P R k (nfd (goF l q) ctf P R k) = some (k, R k, P k) → ∃ M5, fX11_next_140 (fX11_next_33 f) (nI s) (nI hr) (nI k) (nI (R k)).toInt64 M4 = some (nb1 (nfd (goF l q) ctf P R N), M5) ∧ Kp M3 M5 := by
              intro hnu
              obtain ⟨M5, r1, r2⟩ := ih f (k + 1) M4 (by omega) (by omega) (by omega) ((hK.trans k2).trans k4)
              rw [en, hnu] at r1
              refine ⟨M5, ?_, r2⟩
              unfold fX11_next_140 fX11_next_154
              rw [f33, show nI k + 1 = nI (k + 1) from nI_add k 1]
              exact r1
            have nu : nup (goF l q) ctf P R k (nfd (goF l q) ctf P R k) = match nfd (goF l q) ctf P R k with
              | none => some (k, R k, P k)
              | some (b, a, p) => if R k * p < a * P k then some (k, R k, P k) else some (b, a, p) := by
              unfold nup
              rw [if_neg hg, if_neg hct]
              cases nfd (goF l q) ctf P R k with
              | none => rfl
              | some e =>
                obtain ⟨b, a, p⟩ := e
                rfl
            match hst : nfd (goF l q) ctf P R k with
            | none =>
              rw [hst] at nu take
              obtain ⟨M5, r1, r2⟩ := take nu
              refine ⟨M5, ?_, r2⟩
              show (if (-1 : Int32) = -1 then _ else _) = _
              rw [if_pos rfl]
              exact r1
            | some (b, a, p) =>
              rw [hst] at nu take hok skip
              have hok : b < 48 ∧ a ≤ 3420 ∧ 0 < p ∧ p ≤ 3420 := hok
              have nu : nup (goF l q) ctf P R k (some (b, a, p)) = if R k * p < a * P k then some (k, R k, P k) else some (b, a, p) := nu
              show ∃ M5, (if nI b = -1 then _ else if lg_cmp ((nI (R k)).toInt64 * (nI p).toInt64) ((nI a).toInt64 * (M4.1 100 33).toInt64) < 0 then fX11_next_140 (fX11_next_33 f) (nI s) (nI hr) (nI k) (nI (R k)).toInt64 M4 else fX11_next_154 (fX11_next_33 f) (nI s) (nI hr) (nI b) (nI a).toInt64 (nI p).toInt64 (nI k) M4) = some (nb1 (nfd (goF l q) ctf P R N), M5) ∧ Kp M3 M5
              have m1 : a * P k ≤ 3420 * 3420 := Nat.mul_le_mul hok.2.1 hPk
              have m2 : R k * p ≤ 3420 * 3420 := Nat.mul_le_mul hRk hok.2.2.2
              have t64 : ∀ z, z ≤ 3420 → ((nI z).toInt64).toInt = (z : Int) := fun z hz => by rw [Int32.toInt_toInt64, nI_toInt (by omega)]
              have p1 : ((nI (R k)).toInt64 * (nI p).toInt64).toInt = ((R k * p : Nat) : Int) := by
                have e0 : ((R k : Nat) : Int) * ((p : Nat) : Int) = ((R k * p : Nat) : Int) := (Int.natCast_mul _ _).symm
                rw [pl_mul (t64 _ hRk) (t64 _ hok.2.2.2) (by rw [e0]; omega) (by rw [e0]; omega), e0]
              have p2 : ((nI a).toInt64 * (nI (P k)).toInt64).toInt = ((a * P k : Nat) : Int) := by
                have e0 : ((a : Nat) : Int) * ((P k : Nat) : Int) = ((a * P k : Nat) : Int) := (Int.natCast_mul _ _).symm
                rw [pl_mul (t64 _ hok.2.1) (t64 _ hPk) (by rw [e0]; omega) (by rw [e0]; omega), e0]
              rw [if_neg (ev_neg (by omega) (by decide)), f33]
              have wl : lg_cmp ((nI (R k)).toInt64 * (nI p).toInt64) ((nI a).toInt64 * (nI (P k)).toInt64) < 0 ↔ R k * p < a * P k := by
                rw [lg_cmp_lt, Int64.lt_iff_toInt_lt, p1, p2]
                omega
              by_cases hlt : R k * p < a * P k
              · rw [if_pos hlt] at nu
                obtain ⟨M5, r1, r2⟩ := take nu
                refine ⟨M5, ?_, r2⟩
                rw [if_pos (wl.mpr hlt)]
                exact r1
              · rw [if_neg hlt] at nu
                obtain ⟨M5, r1, r2⟩ := skip M4 ((hK.trans k2).trans k4) nu
                refine ⟨M5, ?_, r2⟩
                rw [if_neg (fun z => hlt (wl.mp z))]
                exact r1
        have pg := py_gone hC1 hk48 (fun N' => fX11_next_76 (fX11_next_33 f) (nI s) (nI hr) (nb1 (nfd (goF l q) ctf P R k)) (nc4 (nfd (goF l q) ctf P R k)) (nc6 (nfd (goF l q) ctf P R k)) (nI k) N') (fun N' => fX11_next_154 (fX11_next_33 f) (nI s) (nI hr) (nb1 (nfd (goF l q) ctf P R k)) (nc4 (nfd (goF l q) ctf P R k)) (nc6 (nfd (goF l q) ctf P R k)) (nI k) N')
        rw [fX11_next_33, gc, ev_ci, if_neg (by rw [pn_leI (by omega) (by omega)]; omega), pg]
        by_cases hg : goF l q k = true
        · obtain ⟨M4, r1, r2⟩ := skip M1 hK (by unfold nup; rw [if_pos hg])
          refine ⟨M4, ?_, r2⟩
          rw [if_pos hg]
          exact r1
        · obtain ⟨M4, r1, r2⟩ := w76 hg
          refine ⟨M4, ?_, r2⟩
          rw [if_neg hg]
          exact r1
    obtain ⟨M2, e2, k2⟩ := lp N ea_N 0 M3 (by omega) (by omega) (by unfold ea_N; omega) (Kp.rf M3)
    refine ⟨M2, ?_, k2⟩
    have gy1 := gy_story h3.1 (nI s)
    have gy2 : fX11_in (nI hr) 1 999 M3 = some (pb (nI hr) (nI 1) (nI 1000 - 1), M3) := py_in (nI hr) 1 999 M3
    unfold fX11_next fX11_next_0
    rw [gy1, b1, ev_ci, if_neg (by decide), gy2, b2, ev_ci, if_neg (by decide)]
    exact e2
