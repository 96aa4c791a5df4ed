theorem sz_lightBack (x1 x2 x3 x4 x5 : Int32) : ea_st InvZ (fX10_lightBack x1 x2 x3 x4 x5) (fX11_lightBack x1 x2 x3 x4 x5) := by
  refine ea_qz (fun M c n v th o w q l t r hC => ?_)
  have ho := hC.1.2.2.2.1
  have h2 := ho.2.2.1
  have hth := hC.1.2.2.2.2.2.2.1.1.1
  have hcl : n 0 * n 1 ≤ 48 := Nat.mul_le_mul ho.1.2 ho.2.1.2
  have hok := hC.2.1.1
  have hLX := hC.2.1.2.1
  have gx1 := gx_cell hC.1 x1
  have gx2 := gx_side (M := M) x2
  have gx3 := gx_thread hC.1 x3
  have gx4 := gx_step (M := M) x4
  rcases pb_01 x1 0 (nI (n 0 * n 1) - 1) with b1 | b1
  · refine ⟨-2, ⟨M, by unfold fX10_lightBack fX10_lightBack_0; rw [gx1, b1, ev_ci, if_pos rfl], Kp.rf M⟩, fun M1 h1 => ⟨M1, ?_, Kp.rf M1⟩⟩
    have gy1 := gy_cell h1.1 x1
    unfold fX11_lightBack fX11_lightBack_0
    rw [gy1, b1, ev_ci, if_pos rfl]
  rcases pb_01 x2 0 (nI 2 - 1) with b2 | b2
  · refine ⟨-2, ⟨M, by unfold fX10_lightBack fX10_lightBack_0; rw [gx1, b1, ev_ci, if_neg (by decide), gx2, b2, ev_ci, if_pos rfl], Kp.rf M⟩, fun M1 h1 => ⟨M1, ?_, Kp.rf M1⟩⟩
    have gy1 := gy_cell h1.1 x1
    have gy2 := gy_side (M := M1) x2
    unfold fX11_lightBack fX11_lightBack_0
    rw [gy1, b1, ev_ci, if_neg (by decide), gy2, b2, ev_ci, if_pos rfl]
  rcases pb_01 x3 0 (nI th - 1) with b3 | b3
  · refine ⟨-2, ⟨M, by unfold fX10_lightBack fX10_lightBack_0; rw [gx1, b1, ev_ci, if_neg (by decide), gx2, b2, ev_ci, if_neg (by decide), gx3, b3, ev_ci, if_pos rfl], Kp.rf M⟩, fun M1 h1 => ⟨M1, ?_, Kp.rf M1⟩⟩
    have gy1 := gy_cell h1.1 x1
    have gy2 := gy_side (M := M1) x2
    have gy3 := gy_thread h1.1 x3
    unfold fX11_lightBack fX11_lightBack_0
    rw [gy1, b1, ev_ci, if_neg (by decide), gy2, b2, ev_ci, if_neg (by decide), gy3, b3, ev_ci, if_pos rfl]
  rcases pb_01 x4 0 (nI 1000 - 1) with b4 | b4
  · refine ⟨-2, ⟨M, by unfold fX10_lightBack fX10_lightBack_0; rw [gx1, b1, ev_ci, if_neg (by decide), gx2, b2, ev_ci, if_neg (by decide), gx3, b3, ev_ci, if_neg (by decide), gx4, b4, ev_ci, if_pos rfl], Kp.rf M⟩, fun M1 h1 => ⟨M1, ?_, Kp.rf M1⟩⟩
    have gy1 := gy_cell h1.1 x1
    have gy2 := gy_side (M := M1) x2
    have gy3 := gy_thread h1.1 x3
    have gy4 := gy_step (M := M1) x4
    unfold fX11_lightBack fX11_lightBack_0
    rw [gy1, b1, ev_ci, if_neg (by decide), gy2, b2, ev_ci, if_neg (by decide), gy3, b3, ev_ci, if_neg (by decide), gy4, b4, ev_ci, if_pos rfl]
  obtain ⟨cell, hcell, rfl⟩ := pb_nat0 (by omega) b1
  obtain ⟨sd, hsd, rfl⟩ := pb_nat0 (by decide) b2
  obtain ⟨x, hx, rfl⟩ := pb_nat0 (by omega) b3
  obtain ⟨kn, hkn, rfl⟩ := pb_nat0 (by decide) b4
  have hX := px_look (Or.inl rfl) hok hLX (cell := cell) (side := sd) (known := kn) (by omega) (by omega) (by omega)
  have hY := fun M1 (h1 : Ctx M1 c n v th o w q l t r) => py_look hok h1.2.1.2.2.1 (cell := cell) (side := sd) (known := kn) (by omega) (by omega) (by omega)
  have headY : ∀ M1, Ctx M1 c n v th o w q l t r → fX11_lightBack (nI cell) (nI sd) (nI x) (nI kn) x5 M1 = ea_ci (fX11_lookAt (nI cell) (nI sd) (nI kn) M1) (fun r18 M19 => if r18 < 0 then (some ((-1 : Int32), M19)) else (ea_ck (ea_ix (r18 + (6 : Int32)) (ea_len 114)) (if (M19.1 114 (r18 + (6 : Int32)).toNatClampNeg) = (1 : Int32) then (some ((-1 : Int32), M19)) else (fX11_lightBack_73 ea_N (nI x) x5 r18 (-1 : Int32) (0 : Int32) M19)))) := by
    intro M1 h1
    have gy1 := gy_cell h1.1 (nI cell)
    have gy2 := gy_side (M := M1) (nI sd)
    have gy3 := gy_thread h1.1 (nI x)
    have gy4 := gy_step (M := M1) (nI kn)
    unfold fX11_lightBack fX11_lightBack_0
    rw [gy1, b1, ev_ci, if_neg (by decide), gy2, b2, ev_ci, if_neg (by decide), gy3, b3, ev_ci, if_neg (by decide), gy4, b4, ev_ci, if_neg (by decide)]
  have hSn := px_seen (Or.inl rfl) hok hLX (z := lst (lkp l cell sd kn) (q 0)) (fun i hi => (lst_lt hi).1)
  cases hz : lst (lkp l cell sd kn) (q 0) with
  | none =>
    rw [hz] at hX hY hSn
    refine ⟨-1, ⟨M, ?_, Kp.rf M⟩, fun M1 h1 => ⟨M1, ?_, Kp.rf M1⟩⟩
    · unfold fX10_lightBack fX10_lightBack_0
      rw [gx1, b1, ev_ci, if_neg (by decide), gx2, b2, ev_ci, if_neg (by decide), gx3, b3, ev_ci, if_neg (by decide), gx4, b4, ev_ci, if_neg (by decide), hX, ev_ci, hSn, ev_ci]
      rfl
    · rw [headY M1 h1, hY M1 h1]
      rfl
  | some i =>
    have hi := (lst_lt hz).1
    rw [hz] at hX hY hSn
    have hX : fX8_latestLook 30 (nI cell) (nI sd) (nI kn) M = some (nI i, M) := hX
    have hSn : fX8_isSeen 30 (nI i) M = some (if decide (l i 6 ≠ 1) = true then 1 else 0, M) := hSn
    have hq := hok.1
    have b6 := (hok.2.2.2.2.1 i hi).2.2.2.2.1
    have bc := (hok.2.2.2.2.1 i hi).2.2.2.1
    have g6 : ∀ M1, Ctx M1 c n v th o w q l t r → M1.1 114 (4 + 7 * i + 6) = nI (l i 6) := fun M1 h1 => by have := h1.2.1.2.2.1.2.1 i 6 hi (by decide); rw [Nat.zero_add] at this; exact this
    by_cases hg : l i 6 = 1
    · rw [if_neg (by simp [hg])] at hSn
      refine ⟨-1, ⟨M, ?_, Kp.rf M⟩, fun M1 h1 => ⟨M1, ?_, Kp.rf M1⟩⟩
      · unfold fX10_lightBack fX10_lightBack_0
        rw [gx1, b1, ev_ci, if_neg (by decide), gx2, b2, ev_ci, if_neg (by decide), gx3, b3, ev_ci, if_neg (by decide), gx4, b4, ev_ci, if_neg (by decide), hX, ev_ci, hSn, ev_ci, if_pos rfl]
      · have yy : fX11_lookAt (nI cell) (nI sd) (nI kn) M1 = some (nI (4 + 7 * i), M1) := hY M1 h1
        have g := g6 M1 h1
        rw [headY M1 h1, yy]
        simp (disch := omega) only [ev_ck, ev_ci, ev_cv, ev_lt_, ↓reduceIte, ev_lens, ev_ix, ev_nz, ev_cl, ev_cll, ev_add, ev_addl, ev_ladd, ev_mul, ev_mull, ev_lmul, ev_sub, ev_subl, ev_lsub, ev_lt, ev_ltl, ev_llt, ev_le, ev_lel, ev_lle, ev_eq, ev_eql, ev_leq, ev_nm1, ev_nm5, ev_m1n, ev_neg1, ev_ltT, ev_ltF, ev_leT, ev_leF, ev_eqT, ev_eqF, ev_one0, ev_zero1, Nat.reduceAdd, Nat.reduceMul, Nat.reduceSub, ea_pI_eq, ev_pIn, ev_pIe, ea_pI_r, eq_self, g]
    · rw [if_pos (by simp [hg])] at hSn
      generalize hok1 : (fun h => ok1 v o w (n 2) x h (lw l i 0)) = P
      -- the two tests of the class
      have P1 : ∃ R, fX10_hoursPast (nI x) (nI i) (-(nI (n 2))) M = some (nI R, M) ∧ R ≤ 2000 ∧ (R = 0 ∨ (fun h => decide (l i (3 + 0) ≤ sp_col v o w x h 0 + n 2) && (decide (l i (3 + 1) ≤ sp_col v o w x h 1 + n 2) && decide (l i (3 + 2) ≤ sp_col v o w x h 2 + n 2))) (R - 1) = false) ∧ (R < 2000 → (fun h => decide (l i (3 + 0) ≤ sp_col v o w x h 0 + n 2) && (decide (l i (3 + 1) ≤ sp_col v o w x h 1 + n 2) && decide (l i (3 + 2) ≤ sp_col v o w x h 2 + n 2))) R = true) := by
        refine px_hp (P := fun h => decide (l i (3 + 0) ≤ sp_col v o w x h 0 + n 2) && (decide (l i (3 + 1) ≤ sp_col v o w x h 1 + n 2) && decide (l i (3 + 2) ≤ sp_col v o w x h 2 + n 2))) (fun h hh => ?_)
        have neg : ∀ s, nI s + -(nI (n 2)) = nI s - nI (n 2) := fun s => (Int32.sub_eq_add_neg _ _).symm
        rw [px_past hC hi hg hx (by omega) (Q := fun c => decide (l i (3 + c) ≤ sp_col v o w x h c + n 2)) (fun c hc => by
          have := bc c hc
          have b2 := sp_col_le (v := v) (o := o) (w := w) (x := x) (h := h) (c := c)
          rw [neg, Int32.lt_iff_toInt_lt, nI_toInt (by omega), pk_sub_toInt (by omega) (by omega), decide_eq_false_iff_not]
          omega)]
        unfold fX10_isPast_55
        have hle : (-(nI (n 2)) : Int32) ≤ 0 := by
          have e := neg 0
          rw [show nI 0 = 0 from rfl, Int32.zero_add] at e
          rw [e, Int32.le_iff_toInt_le, show (0 : Int32) - nI (n 2) = nI 0 - nI (n 2) from rfl, pk_sub_toInt (by omega) (by omega)]
          have : (0 : Int32).toInt = 0 := by decide
          omega
        rw [if_pos hle]
        generalize decide (l i (3 + 0) ≤ sp_col v o w x h 0 + n 2) = q0
        generalize decide (l i (3 + 1) ≤ sp_col v o w x h 1 + n 2) = q1
        generalize decide (l i (3 + 2) ≤ sp_col v o w x h 2 + n 2) = q2
        cases q0 <;> cases q1 <;> cases q2 <;> rfl
      have P2 : ∃ R, fX10_hoursPast (nI x) (nI i) (nI (n 2 + 1)) M = some (nI R, M) ∧ R ≤ 2000 ∧ (R = 0 ∨ (fun h => decide (l i (3 + 0) + n 2 < sp_col v o w x h 0) || (decide (l i (3 + 1) + n 2 < sp_col v o w x h 1) || decide (l i (3 + 2) + n 2 < sp_col v o w x h 2))) (R - 1) = false) ∧ (R < 2000 → (fun h => decide (l i (3 + 0) + n 2 < sp_col v o w x h 0) || (decide (l i (3 + 1) + n 2 < sp_col v o w x h 1) || decide (l i (3 + 2) + n 2 < sp_col v o w x h 2))) R = true) := by
        refine px_hp (P := fun h => decide (l i (3 + 0) + n 2 < sp_col v o w x h 0) || (decide (l i (3 + 1) + n 2 < sp_col v o w x h 1) || decide (l i (3 + 2) + n 2 < sp_col v o w x h 2))) (fun h hh => ?_)
        rw [px_past hC hi hg hx (by omega) (Q := fun c => decide (l i (3 + c) + n 2 < sp_col v o w x h c)) (fun c hc => by
          have := bc c hc
          have b2 := sp_col_le (v := v) (o := o) (w := w) (x := x) (h := h) (c := c)
          rw [ev_add, pn_ltI (by omega) (by omega), decide_eq_false_iff_not]
          omega)]
        unfold fX10_isPast_55
        rw [if_neg (by rw [pn_le0 (by omega)]; omega)]
        generalize decide (l i (3 + 0) + n 2 < sp_col v o w x h 0) = q0
        generalize decide (l i (3 + 1) + n 2 < sp_col v o w x h 1) = q1
        generalize decide (l i (3 + 2) + n 2 < sp_col v o w x h 2) = q2
        cases q0 <;> cases q1 <;> cases q2 <;> rfl
      obtain ⟨R1, e1, r1, r2, r3⟩ := P1
      obtain ⟨R2, e2, r4, r5, r6⟩ := P2
      -- what they say of each hour
      have okh : ∀ h, P h = true ↔ ((l i (3 + 0) ≤ sp_col v o w x h 0 + n 2 ∧ l i (3 + 1) ≤ sp_col v o w x h 1 + n 2 ∧ l i (3 + 2) ≤ sp_col v o w x h 2 + n 2) ∧ ¬ (l i (3 + 0) + n 2 < sp_col v o w x h 0 ∨ l i (3 + 1) + n 2 < sp_col v o w x h 1 ∨ l i (3 + 2) + n 2 < sp_col v o w x h 2)) := by
        intro h
        rw [← hok1]
        show ok1 v o w (n 2) x h (lw l i 0) = true ↔ _
        unfold ok1 near
        rw [lw_c, lw_c, lw_c]
        simp only [Bool.and_eq_true, decide_eq_true_eq]
        omega
      have r2' : R1 = 0 ∨ ¬ (l i (3 + 0) ≤ sp_col v o w x (R1 - 1) 0 + n 2 ∧ l i (3 + 1) ≤ sp_col v o w x (R1 - 1) 1 + n 2 ∧ l i (3 + 2) ≤ sp_col v o w x (R1 - 1) 2 + n 2) := by
        rcases r2 with r2 | r2
        · exact Or.inl r2
        · refine Or.inr (fun hh => ?_)
          have r2 : (decide (l i (3 + 0) ≤ sp_col v o w x (R1 - 1) 0 + n 2) && (decide (l i (3 + 1) ≤ sp_col v o w x (R1 - 1) 1 + n 2) && decide (l i (3 + 2) ≤ sp_col v o w x (R1 - 1) 2 + n 2))) = false := r2
          rw [decide_eq_true hh.1, decide_eq_true hh.2.1, decide_eq_true hh.2.2] at r2
          cases r2
      have r3' : R1 < 2000 → (l i (3 + 0) ≤ sp_col v o w x R1 0 + n 2 ∧ l i (3 + 1) ≤ sp_col v o w x R1 1 + n 2 ∧ l i (3 + 2) ≤ sp_col v o w x R1 2 + n 2) := by
        intro hh
        have r3 := r3 hh
        simp only [Bool.and_eq_true, decide_eq_true_eq] at r3
        exact r3
      have r5' : R2 = 0 ∨ ¬ (l i (3 + 0) + n 2 < sp_col v o w x (R2 - 1) 0 ∨ l i (3 + 1) + n 2 < sp_col v o w x (R2 - 1) 1 ∨ l i (3 + 2) + n 2 < sp_col v o w x (R2 - 1) 2) := by
        rcases r5 with r5 | r5
        · exact Or.inl r5
        · right
          simp only [Bool.or_eq_false_iff, decide_eq_false_iff_not] at r5
          omega
      have r6' : R2 < 2000 → (l i (3 + 0) + n 2 < sp_col v o w x R2 0 ∨ l i (3 + 1) + n 2 < sp_col v o w x R2 1 ∨ l i (3 + 2) + n 2 < sp_col v o w x R2 2) := by
        intro hh
        have r6 := r6 hh
        simp only [Bool.or_eq_true, decide_eq_true_eq] at r6
        exact r6
      have mo : ∀ h1 h2 c, h1 ≤ h2 → sp_col v o w x h1 c ≤ sp_col v o w x h2 c := fun h1 h2 c h => sp_col_mono h
      have lowf : ∀ h, h < R1 → P h = false := by
        intro h hh
        rw [Bool.eq_false_iff]
        intro hp
        have hp := ((okh h).mp hp).1
        have m0 := mo h (R1 - 1) 0 (by omega)
        have m1 := mo h (R1 - 1) 1 (by omega)
        have m2 := mo h (R1 - 1) 2 (by omega)
        rcases r2' with r2' | r2'
        · omega
        · exact r2' (by omega)
      have highf : ∀ h, R2 ≤ h → h < 2000 → P h = false := by
        intro h hh h20
        rw [Bool.eq_false_iff]
        intro hp
        have hp := ((okh h).mp hp).2
        have m0 := mo R2 h 0 hh
        have m1 := mo R2 h 1 hh
        have m2 := mo R2 h 2 hh
        have := r6' (by omega)
        exact hp (by omega)
      have mid : ∀ h, R1 ≤ h → h < R2 → R1 < 2000 → P h = true := by
        intro h ha hb h20
        have m0 := mo R1 h 0 ha
        have m1 := mo R1 h 1 ha
        have m2 := mo R1 h 2 ha
        have k0 := mo h (R2 - 1) 0 (by omega)
        have k1 := mo h (R2 - 1) 1 (by omega)
        have k2 := mo h (R2 - 1) 2 (by omega)
        have g1 := r3' h20
        have g2 := r5'.resolve_left (by omega)
        exact (okh h).mpr ⟨by omega, by omega⟩
      have ws := px_ws hC hi hg hx (h := R1) r1
      have ehd : fX10_lightBack (nI cell) (nI sd) (nI x) (nI kn) x5 M = (if (if (decide (R1 < 2000) && ok1 v o w (n 2) x R1 (lw l i 0)) = true then (1 : Int32) else 0) = 0 then some ((-1 : Int32), M) else if x5 = 0 then some (nI R1, M) else some (nI R2 - 1, M)) := by
        have e2s := hC.1.2.2.2.2.1.1.2.2.1
        unfold fX10_lightBack fX10_lightBack_0
        rw [gx1, b1, ev_ci, if_neg (by decide), gx2, b2, ev_ci, if_neg (by decide), gx3, b3, ev_ci, if_neg (by decide), gx4, b4, ev_ci, if_neg (by decide), hX, ev_ci, hSn, ev_ci, if_neg (by decide), hC.1.2.1, ea_ck_t (pn_is hC.1.1), e2s, e1, ev_ci, hC.1.2.1, ea_ck_t (pn_is hC.1.1), e2s, show nI (n 2) + 1 = nI (n 2 + 1) from nI_add _ 1, e2, ev_ci, ws, ev_ci]
      have mod : ∀ M1, Ctx M1 c n v th o w q l t r → fX11_lightBack (nI cell) (nI sd) (nI x) (nI kn) x5 M1 = some (enc id (if x5 = 0 then fsx P 2000 else lst P 2000), M1) := by
        intro M1 h1
        have yy : fX11_lookAt (nI cell) (nI sd) (nI kn) M1 = some (nI (4 + 7 * i), M1) := hY M1 h1
        have g := g6 M1 h1
        have run := py_73 h1 hi hx x5 2000 ea_N 0 (by omega) (by omega) (by unfold ea_N; omega)
        rw [hok1] at run
        have st0 : (if x5 = 0 then fsx P 0 else lst P 0) = none := by
          by_cases h5 : x5 = 0
          · rw [if_pos h5]; rfl
          · rw [if_neg h5]; rfl
        rw [st0] at run
        rw [headY M1 h1, yy]
        simp (disch := omega) only [ev_ck, ev_ci, ev_cv, ev_lt_, ↓reduceIte, ev_lens, ev_ix, ev_nz, ev_cl, ev_cll, ev_add, ev_addl, ev_ladd, ev_mul, ev_mull, ev_lmul, ev_sub, ev_subl, ev_lsub, ev_lt, ev_ltl, ev_llt, ev_le, ev_lel, ev_lle, ev_eq, ev_eql, ev_leq, ev_nm1, ev_nm5, ev_m1n, ev_neg1, ev_ltT, ev_ltF, ev_leT, ev_leF, ev_eqT, ev_eqF, ev_one0, ev_zero1, Nat.reduceAdd, Nat.reduceMul, Nat.reduceSub, ea_pI_eq, ev_pIn, ev_pIe, ea_pI_r, eq_self, g]
        exact run
      by_cases hw : R1 < 2000 ∧ R1 < R2
      · have pt := mid R1 (Nat.le_refl _) hw.2 hw.1
        have pt' : ok1 v o w (n 2) x R1 (lw l i 0) = true := by rw [← hok1] at pt; exact pt
        have f1 : fsx P 2000 = some R1 := by
          have := fsx_at (fun j hj => lowf j hj) pt (2000 - (R1 + 1))
          rwa [show R1 + 1 + (2000 - (R1 + 1)) = 2000 by omega] at this
        have f2 : lst P 2000 = some (R2 - 1) := by
          have := lst_at (mid (R2 - 1) (by omega) (by omega) hw.1) (2000 - R2) (fun j ha hb => highf j (by omega) (by omega))
          rwa [show R2 - 1 + 1 + (2000 - R2) = 2000 by omega] at this
        refine ⟨enc id (if x5 = 0 then fsx P 2000 else lst P 2000), ⟨M, ?_, Kp.rf M⟩, fun M1 h1 => ⟨M1, mod M1 h1, Kp.rf M1⟩⟩
        rw [ehd, decide_eq_true hw.1, pt', f1, f2, if_neg (by decide)]
        by_cases h5 : x5 = 0
        · rw [if_pos h5, if_pos h5]; rfl
        · rw [if_neg h5, if_neg h5, show nI R2 - 1 = nI (R2 - 1) from ev_sub (b := 1) (by omega)]; rfl
      · have all : ∀ h, h < 2000 → P h = false := by
          intro h hh
          rcases Nat.lt_or_ge h R1 with q1 | q1
          · exact lowf h q1
          · exact highf h (by omega) hh
        have f1 := fsx_none 2000 all
        have f2 := lst_non 2000 all
        refine ⟨enc id (if x5 = 0 then fsx P 2000 else lst P 2000), ⟨M, ?_, Kp.rf M⟩, fun M1 h1 => ⟨M1, mod M1 h1, Kp.rf M1⟩⟩
        have hf : (decide (R1 < 2000) && ok1 v o w (n 2) x R1 (lw l i 0)) = false := by
          by_cases h20 : R1 < 2000
          · have := all R1 h20
            rw [← hok1] at this
            have this : ok1 v o w (n 2) x R1 (lw l i 0) = false := this
            rw [this, Bool.and_false]
          · rw [decide_eq_false h20]; rfl
        rw [ehd, hf, f1, f2, if_pos (by decide)]
        by_cases h5 : x5 = 0
        · rw [if_pos h5]; rfl
        · rw [if_neg h5]; rfl
