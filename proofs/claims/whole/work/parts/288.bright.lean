section BR
variable {B : Nat → Nat} {len cc : Nat}
/-- the class's row of three -/
def rwX (a1 fr most : Nat) (KE : eM → Option (Int32 × eM)) (i : Nat) (M : eM) : Option (Int32 × eM) := ea_ci (fX2_readRow_3 a1 (100000 - i) (nI fr) (nI most) (nI (fr + i)) M) (nx0 KE)
theorem rwX_s {a1 fr most n : Nat} {KE : eM → Option (Int32 × eM)} (hn : ea_len a1 = n) (hf : fr + 3 ≤ n) (hn2 : n < 1000) (i : Nat) (M : eM) (hi : i < 3) : rwX a1 fr most KE i M = ea_ci (fX2_readNumber (nI 0) (nI most) M) (nx0 (fun M => rwX a1 fr most KE (i + 1) (ea_pI M a1 (fr + i) (M.1 3 8)))) := by
  unfold rwX
  rw [show 100000 - i = (100000 - (i + 1)) + 1 by omega, fX2_readRow_3, show nI fr + 3 = nI (fr + 3) from nI_add fr 3, if_neg (by rw [pn_leI (by omega) (by omega)]; omega), hn, if_neg (by rw [pn_leI (by omega) (by omega)]; omega), ev_ix (by omega) (by omega), ev_cl (by omega), show nI (fr + i) + 1 = nI (fr + (i + 1)) from nI_add (fr + i) 1]
  exact ci_nx
theorem rwX_e {a1 fr most : Nat} {KE : eM → Option (Int32 × eM)} (hf : fr < 1000) (M : eM) : rwX a1 fr most KE 3 M = KE M := by
  unfold rwX
  show ea_ci (fX2_readRow_3 a1 (99996 + 1) (nI fr) (nI most) (nI (fr + 3)) M) (nx0 KE) = KE M
  rw [fX2_readRow_3, show nI fr + 3 = nI (fr + 3) from nI_add fr 3, if_pos (by rw [pn_leI (by omega) (by omega)]; omega), ev_ci]
  exact if_neg (by decide)
def brY (i : Nat) (M : eM) : Option (Int32 × eM) := ea_ci (fX11_readClause_224 (100000 - i) (nI i) M) (nx0 mcl)
theorem brY_s (i : Nat) (M : eM) (hi : i < 3) : brY i M = ea_ci (fX11_readNumber (nI 0) (nI 200) M) (nx0 (fun M => brY (i + 1) (ea_pI M 102 (22 + i) (M.1 100 11)))) := by
  unfold brY
  rw [show 100000 - i = (100000 - (i + 1)) + 1 by omega, fX11_readClause_224, if_neg (by rw [show (3 : Int32) = nI 3 from rfl, pn_leI (by omega) (by omega)]; omega), ev_ladd, show ea_len 102 = 28 from rfl, ev_ix (by omega) (by omega), ev_cl (by omega), show nI i + 1 = nI (i + 1) from nI_add i 1]
  exact ci_nx
theorem brY_e (M : eM) : brY 3 M = mcl M := by
  unfold brY
  show ea_ci (fX11_readClause_224 (99996 + 1) (nI 3) M) (nx0 mcl) = mcl M
  rw [fX11_readClause_224, if_pos (by decide), ev_ci]
  exact if_neg (by decide)
theorem jBright (hc : pn_c cc) {MX MY : eM} {p : Nat} (h : Sc MX MY B len p) (hD : DR MX MY cc B) (hr : MX.2.2 3 3 = cc) : JO cc (ea_ci (fX2_isFirst 8 MX) (nx0 (fun M => ea_ck (ea_is (M.2.2 3 3) 1) (ea_ci (fX2_readRow (M.2.2 3 3 + 1) 0 200 M) (nx0 cE))))) (ea_ci (fX11_readClause_16 4 MY) (nx0 mcl)) MX MY (CL p (MX.1 cc 4) cc B len) := by
  have hcc : cc = 10 ∨ cc = 20 := hc
  have m := mw 4 (by decide) (by decide) MY mcl
  have m : ea_ci (fX11_readClause_16 4 MY) (nx0 mcl) = _ := m
  rw [m]
  obtain ⟨b1, b2, b3, -⟩ := tE_b (B := B) h.1
  refine jfirst hc (w := 4) (by decide) (by decide) h hD ?_
  intro MX' MY' s d x r
  rw [if_neg (show ¬ nI 4 = (1 : Int32) by decide), if_neg (show ¬ nI 4 = (3 : Int32) by decide), if_neg (show ¬ nI 4 = (0 : Int32) by decide), show MX'.2.2 3 3 = cc by rw [r]; exact hr, pn_is hc, ev_ck]
  show JO cc (rwX (cc + 1) 0 200 cE 0 MX') (brY 0 MY') MX' MY' _
  refine rowG hc (ca := cc + 1) (ka := 0) (cb := 102) (kb := 22) (N := 3) (lo := fun _ => 0) (hi := fun _ => 200) (by omega) (fun k hk => by unfold rgY; omega) (by decide) (fun _ _ => by decide) (fun i M hi => rwX_s (pn_l1 hc) (by omega) (by omega) i M hi) (fun i M hi => brY_s i M hi) (fun i M hi _ => rfl) (fun i M hi _ => rfl) ?_ s
  intro MX1 MY1 p1 s1 hp1 hv gx gy
  rw [rwX_e (by omega), brY_e]
  have xx : ∀ c k, c ≠ 3 → c ≠ cc + 1 → MX1.1 c k = MX'.1 c k := fun c k h1 h2 => gx.1 c k (by omega) (by omega)
  have yy : ∀ c k, c ≠ 100 → (c ≠ 102 ∨ k < 22 ∨ 25 ≤ k) → MY1.1 c k = MY'.1 c k := fun c k h1 h2 => gy.1 c k (by omega) (by omega)
  refine jend hc s1 ?_ (by omega) ((xx _ _ (by omega) (by omega)).trans (x _ _ (by omega)))
  exact ⟨d.d0.cg (fun k _ => xx _ _ (by omega) (by omega)) (fun k _ _ => yy _ _ (by omega) (by omega)), fun k hk => by have := hv k hk; rw [Nat.zero_add] at this; exact this, d.d2.cg (xx _ _ (by omega) (by omega)) (fun k => xx _ _ (by omega) (by omega)) (yy _ _ (by omega) (by omega)) (fun k _ => yy _ _ (by omega) (by omega)),
    d.d3.cg (xx _ _ (by omega) (by omega)) (fun k => xx _ _ (by omega) (by omega)) (yy _ _ (by omega) (by omega)) (fun k => yy _ _ (by omega) (by omega)) (fun k => gx.2.1 _ _ (by omega)) (fun k => gy.2.1 _ _ (by omega)),
    d.d4.cg (xx _ _ (by omega) (by omega)) (fun k => xx _ _ (by omega) (by omega)) (fun k => xx _ _ (by omega) (by omega)) (yy _ _ (by omega) (by omega)) (fun k => yy _ _ (by omega) (by omega)) (fun k => yy _ _ (by omega) (by omega)) (fun k => gx.2.1 _ _ (by omega)) (fun k => gy.2.1 _ _ (by omega)),
    d.d5.cg (xx _ _ (by omega) (by omega)) (fun k => xx _ _ (by omega) (by omega)) (yy _ _ (by omega) (by omega)) (fun k => yy _ _ (by omega) (by omega)) (fun k => gx.2.1 _ _ (by omega)) (fun k => gy.2.1 _ _ (by omega)),
    d.d6.cg (gx.1 3 5 (by omega) (by omega)) (gy.1 100 21 (by omega) (by omega))⟩
theorem Sc.next {MX MY : eM} {p : Nat} (h : Sc MX MY B len p) : ∃ MY', fX11_scan MY = some MY' ∧ Sy MX MY' B len (tE B len p) ∧ FrS MY MY' := by
  obtain ⟨hp, hX, ⟨x4, -⟩, hY, t6, -⟩ := h
  exact jscan (tE_b (B := B) hp).2.2.1 hX x4 hY t6
theorem jMend (hc : pn_c cc) {MX MY : eM} {p : Nat} (h : Sc MX MY B len p) (hD : DR MX MY cc B) (hr : MX.2.2 3 3 = cc) : JO cc (ea_ci (fX2_readMender MX) (nx0 cE)) (ea_ci (ea_ci (fX11_readMended MY) (fun r M => ea_ck (ea_01 r) (some (r, M)))) (nx0 mcl)) MX MY (CL p (MX.1 cc 4) cc B len) := by
  have hcc : cc = 10 ∨ cc = 20 := hc
  obtain ⟨me, m0, m1, m2, m3, m4⟩ := hD.d2
  obtain ⟨b1, b2, b3, -⟩ := tE_b (B := B) h.1
  obtain ⟨hp, hX, ⟨x4, x7, x6⟩, hY, t6, t5, -⟩ := id h
  obtain ⟨MY1, q1, q2, q3⟩ := h.next
  unfold fX2_readMender fX2_readMender_0 fX11_readMended fX11_readMended_0
  rw [ev_lt_, ev_cll (k := 21) (by decide), m2, hr, m1, pn_is hc, ev_ck]
  by_cases hm : me < 3
  · have l3 : nI me < (3 : Int32) := by rw [show (3 : Int32) = nI 3 from rfl, pn_ltI (by omega) (by omega)]; exact hm
    have n3 : ¬ nI me = (3 : Int32) := by rw [show (3 : Int32) = nI 3 from rfl, pn_eqI (by omega) (by omega)]; omega
    rw [if_pos l3, if_neg n3, q1, ev_cv]
    have D1' := hD.cg hc (GRx.rf MX) q3.g
    -- the least YEAR
    have key : ∀ a, 1 ≤ a → a ≤ 1000 → (0 < me → ∃ x, x + 1 = a ∧ MX.1 (cc + 2) (me - 1) = nI x) → JO cc (ea_ci (fX2_readMender_40 (nI me) (nI a) MX) (nx0 cE)) (ea_ci (ea_ci (fX11_readMended_45 (nI me) (nI a) MY1) (fun r M => ea_ck (ea_01 r) (some (r, M)))) (nx0 mcl)) MX MY1 (CL p (MX.1 cc 4) cc B len) := by
      intro a a1 a2 a3
      have ck : ∀ {k : eM → Option (Int32 × eM)}, (∀ M, ∃ r M', k M = some (r, M') ∧ (r = 0 ∨ r = 1)) → ∀ q : Option (Int32 × eM), (∃ r M', q = some (r, M') ∧ (r = 0 ∨ r = 1)) → ea_ci (ea_ci q (nx0 k)) (fun r M => ea_ck (ea_01 r) (some (r, M))) = ea_ci q (nx0 k) := by
        intro k hk q hq
        obtain ⟨r, M, e, er⟩ := hq
        rw [e, ev_ci]
        unfold nx0
        by_cases hr0 : r = 0
        · rw [if_pos hr0]
          exact ck01 ⟨_, _, rfl, Or.inl rfl⟩
        · rw [if_neg hr0]
          exact ck01 (hk M)
      have jn := jnum (cc := cc) q2 (a := a) (b := 999) (x := nI a) (y := 999) rfl rfl (by omega) (by omega)
      have j01 : ∃ r M', fX11_readNumber (nI a) 999 MY1 = some (r, M') ∧ (r = 0 ∨ r = 1) := by
        rcases jn with ⟨A, C, u1, u2, -⟩ | ⟨A, C, u1, u2, -⟩
        · exact ⟨_, _, u2, Or.inl rfl⟩
        · exact ⟨_, _, u2, Or.inr rfl⟩
      have e45 : ea_ci (fX11_readMended_45 (nI me) (nI a) MY1) (fun r M => ea_ck (ea_01 r) (some (r, M))) = ea_ci (fX11_readNumber (nI a) 999 MY1) (nx0 (fun M3 => some (1, ea_pI (ea_pI M3 102 (25 + me) (M3.1 100 11)) 102 21 (((ea_pI M3 102 (25 + me) (M3.1 100 11)).1 102 21) + 1)))) := by
        unfold fX11_readMended_45
        rw [ev_ladd, show ea_len 102 = 28 from rfl, ev_ix (by omega) (by omega), ev_cl (by omega), ev_cll (k := 21) (by decide)]
        exact ck (k := fun M3 => some (1, ea_pI (ea_pI M3 102 (25 + me) (M3.1 100 11)) 102 21 (((ea_pI M3 102 (25 + me) (M3.1 100 11)).1 102 21) + 1))) (fun M => ⟨_, _, rfl, Or.inr rfl⟩) _ j01
      rw [e45]
      unfold fX2_readMender_40
      show JO cc (ea_ci (ea_ci (fX2_readNumber (nI a) 999 MX) (nx0 _)) (nx0 cE)) _ MX MY1 _
      rw [ci_nx, ci_nx]
      refine jn.bind ?_
      rintro MX2 MY2 ⟨s1, s2, s3, s4, z, z1, z2, z3, z4⟩ - -
      have er2 : MX2.2.2 3 3 = cc := by rw [s3.2.2]; exact hr
      have er3 : ∀ k y, (ea_pI MX2 (cc + 2) k y).2.2 3 3 = cc := fun k y => er2
      have m1' : MX2.1 cc 6 = nI me := by rw [s3.1 _ _ (by omega)]; exact m1
      have m2' : MY2.1 102 21 = nI me := by rw [s4.1 _ _ (by omega), q3.1 _ _ (by omega)]; exact m2
      have D2' := D1'.cg hc s3 s4
      rw [er2, pn_is hc, ev_ck, pn_l2 hc, ev_ix (by omega) (by omega), ev_ck, er3, pn_is hc, ev_ck, ev_cl (by omega), ea_pI_ne (by omega), ea_pI_ne (by omega), m1', m2', ev_ci, ev_ci, z3, z4, show nI me + 1 = nI (me + 1) from nI_add me 1]
      show JO cc (nx0 cE 1 _) (nx0 mcl 1 _) MX2 MY2 _
      unfold nx0
      rw [if_neg (by decide), if_neg (by decide)]
      have xx : ∀ c k, (c ≠ cc + 2 ∨ k ≠ me) → (c ≠ cc ∨ k ≠ 6) → (ea_pI (ea_pI MX2 (cc + 2) me (nI z)) cc 6 (nI (me + 1))).1 c k = MX2.1 c k := fun c k h1 h2 => by rw [ea_pI_ne (by omega), ea_pI_ne (by omega)]
      have yy : ∀ c k, (c ≠ 102 ∨ (k ≠ 25 + me ∧ k ≠ 21)) → (ea_pI (ea_pI MY2 102 (25 + me) (nI z)) 102 21 (nI (me + 1))).1 c k = MY2.1 c k := fun c k h1 => by rw [ea_pI_ne (by omega), ea_pI_ne (by omega)]
      have fx : FDx cc MX2 (ea_pI (ea_pI MX2 (cc + 2) me (nI z)) cc 6 (nI (me + 1))) := ((FDx.rf cc MX2).pI (by omega)).pI (by omega)
      have fy : FDy MY2 (ea_pI (ea_pI MY2 102 (25 + me) (nI z)) 102 21 (nI (me + 1))) := ((FDy.rf MY2).pI (by unfold rgY; omega)).pI (by unfold rgY; omega)
      refine (jend hc (s1.put hc fx (xx _ _ (by omega) (by omega)) fy (fun k => yy _ _ (by omega)) rfl) ?_ (by omega) ((xx _ _ (by omega) (by omega)).trans (s3.1 _ _ (by omega)))).mv fx fy
      refine ⟨D2'.d0.cg (fun k _ => xx _ _ (by omega) (by omega)) (fun k _ _ => yy _ _ (by omega)), D2'.d1.cg (fun k => xx _ _ (by omega) (by omega)) (fun k _ => yy _ _ (by omega)), ⟨me + 1, by omega, ea_pI_eq, ea_pI_eq, fun k hk => ?_, fun k hk => ?_⟩,
        D2'.d3.cg (xx _ _ (by omega) (by omega)) (fun k => xx _ _ (by omega) (by omega)) (yy _ _ (by omega)) (fun k => yy _ _ (by omega)) (fun k => rfl) (fun k => rfl),
        D2'.d4.cg (xx _ _ (by omega) (by omega)) (fun k => xx _ _ (by omega) (by omega)) (fun k => xx _ _ (by omega) (by omega)) (yy _ _ (by omega)) (fun k => yy _ _ (by omega)) (fun k => yy _ _ (by omega)) (fun k => rfl) (fun k => rfl),
        D2'.d5.cg (xx _ _ (by omega) (by omega)) (fun k => xx _ _ (by omega) (by omega)) (yy _ _ (by omega)) (fun k => yy _ _ (by omega)) (fun k => rfl) (fun k => rfl),
        D2'.d6.cg (xx _ _ (by omega) (by omega)) (yy _ _ (by omega))⟩
      · by_cases ek : k = me
        · subst ek
          exact ⟨z, by omega, z2, by rw [ea_pI_ne (by omega), ea_pI_eq], by rw [ea_pI_ne (by omega), ea_pI_eq]⟩
        · refine (m3 k (by omega)).cg ?_ ?_
          · rw [xx _ _ (by omega) (by omega), s3.1 _ _ (by omega)]
          · rw [yy _ _ (by omega), s4.1 _ _ (by omega), q3.1 _ _ (by omega)]
      · by_cases ek : k + 1 = me
        · obtain ⟨x, hx1, hx2⟩ := a3 (by omega)
          rw [xx _ _ (by omega) (by omega), s3.1 _ _ (by omega), show k = me - 1 by omega, hx2, show me - 1 + 1 = me by omega, ea_pI_ne (by omega), ea_pI_eq, nI_clamp (by omega), nI_clamp (by omega)]
          omega
        · rw [xx _ _ (by omega) (by omega), xx _ _ (by omega) (by omega), s3.1 _ _ (by omega), s3.1 _ _ (by omega)]
          exact m4 k (by omega)
    by_cases h0 : me = 0
    · subst h0
      rw [if_pos (show nI 0 = (0 : Int32) from rfl), if_pos (show nI 0 = (0 : Int32) from rfl)]
      exact (key 1 (by omega) (by omega) (fun h => by omega)).mv (FDx.rf cc MX) q3.g.d
    · obtain ⟨x, x1, x2, x3, x5⟩ := m3 (me - 1) (by omega)
      have n0 : ¬ nI me = (0 : Int32) := by rw [show (0 : Int32) = nI 0 from rfl, pn_eqI (by omega) (by omega)]; exact h0
      rw [if_neg n0, if_neg n0, ev_ck, ev_ladd, show nI me - 1 = nI (me - 1) from ev_sub (b := 1) (by omega), show nI (25 + me) - 1 = nI (25 + me - 1) from ev_sub (b := 1) (by omega), pn_l2 hc, show ea_len 102 = 28 from rfl, ev_ix (by omega) (by omega), ev_ix (by omega) (by omega), ev_ck, ev_ck, ev_cl (by omega), ev_cl (by omega), x3, show 25 + me - 1 = 25 + (me - 1) by omega, q3.1 _ _ (by omega), x5, show nI x + 1 = nI (x + 1) from nI_add x 1]
      exact (key (x + 1) (by omega) (by omega) (fun _ => ⟨x, rfl, x3⟩)).mv (FDx.rf cc MX) q3.g.d
  · have e3 : me = 3 := by omega
    rw [if_neg (by rw [show (3 : Int32) = nI 3 from rfl, pn_ltI (by omega) (by omega)]; exact hm), if_pos (by rw [e3]; rfl), ckr, ckf, ckf, ci_fail]
    obtain ⟨A, C, a1, a2, a3, a4, a5⟩ := jfail (MX := MX) (MY := MY) 4 x7 t5
    exact Or.inl ⟨A, C, by rw [a1, ev_ci]; exact if_pos rfl, a2, a3, a4.d, a5.d⟩
end BR
