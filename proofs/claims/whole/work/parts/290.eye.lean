section EY
variable {B : Nat → Nat} {len cc : Nat}
def eyX (s : Nat) (M : eM) : Option (Int32 × eM) := ea_ci (fX2_readEye_42 fX2_readEye_60 fX2_readEye_104 (100000 - s) (nI s) M) (nx0 cE)
def eyY (ey s : Nat) (M : eM) : Option (Int32 × eM) := ea_ci (fX11_readEye_86 fX11_readEye_107 fX11_readEye_152 (100000 - 3 * s) (nI ey) (nI (3 * s)) M) (nx2 mcl)
def eyR (ey s i : Nat) (M : eM) : Option (Int32 × eM) := ea_ci (if i = 3 then fX11_readEye_86 fX11_readEye_107 fX11_readEye_152 (100000 - 3 * s - 3) (nI ey) (nI (3 * s + 3)) M else fX11_readEye_117 (fX11_readEye_86 fX11_readEye_107 fX11_readEye_152 (100000 - 3 * s - (i + 1))) (nI ey) (nI (3 * s + i)) M) (nx2 mcl)
theorem eyD : ∀ s, s < 3 → (¬ (9 : Int32) ≤ nI (3 * s) ∧ nI (3 * s) - nI (3 * s) / 3 * 3 = 0) ∧ ∀ i, i < 3 → 0 < i → (¬ (9 : Int32) ≤ nI (3 * s + i) ∧ ¬ nI (3 * s + i) - nI (3 * s + i) / 3 * 3 = 0) := by decide +kernel
theorem eyR_n (ey s i : Nat) (hs : s < 3) (hi : i < 3) (M : eM) : ea_ci (fX11_readEye_86 fX11_readEye_107 fX11_readEye_152 (100000 - 3 * s - (i + 1)) (nI ey) (nI (3 * s + (i + 1))) M) (nx2 mcl) = eyR ey s (i + 1) M := by
  unfold eyR
  by_cases h : i + 1 = 3
  · rw [if_pos h, h]
  · obtain ⟨d1, d2⟩ := (eyD s hs).2 (i + 1) (by omega) (by omega)
    rw [if_neg h, show 100000 - 3 * s - (i + 1) = (100000 - 3 * s - (i + 1 + 1)) + 1 by omega, fX11_readEye_86, if_neg d1, if_neg d2]
theorem eyR_s (ey s i : Nat) (M : eM) (hs : s < 3) (hi : i < 3) (he : ey < 2) : eyR ey s i M = ea_ci (fX11_readNumber (nI 0) (nI 9) M) (nx0 (fun M => eyR ey s (i + 1) (ea_pI M 109 (18 + 9 * ey + 3 * s + i) (M.1 100 11)))) := by
  have nx : (fun M => eyR ey s (i + 1) (ea_pI M 109 (18 + 9 * ey + 3 * s + i) (M.1 100 11))) = (fun M => ea_ci (fX11_readEye_86 fX11_readEye_107 fX11_readEye_152 (100000 - 3 * s - (i + 1)) (nI ey) (nI (3 * s + (i + 1))) (ea_pI M 109 (18 + 9 * ey + 3 * s + i) (M.1 100 11))) (nx2 mcl)) := by
    funext M
    rw [eyR_n ey s i hs hi]
  rw [nx]
  unfold eyR
  rw [if_neg (by omega : ¬ i = 3)]
  unfold fX11_readEye_117
  rw [ev_ladd, show (9 : Int32) * nI (2 + ey) = nI (9 * (2 + ey)) from pk_mul 9 (2 + ey), ev_add, show ea_len 109 = 36 from rfl, ev_ix (by omega) (by omega), ev_cl (by omega), show 9 * (2 + ey) + (3 * s + i) = 18 + 9 * ey + 3 * s + i by omega, show nI (3 * s + i) + 1 = nI (3 * s + (i + 1)) from nI_add (3 * s + i) 1]
  exact ci_n2
theorem jEye (hc : pn_c cc) {MX MY : eM} {p : Nat} (h : Sc MX MY B len p) (hD : DR MX MY cc B) (hr : MX.2.2 3 3 = cc) : JO cc (ea_ci (fX2_readEye MX) (nx0 cE)) (ea_ci (fX11_readEye MY) (nx2 mcl)) MX MY (CL p (MX.1 cc 4) cc B len) := by
  have hcc : cc = 10 ∨ cc = 20 := hc
  have l8 : ea_len (cc + 8) = 2 := by rcases hcc with e | e <;> rw [e] <;> rfl
  have l9 : ea_len (cc + 9) = 18 := by rcases hcc with e | e <;> rw [e] <;> rfl
  obtain ⟨ey, m0, m1, m2, m3, m4⟩ := hD.d5
  obtain ⟨b1, b2, b3, -⟩ := tE_b (B := B) h.1
  obtain ⟨hp, hX, ⟨x4, x7, x6⟩, hY, t6, t5, -⟩ := id h
  obtain ⟨MY1, q1, q2, q3⟩ := h.next
  unfold fX2_readEye fX2_readEye_0 fX11_readEye fX11_readEye_0
  rw [ev_lt_, ev_cll (k := 20) (by decide), m2, hr, m1, pn_is hc, ev_ck]
  by_cases hm : ey < 2
  · have c5 : nI ey < (2 : Int32) := by rw [show (2 : Int32) = nI 2 from rfl, pn_ltI (by omega) (by omega)]; exact hm
    have n5 : ¬ nI ey = (2 : Int32) := by rw [show (2 : Int32) = nI 2 from rfl, pn_eqI (by omega) (by omega)]; omega
    rw [if_pos c5, if_neg n5, q1, ev_cv, ev_ck, ev_ck, ci_ite, ckf, ci_f2]
    have D1' := hD.cg hc (GRx.rf MX) q3.g
    refine JO.mv (MX1 := MX) (MY1 := MY1) ?_ (FDx.rf cc MX) q3.g.d
    show JO cc (ea_ci (ea_ci (fX2_readName (cc + 8) (nI ey) MX) (nx0 (fun M7 => fX2_readEye_42 fX2_readEye_60 fX2_readEye_104 ea_N 0 M7))) (nx0 cE)) _ MX MY1 _
    rw [ci_nx]
    refine nameG hc (a := cc + 8) (b := 105) (k := ey) (N := 2) (LY := fun f x1 x2 M => ea_ci (fX11_readEye_39 fX11_readEye_58 fX11_readEye_70 f x1 x2 M) (nx2 mcl)) (k58 := fun M => ea_ci (fX11_readEye_58 M) (nx2 mcl)) (k70 := fun x M => ea_ci (fX11_readEye_70 x M) (nx2 mcl)) (RY := fun M3 => eyY ey 0 M3) (by omega) (by omega) l8 rfl hm (by omega) ?_ ?_ ?_ ?_ (m3.cg (fun _ => rfl) (fun i => q3.2.1 _ _ (by omega))) q2
    · intro n x1 x2 M
      rw [fX11_readEye_39, ci_ite, ci_ck, ci_ite]
    · intro M
      unfold fX11_readEye_58
      rw [ckf, ci_f2]
    · intro M
      unfold fX11_readEye_70
      rw [ci_ck, ci_cv]
      rfl
    · intro MX2 MY2 s2 nm xx0 xl xr yy0 yl yr
      show JO cc (eyX 0 MX2) (eyY ey 0 MY2) MX2 MY2 _
      have r2 : MX2.2.2 3 3 = cc := by rw [xr]; exact hr
      have s8 : MX2.1 cc 15 = nI ey := by rw [xx0 _ _ (by omega)]; exact m1
      have s18 : MY2.1 102 20 = nI ey := by rw [yy0 _ _ (by omega), q3.1 _ _ (by omega)]; exact m2
      have hb2 := tE_b (B := B) (p := tE B len p) b3
      have lp : ∀ (d s p1 : Nat) (MX3 MY3 : eM), 3 - s = d → s ≤ 3 → Sy MX3 MY3 B len p1 → p ≤ p1 → (∀ k, k < 3 * s → ez MX3 (cc + 9) (9 * ey + k) MY3 109 (18 + (9 * ey + k)) 0 9) → GRX (cc + 9) (9 * ey) 9 MX2 MX3 → GRY 109 (18 + 9 * ey) 9 MY2 MY3 → JO cc (eyX s MX3) (eyY ey s MY3) MX3 MY3 (CL p (MX.1 cc 4) cc B len) := by
        intro d
        induction d with
        | zero =>
          intro s p1 MX3 MY3 hd hs s3 hp3 hv gx gy
          have e3 : s = 3 := by omega
          subst e3
          have r3 : MX3.2.2 3 3 = cc := by rw [gx.2.2]; exact r2
          have e8 : MX3.1 cc 15 = nI ey := by rw [gx.1 _ _ (by omega) (by omega)]; exact s8
          have e18 : MY3.1 102 20 = nI ey := by rw [gy.1 _ _ (by omega) (by omega)]; exact s18
          have eX : eyX 3 MX3 = cE (ea_pI MX3 cc 15 (nI (ey + 1))) := by
            unfold eyX
            show ea_ci (fX2_readEye_42 fX2_readEye_60 fX2_readEye_104 (99996 + 1) (nI 3) MX3) (nx0 cE) = _
            rw [fX2_readEye_42, if_pos (by decide)]
            unfold fX2_readEye_104
            rw [r3, pn_is hc, ev_ck, ev_ci, e8, show nI ey + 1 = nI (ey + 1) from nI_add ey 1]
            exact if_neg (by decide)
          have eY : eyY ey 3 MY3 = mcl (ea_pI MY3 102 20 (nI (ey + 1))) := by
            unfold eyY
            show ea_ci (fX11_readEye_86 fX11_readEye_107 fX11_readEye_152 (99990 + 1) (nI ey) (nI 9) MY3) (nx2 mcl) = _
            rw [fX11_readEye_86, if_pos (by decide)]
            unfold fX11_readEye_152
            rw [ev_cll (k := 20) (by decide), ev_ci, e18, show nI ey + 1 = nI (ey + 1) from nI_add ey 1, nx2_1]
          rw [eX, eY]
          have xx : ∀ c k, c ≠ 3 → (c ≠ cc + 9 ∨ k < 9 * ey) → (c ≠ cc ∨ k ≠ 15) → (ea_pI MX3 cc 15 (nI (ey + 1))).1 c k = MX.1 c k := fun c k h1 h2 h3 => by rw [ea_pI_ne (by omega), gx.1 _ _ (by omega) (by omega), xx0 _ _ (by omega)]
          have yy : ∀ c k, c ≠ 100 → (c ≠ 109 ∨ k < 18 + 9 * ey) → (c ≠ 102 ∨ k ≠ 20) → (ea_pI MY3 102 20 (nI (ey + 1))).1 c k = MY1.1 c k := fun c k h1 h2 h3 => by rw [ea_pI_ne (by omega), gy.1 _ _ (by omega) (by omega), yy0 _ _ (by omega)]
          have lx : ∀ c k, c ≠ 3 → c ≠ cc + 8 → MX3.2.1 c k = MX.2.1 c k := fun c k h1 h2 => by rw [gx.2.1 _ _ (by omega), xl _ _ (by omega) (by omega)]
          have ly : ∀ c k, c ≠ 100 → c ≠ 105 → MY3.2.1 c k = MY1.2.1 c k := fun c k h1 h2 => by rw [gy.2.1 _ _ (by omega), yl _ _ (by omega) (by omega)]
          have fx : FDx cc MX3 (ea_pI MX3 cc 15 (nI (ey + 1))) := (FDx.rf cc MX3).pI (by omega)
          have fy : FDy MY3 (ea_pI MY3 102 20 (nI (ey + 1))) := (FDy.rf MY3).pI (by unfold rgY; omega)
          refine (jend hc (s3.put hc fx (ea_pI_ne (by omega)) fy (fun k => ea_pI_ne (by omega)) rfl) ?_ (by omega) (xx _ _ (by omega) (by omega) (by omega))).mv fx fy
          refine ⟨D1'.d0.cg (fun k _ => xx _ _ (by omega) (by omega) (by omega)) (fun k _ _ => yy _ _ (by omega) (by omega) (by omega)), D1'.d1.cg (fun k => xx _ _ (by omega) (by omega) (by omega)) (fun k _ => yy _ _ (by omega) (by omega) (by omega)), D1'.d2.cg (xx _ _ (by omega) (by omega) (by omega)) (fun k => xx _ _ (by omega) (by omega) (by omega)) (yy _ _ (by omega) (by omega) (by omega)) (fun k _ => yy _ _ (by omega) (by omega) (by omega)),
            D1'.d3.cg (xx _ _ (by omega) (by omega) (by omega)) (fun k => xx _ _ (by omega) (by omega) (by omega)) (yy _ _ (by omega) (by omega) (by omega)) (fun k => yy _ _ (by omega) (by omega) (by omega)) (fun k => lx _ _ (by omega) (by omega)) (fun k => ly _ _ (by omega) (by omega)),
            D1'.d4.cg (xx _ _ (by omega) (by omega) (by omega)) (fun k => xx _ _ (by omega) (by omega) (by omega)) (fun k => xx _ _ (by omega) (by omega) (by omega)) (yy _ _ (by omega) (by omega) (by omega)) (fun k => yy _ _ (by omega) (by omega) (by omega)) (fun k => yy _ _ (by omega) (by omega) (by omega)) (fun k => lx _ _ (by omega) (by omega)) (fun k => ly _ _ (by omega) (by omega)),
            ⟨ey + 1, by omega, ea_pI_eq, ea_pI_eq, nm.cg (fun i => gx.2.1 _ _ (by omega)) (fun i => gy.2.1 _ _ (by omega)), fun k hk => ?_⟩,
            D1'.d6.cg (by rw [ea_pI_ne (by omega), gx.1 _ _ (by omega) (by omega), xx0 _ _ (by omega)]) (by rw [ea_pI_ne (by omega), gy.1 _ _ (by omega) (by omega), yy0 _ _ (by omega)])⟩
          by_cases ef : k < 9 * ey
          · exact (m4 k ef).cg (xx _ _ (by omega) (by omega) (by omega)) (by rw [yy _ _ (by omega) (by omega) (by omega), q3.1 _ _ (by omega)])
          · have := hv (k - 9 * ey) (by omega)
            rw [show 9 * ey + (k - 9 * ey) = k by omega] at this
            exact this.cg (ea_pI_ne (by omega)) (ea_pI_ne (by omega))
        | succ d ih =>
          intro s p1 MX3 MY3 hd hs s3 hp3 hv gx gy
          obtain ⟨MX4, r1, c4, g4⟩ := s3.adv
          obtain ⟨MY4, z1, z2, z3⟩ := c4.next
          have bb := tE_b (B := B) s3.1
          have sy7 := c4.says (a := 7) (by decide)
          have ky9 := c4.key (w := 9) (by decide)
          have ky9 : fX11_isKey 9 MY3 = _ := ky9
          obtain ⟨d1, d2⟩ := (eyD s (by omega)).1
          unfold eyX eyY
          rw [show 100000 - s = (100000 - (s + 1)) + 1 by omega, fX2_readEye_42, if_neg (by rw [show (3 : Int32) = nI 3 from rfl, pn_leI (by omega) (by omega)]; omega), r1, ev_cv, sy7, ev_ci, show 100000 - 3 * s = (100000 - 3 * s - 1) + 1 by omega, fX11_readEye_86, if_neg d1, if_pos d2, ky9, ev_ci]
          by_cases hk : tky B len p1 = some 9
          · have hk7 : tky B len p1 = some (cwx 7) := hk
            rw [if_pos hk7, if_neg (show ¬ (1 : Int32) = 0 by decide), if_pos hk, if_neg (show ¬ (1 : Int32) = 0 by decide), z1, ev_cv]
            have r4 : MX4.2.2 3 3 = cc := by rw [g4.2.2, gx.2.2]; exact r2
            have e4 : MX4.1 cc 15 = nI ey := by rw [g4.1 _ _ (by omega), gx.1 _ _ (by omega) (by omega)]; exact s8
            rw [r4, pn_is hc, ev_ck, ev_ck, e4, show nI ey * 9 = nI (ey * 9) from pk_mul ey 9, show nI s * 3 = nI (s * 3) from pk_mul s 3, ev_add, show ey * 9 + s * 3 = 9 * ey + 3 * s by omega, show nI s + 1 = nI (s + 1) from nI_add s 1]
            show JO cc (ea_ci (ea_ci (fX2_readRow (cc + 9) (nI (9 * ey + 3 * s)) 9 MX4) (nx0 (fun M12 => fX2_readEye_42 fX2_readEye_60 fX2_readEye_104 (100000 - (s + 1)) (nI (s + 1)) M12))) (nx0 cE)) _ MX3 MY3 _
            rw [ci_nx]
            refine JO.mv (MX1 := MX4) (MY1 := MY4) ?_ g4.d z3.g.d
            have a0 : ea_ci (fX2_readRow (cc + 9) (nI (9 * ey + 3 * s)) 9 MX4) (nx0 (fun M => ea_ci (fX2_readEye_42 fX2_readEye_60 fX2_readEye_104 (100000 - (s + 1)) (nI (s + 1)) M) (nx0 cE))) = rwX (cc + 9) (9 * ey + 3 * s) 9 (fun M => eyX (s + 1) M) 0 MX4 := rfl
            have a1 : ea_ci (fX11_readEye_117 (fX11_readEye_86 fX11_readEye_107 fX11_readEye_152 (100000 - 3 * s - 1)) (nI ey) (nI (3 * s)) MY4) (nx2 mcl) = eyR ey s 0 MY4 := by
              unfold eyR
              rw [if_neg (by decide), Nat.zero_add, Nat.add_zero]
            rw [a0, a1]
            refine rowG hc (ca := cc + 9) (ka := 9 * ey + 3 * s) (cb := 109) (kb := 18 + 9 * ey + 3 * s) (N := 3) (lo := fun _ => 0) (hi := fun _ => 9) (by omega) (fun k hk => by unfold rgY; omega) (by decide) (fun _ _ => by decide) (fun i M hi => rwX_s l9 (by omega) (by omega) i M hi) (fun i M hi => eyR_s ey s i M (by omega) hi hm) (fun i M hi _ => rfl) (fun i M hi _ => rfl) ?_ z2
            intro MX5 MY5 p5 s5 hp5 hv5 gx5 gy5
            rw [rwX_e (by omega)]
            have a3 : eyR ey s 3 MY5 = eyY ey (s + 1) MY5 := by
              unfold eyR eyY
              rw [if_pos rfl, show 100000 - 3 * s - 3 = 100000 - 3 * (s + 1) by omega, show 3 * s + 3 = 3 * (s + 1) by omega]
            rw [a3]
            refine ih (s + 1) p5 MX5 MY5 (by omega) (by omega) s5 (by omega) ?_ ?_ ?_
            · intro k hk2
              by_cases hk3 : k < 3 * s
              · refine (hv k hk3).cg ?_ ?_
                · rw [gx5.1 _ _ (by omega) (by omega), g4.1 _ _ (by omega)]
                · rw [gy5.1 _ _ (by omega) (by omega), z3.1 _ _ (by omega)]
              · have := hv5 (k - 3 * s) (by omega)
                rw [show 9 * ey + 3 * s + (k - 3 * s) = 9 * ey + k by omega, show 18 + 9 * ey + 3 * s + (k - 3 * s) = 18 + (9 * ey + k) by omega] at this
                exact this
            · exact ⟨fun c k h1 h2 => by rw [gx5.1 _ _ h1 (by omega), g4.1 _ _ h1]; exact gx.1 _ _ h1 h2, fun c k h1 => by rw [gx5.2.1 _ _ h1, g4.2.1 _ _ h1]; exact gx.2.1 _ _ h1, by rw [gx5.2.2, g4.2.2]; exact gx.2.2⟩
            · exact ⟨fun c k h1 h2 => by rw [gy5.1 _ _ h1 (by omega), z3.g.1 _ _ h1]; exact gy.1 _ _ h1 h2, fun c k h1 => by rw [gy5.2.1 _ _ h1, z3.2.1 _ _ h1]; exact gy.2.1 _ _ h1, by rw [gy5.2.2, z3.2.2]; exact gy.2.2⟩
          · have hk7 : ¬ tky B len p1 = some (cwx 7) := hk
            rw [if_neg hk7, if_pos rfl, if_neg hk, if_pos rfl]
            unfold fX2_readEye_60 fX11_readEye_107
            rw [ckr, ckf, ci_f2]
            obtain ⟨A, C, a1, a2, a3, a4, a5⟩ := jfail (MX := MX4) (MY := MY3) 1 c4.2.2.1.2.1 s3.2.2.2.2.2.1
            exact Or.inl ⟨A, C, by rw [a1, ev_ci]; exact if_pos rfl, a2, a3, (g4.w.trans a4).d, a5.d⟩
      exact lp 3 0 _ MX2 MY2 rfl (by omega) s2 (by omega) (fun k hk => by omega) ⟨fun _ _ _ _ => rfl, fun _ _ _ => rfl, rfl⟩ ⟨fun _ _ _ _ => rfl, fun _ _ _ => rfl, rfl⟩
  · have e5 : ey = 2 := by omega
    have c5 : ¬ nI ey < (2 : Int32) := by rw [show (2 : Int32) = nI 2 from rfl, pn_ltI (by omega) (by omega)]; exact hm
    rw [if_neg c5, if_pos (by rw [e5]; rfl), ckr, ckf, ci_f2]
    obtain ⟨A, C, a1, a2, a3, a4, a5⟩ := jfail (MX := MX) (MY := MY) 4 x7 t5
    exact Or.inl ⟨A, C, by rw [a1, ev_ci]; exact if_pos rfl, a2, a3, a4.d, a5.d⟩
end EY
