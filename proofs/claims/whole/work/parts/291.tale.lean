section TL
variable {B : Nat → Nat} {len cc : Nat}
theorem ta23 : ∀ i, i < 4 → (ea_ta.getD 2 []).getD i 0 = nI (hgl i) ∧ (ea_ta.getD 3 []).getD i 0 = nI (hgh i) ∧ hgl i < 2 ^ 31 ∧ hgh i < 2 ^ 31 := by decide +kernel
def hgX (pl : Nat) (KE : eM → Option (Int32 × eM)) (i : Nat) (M : eM) : Option (Int32 × eM) := ea_ci (fX2_readHang_14 (100000 - i) (nI pl) (nI i) M) (nx0 KE)
def hkX (pl : Nat) (KE : eM → Option (Int32 × eM)) (i : Nat) (M : eM) : Option (Int32 × eM) := ea_ci (ea_ck (ea_is (M.2.2 3 3) 1) (ea_ck (ea_ix (nI pl + nI i) (ea_len (M.2.2 3 3 + 7))) (fX2_readHang_14 (100000 - (i + 1)) (nI pl) (nI (i + 1)) (ea_pI M (M.2.2 3 3 + 7) ((nI pl + nI i).toNatClampNeg) (M.1 3 8))))) (nx0 KE)
theorem hgX_s (pl : Nat) (KE : eM → Option (Int32 × eM)) (i : Nat) (M : eM) (hi : i < 4) : hgX pl KE i M = ea_ci (fX2_readNumber (nI (hgl i)) (nI (hgh i)) M) (nx0 (hkX pl KE i)) := by
  obtain ⟨t1, t2, -⟩ := ta23 i hi
  unfold hgX
  rw [show 100000 - i = (100000 - (i + 1)) + 1 by omega, fX2_readHang_14, if_neg (by rw [show (4 : Int32) = nI 4 from rfl, pn_leI (by omega) (by omega)]; omega), ev_ix (by omega) (by omega), ev_ck, ev_ck, ev_cl (by omega), t1, t2, show nI i + 1 = nI (i + 1) from nI_add i 1]
  exact ci_nx
theorem hgX_e (pl : Nat) (KE : eM → Option (Int32 × eM)) (M : eM) : hgX pl KE 4 M = KE M := by
  unfold hgX
  show ea_ci (fX2_readHang_14 (99995 + 1) (nI pl) (nI 4) M) (nx0 KE) = KE M
  rw [fX2_readHang_14, if_pos (by decide), ev_ci]
  exact if_neg (by decide)
def hgY (tl h : Nat) (K : Int32 → Int32 → eM → Option (Int32 × eM)) (i : Nat) (M : eM) : Option (Int32 × eM) := ea_ci (fX11_readStory_132 K (100000 - i) (nI tl) (nI h) (nI i) M) (nx2 mcl)
def hkY (tl h : Nat) (K : Int32 → Int32 → eM → Option (Int32 × eM)) (i : Nat) (M : eM) : Option (Int32 × eM) := ea_ci (fX11_readStory_185 (fX11_readStory_132 K (100000 - (i + 1))) (nI tl) (nI h) (nI i) M) (nx2 mcl)
theorem hgY_s (tl h : Nat) (K : Int32 → Int32 → eM → Option (Int32 × eM)) (i : Nat) (M : eM) (hi : i < 4) : hgY tl h K i M = ea_ci (fX11_readNumber (nI (hgl i)) (nI (hgh i)) M) (nx0 (hkY tl h K i)) := by
  unfold hgY
  rw [show 100000 - i = (100000 - (i + 1)) + 1 by omega, fX11_readStory_132]
  rcases (show i = 0 ∨ i = 1 ∨ i = 2 ∨ i = 3 by omega) with e | e | e | e <;> subst e
  · rw [if_neg (show ¬ (4 : Int32) ≤ nI 0 by decide), if_pos (show nI 0 = (0 : Int32) from rfl)]
    exact ci_n2
  · rw [if_neg (show ¬ (4 : Int32) ≤ nI 1 by decide), if_neg (show ¬ nI 1 = (0 : Int32) by decide), if_neg (show ¬ nI 1 = (3 : Int32) by decide)]
    exact ci_n2
  · rw [if_neg (show ¬ (4 : Int32) ≤ nI 2 by decide), if_neg (show ¬ nI 2 = (0 : Int32) by decide), if_neg (show ¬ nI 2 = (3 : Int32) by decide)]
    exact ci_n2
  · rw [if_neg (show ¬ (4 : Int32) ≤ nI 3 by decide), if_neg (show ¬ nI 3 = (0 : Int32) by decide), if_pos (show nI 3 = (3 : Int32) from rfl)]
    exact ci_n2
theorem hgY_e (tl h : Nat) (k86 : Int32 → Int32 → eM → Option (Int32 × eM)) (M : eM) : hgY tl h (fX11_readStory_212 k86) 4 M = ea_ci (k86 (nI tl) (nI (h + 1)) M) (nx2 mcl) := by
  unfold hgY
  show ea_ci (fX11_readStory_132 (fX11_readStory_212 k86) (99995 + 1) (nI tl) (nI h) (nI 4) M) (nx2 mcl) = _
  rw [fX11_readStory_132, if_pos (by decide)]
  unfold fX11_readStory_212
  rw [show nI h + 1 = nI (h + 1) from nI_add h 1]
def tkE (f h : Nat) (M8 : eM) : Option (Int32 × eM) := ea_cv (fX2_advance M8) (fun M11 => fX2_readTale_46 fX2_readTale_81 f (nI (h + 1)) M11)
def tl86 (g : Nat) : Int32 → Int32 → eM → Option (Int32 × eM) := fX11_readStory_86 fX11_readStory_108 fX11_readStory_120 fX11_readStory_218 g
theorem jTale (hc : pn_c cc) {MX MY : eM} {p : Nat} (h : Sc MX MY B len p) (hD : DR MX MY cc B) (hr : MX.2.2 3 3 = cc) : JO cc (fX2_readTale MX) (ea_ci (fX11_readStory MY) (nx2 mcl)) MX MY (CL p (MX.1 cc 4) cc B len) := by
  have hcc : cc = 10 ∨ cc = 20 := hc
  have l5 : ea_len (cc + 5) = 4 := by rcases hcc with e | e <;> rw [e] <;> rfl
  obtain ⟨tl, m0, m1, m2, m3, m4⟩ := hD.d4
  obtain ⟨b1, b2, b3, -⟩ := tE_b (B := B) h.1
  obtain ⟨hp, hX, ⟨x4, x7, x6⟩, hY, t6, t5, -⟩ := id h
  obtain ⟨MY1, q1, q2, q3⟩ := h.next
  unfold fX2_readTale fX2_readTale_0 fX11_readStory fX11_readStory_0
  rw [ev_lt_, ev_cll (k := 19) (by decide), m2, hr, m1, pn_is hc, ev_ck]
  by_cases hm : tl < 4
  · have c5 : nI tl < (4 : Int32) := by rw [show (4 : Int32) = nI 4 from rfl, pn_ltI (by omega) (by omega)]; exact hm
    have n5 : ¬ nI tl = (4 : Int32) := by rw [show (4 : Int32) = nI 4 from rfl, pn_eqI (by omega) (by omega)]; omega
    rw [if_pos c5, if_neg n5, q1, ev_cv, ev_ck, ev_ck, ci_ite, ckf, ci_f2]
    have D1' := hD.cg hc (GRx.rf MX) q3.g
    refine JO.mv (MX1 := MX) (MY1 := MY1) ?_ (FDx.rf cc MX) q3.g.d
    show JO cc (ea_ci (fX2_readName (cc + 5) (nI tl) MX) (nx0 (fun M7 => ea_cv (fX2_advance M7) (fun M10 => fX2_readTale_46 fX2_readTale_81 ea_N (nI 0) M10)))) _ MX MY1 _
    refine nameG hc (a := cc + 5) (b := 104) (k := tl) (N := 4) (LY := fun f x1 x2 M => ea_ci (fX11_readStory_39 fX11_readStory_58 fX11_readStory_70 f x1 x2 M) (nx2 mcl)) (k58 := fun M => ea_ci (fX11_readStory_58 M) (nx2 mcl)) (k70 := fun x M => ea_ci (fX11_readStory_70 x M) (nx2 mcl)) (RY := fun M3 => ea_ci (tl86 ea_N (nI tl) (nI 0) M3) (nx2 mcl)) (by omega) (by omega) l5 rfl hm (by omega) ?_ ?_ ?_ ?_ (m3.cg (fun _ => rfl) (fun i => q3.2.1 _ _ (by omega))) q2
    · intro n x1 x2 M
      rw [fX11_readStory_39, ci_ite, ci_ck, ci_ite]
    · intro M
      unfold fX11_readStory_58
      rw [ckf, ci_f2]
    · intro M
      unfold fX11_readStory_70
      rw [ci_ck, ci_cv]
      rfl
    · intro MX2 MY2 s2 nm xx0 xl xr yy0 yl yr
      have r2 : MX2.2.2 3 3 = cc := by rw [xr]; exact hr
      have s8 : MX2.1 cc 11 = nI tl := by rw [xx0 _ _ (by omega)]; exact m1
      have s18 : MY2.1 102 19 = nI tl := by rw [yy0 _ _ (by omega), q3.1 _ _ (by omega)]; exact m2
      -- no more hangs
      have endT : ∀ (hh p1 f g : Nat) (MX3 MY3 : eM), hh ≤ 6 → 0 < f → 0 < g → Sc MX3 MY3 B len p1 → p ≤ p1 → (∀ i j, i < hh → j < 4 → ez MX3 (cc + 7) (4 * (6 * tl + i) + j) MY3 108 (96 + (4 * (6 * tl + i) + j)) (hgl j) (hgh j)) → GRX (cc + 7) (24 * tl) 24 MX2 MX3 → GRY 108 (96 + 24 * tl) 24 MY2 MY3 → (¬ tky B len p1 = some 8 ∨ hh = 6) → JO cc (fX2_readTale_46 fX2_readTale_81 f (nI hh) MX3) (ea_ci (tl86 g (nI tl) (nI hh) MY3) (nx2 mcl)) MX3 MY3 (CL p (MX.1 cc 4) cc B len) := by
        intro hh p1 f g MX3 MY3 hh6 hf hg s3 hp3 hv gx gy hor
        obtain ⟨f, rfl⟩ : ∃ f', f = f' + 1 := ⟨f - 1, by omega⟩
        obtain ⟨g, rfl⟩ : ∃ g', g = g' + 1 := ⟨g - 1, by omega⟩
        have sy9 := s3.says (a := 9) (by decide)
        have ky8 := s3.key (w := 8) (by decide)
        have ky8 : fX11_isKey 8 MY3 = _ := ky8
        obtain ⟨bb1, bb2, bb3, bb4, bb5, -⟩ := tE_b (B := B) s3.1
        have hms := ms_eq _ bb4
        obtain ⟨s3p, s3X, ⟨y4, y7, y6⟩, s3Y, u6, u5, u3, -⟩ := id s3
        have r3 : MX3.2.2 3 3 = cc := by rw [gx.2.2]; exact r2
        have e8 : MX3.1 cc 11 = nI tl := by rw [gx.1 _ _ (by omega) (by omega)]; exact s8
        have e18 : MY3.1 102 19 = nI tl := by rw [gy.1 _ _ (by omega) (by omega)]; exact s18
        unfold tl86
        rw [fX2_readTale_46, sy9, ev_ci, fX11_readStory_86]
        by_cases hk : tky B len p1 = some 8
        · have h6 : hh = 6 := by
            rcases hor with z | z
            · exact absurd hk z
            · exact z
          subst h6
          have hk9 : tky B len p1 = some (cwx 9) := hk
          rw [if_pos hk9, if_neg (show ¬ (1 : Int32) = 0 by decide), if_pos (show (6 : Int32) ≤ nI 6 by decide)]
          unfold fX2_readTale_81
          rw [sy9, ev_ci, if_pos hk9, if_neg (show ¬ (1 : Int32) = 0 by decide), ckr, if_neg (show ¬ nI 6 = (0 : Int32) by decide), ky8, ev_ci, if_pos hk, if_neg (show ¬ (1 : Int32) = 0 by decide)]
          unfold fX11_readStory_99
          rw [ky8, ev_ci, if_pos hk, if_neg (show ¬ (1 : Int32) = 0 by decide), if_pos (show nI 6 = (6 : Int32) from rfl)]
          unfold fX11_readStory_120
          rw [ckf, ci_f2]
          exact JO.fail 4 y7 u5
        · have hk9 : ¬ tky B len p1 = some (cwx 9) := hk
          rw [if_neg hk9, if_pos rfl]
          by_cases h0 : hh = 0
          · subst h0
            unfold fX2_readTale_81
            rw [sy9, ev_ci, if_neg hk9, if_pos rfl, if_pos (show nI 0 = (0 : Int32) from rfl), if_pos (show nI 0 = (0 : Int32) from rfl)]
            unfold fX2_readTale_108 fX11_readStory_99
            rw [ckr, ky8, ev_ci, if_neg hk, if_pos rfl]
            unfold fX11_readStory_108
            rw [ckf, ci_f2]
            exact JO.fail 1 y7 u5
          · have n0 : ¬ nI hh = (0 : Int32) := by rw [show (0 : Int32) = nI 0 from rfl, pn_eqI (by omega) (by omega)]; exact h0
            have eY : ea_ci (fX11_readStory_218 (nI tl) (nI hh) MY3) (nx2 mcl) = mcl (ea_pI (ea_pI MY3 107 (4 + tl) (nI hh)) 102 19 (nI (tl + 1))) := by
              unfold fX11_readStory_218
              rw [ev_ladd, show ea_len 107 = 8 from rfl, ev_ix (by omega) (by omega), ev_ck, ev_ci, nx2_1, ev_cl (by omega), ev_cll (k := 19) (by decide), ea_pI_ne (by omega), e18, show nI tl + 1 = nI (tl + 1) from nI_add tl 1]
            rw [if_neg n0, ky8, ev_ci, if_neg hk, if_pos rfl, eY]
            have fy : FDy MY3 (ea_pI (ea_pI MY3 107 (4 + tl) (nI hh)) 102 19 (nI (tl + 1))) := ((FDy.rf MY3).pI (by unfold rgY; omega)).pI (by unfold rgY; omega)
            have fq : ∀ k, (ea_pI (ea_pI MY3 107 (4 + tl) (nI hh)) 102 19 (nI (tl + 1))).1 100 k = MY3.1 100 k := fun k => by rw [ea_pI_ne (by omega), ea_pI_ne (by omega)]
            unfold fX2_readTale_81
            rw [sy9, ev_ci, if_neg hk9, if_pos rfl, if_neg n0, y6]
            unfold mcl
            rw [fq, u3]
            by_cases hk3 : tK B len p1 = 3
            · rw [if_pos (show nI (tK B len p1) = (3 : Int32) by rw [hk3]; rfl), if_pos (show nI (ms (tK B len p1)) = (3 : Int32) by rw [hms.2.2.1.mpr hk3]; rfl)]
              have er3 : ∀ k y, (ea_pI MX3 (cc + 6) k y).2.2 3 3 = cc := fun k y => r3
              rw [r3, e8, pn_is hc, ev_ck, ev_ck, pn_l6 hc, ev_ix (by omega) (by omega), ev_ck, er3, pn_is hc, ev_ck, ev_cl (by omega), ea_pI_ne (by omega), e8, show nI tl + 1 = nI (tl + 1) from nI_add tl 1]
              have fx : FDx cc MX3 (ea_pI (ea_pI MX3 (cc + 6) tl (nI hh)) cc 11 (nI (tl + 1))) := ((FDx.rf cc MX3).pI (by omega)).pI (by omega)
              obtain ⟨MY4, z1, z2, z3⟩ := jscan (MX := ea_pI (ea_pI MX3 (cc + 6) tl (nI hh)) cc 11 (nI (tl + 1))) (p := tE B len p1) bb3 (s3X.d hc fx) (by rw [ea_pI_ne (by omega), ea_pI_ne (by omega)]; exact y4) (s3Y.d fy) (by rw [fq]; exact u6)
              rw [z1, ev_cv]
              have xx : ∀ c k, c ≠ 3 → (c ≠ cc + 7 ∨ k < 24 * tl) → (c ≠ cc ∨ k ≠ 11) → (c ≠ cc + 6 ∨ k ≠ tl) → (ea_pI (ea_pI MX3 (cc + 6) tl (nI hh)) cc 11 (nI (tl + 1))).1 c k = MX.1 c k := fun c k h1 h2 h3 h4 => by rw [ea_pI_ne (by omega), ea_pI_ne (by omega), gx.1 _ _ (by omega) (by omega), xx0 _ _ (by omega)]
              have yy : ∀ c k, c ≠ 100 → (c ≠ 108 ∨ k < 96 + 24 * tl) → (c ≠ 102 ∨ k ≠ 19) → (c ≠ 107 ∨ k ≠ 4 + tl) → MY4.1 c k = MY1.1 c k := fun c k h1 h2 h3 h4 => by rw [z3.1 _ _ (by omega), ea_pI_ne (by omega), ea_pI_ne (by omega), gy.1 _ _ (by omega) (by omega), yy0 _ _ (by omega)]
              have lx : ∀ c k, c ≠ 3 → c ≠ cc + 5 → MX3.2.1 c k = MX.2.1 c k := fun c k h1 h2 => by rw [gx.2.1 _ _ (by omega), xl _ _ (by omega) (by omega)]
              have ly : ∀ c k, c ≠ 100 → c ≠ 104 → MY4.2.1 c k = MY1.2.1 c k := fun c k h1 h2 => by
                rw [z3.2.1 _ _ (by omega)]
                show MY3.2.1 c k = _
                rw [gy.2.1 _ _ (by omega), yl _ _ (by omega) (by omega)]
              have bb6 := bb5 (by omega)
              refine Or.inr ⟨_, MY4, rfl, rfl, ⟨⟨tE B len p1, by omega, z2⟩, ?_, xx _ _ (by omega) (by omega) (by omega) (by omega)⟩, fx, fy.trans z3.g.d⟩
              refine ⟨D1'.d0.cg (fun k _ => xx _ _ (by omega) (by omega) (by omega) (by omega)) (fun k _ _ => yy _ _ (by omega) (by omega) (by omega) (by omega)), D1'.d1.cg (fun k => xx _ _ (by omega) (by omega) (by omega) (by omega)) (fun k _ => yy _ _ (by omega) (by omega) (by omega) (by omega)), D1'.d2.cg (xx _ _ (by omega) (by omega) (by omega) (by omega)) (fun k => xx _ _ (by omega) (by omega) (by omega) (by omega)) (yy _ _ (by omega) (by omega) (by omega) (by omega)) (fun k _ => yy _ _ (by omega) (by omega) (by omega) (by omega)),
                D1'.d3.cg (xx _ _ (by omega) (by omega) (by omega) (by omega)) (fun k => xx _ _ (by omega) (by omega) (by omega) (by omega)) (yy _ _ (by omega) (by omega) (by omega) (by omega)) (fun k => yy _ _ (by omega) (by omega) (by omega) (by omega)) (fun k => lx _ _ (by omega) (by omega)) (fun k => ly _ _ (by omega) (by omega)),
                ⟨tl + 1, by omega, ea_pI_eq, by rw [z3.1 _ _ (by omega), ea_pI_eq], nm.cg (fun i => gx.2.1 _ _ (by omega)) (fun i => by rw [z3.2.1 _ _ (by omega)]; exact gy.2.1 _ _ (by omega)), fun s hs => ?_⟩,
                D1'.d5.cg (xx _ _ (by omega) (by omega) (by omega) (by omega)) (fun k => xx _ _ (by omega) (by omega) (by omega) (by omega)) (yy _ _ (by omega) (by omega) (by omega) (by omega)) (fun k => yy _ _ (by omega) (by omega) (by omega) (by omega)) (fun k => lx _ _ (by omega) (by omega)) (fun k => ly _ _ (by omega) (by omega)),
                D1'.d6.cg (by rw [ea_pI_ne (by omega), ea_pI_ne (by omega), gx.1 _ _ (by omega) (by omega), xx0 _ _ (by omega)]) (by rw [z3.1 _ _ (by omega), fq, gy.1 _ _ (by omega) (by omega), yy0 _ _ (by omega)])⟩
              by_cases es : s = tl
              · subst es
                refine ⟨hh, by omega, hh6, by rw [ea_pI_ne (by omega), ea_pI_eq], by rw [z3.1 _ _ (by omega), ea_pI_ne (by omega), ea_pI_eq], fun i j hi hj => (hv i j hi hj).cg (by rw [ea_pI_ne (by omega), ea_pI_ne (by omega)]) (by rw [z3.1 _ _ (by omega), ea_pI_ne (by omega), ea_pI_ne (by omega)])⟩
              · obtain ⟨h', g1, g2, g4, g5, g6⟩ := m4 s (by omega)
                refine ⟨h', g1, g2, by rw [xx _ _ (by omega) (by omega) (by omega) (by omega)]; exact g4, by rw [yy _ _ (by omega) (by omega) (by omega) (by omega), q3.1 _ _ (by omega)]; exact g5, fun i j hi hj => (g6 i j hi hj).cg (xx _ _ (by omega) (by omega) (by omega) (by omega)) (by rw [yy _ _ (by omega) (by omega) (by omega) (by omega), q3.1 _ _ (by omega)])⟩
            · rw [if_neg (show ¬ nI (tK B len p1) = (3 : Int32) by rw [show (3 : Int32) = nI 3 from rfl, pn_eqI (by omega) (by omega)]; exact hk3), if_neg (show ¬ nI (ms (tK B len p1)) = (3 : Int32) by rw [show (3 : Int32) = nI 3 from rfl, pn_eqI (by omega) (by omega)]; exact fun e => hk3 (hms.2.2.1.mp e))]
              unfold fX2_readTale_108
              rw [ckr]
              exact (JO.fail (MX := MX3) (MY := ea_pI (ea_pI MY3 107 (4 + tl) (nI hh)) 102 19 (nI (tl + 1))) 1 y7 (by rw [fq]; exact u5)).mv (FDx.rf cc MX3) fy
      have lp : ∀ (d hh p1 f g : Nat) (MX3 MY3 : eM), 6 - hh = d → hh ≤ 6 → d < f → d < g → Sc MX3 MY3 B len p1 → p ≤ p1 → (∀ i j, i < hh → j < 4 → ez MX3 (cc + 7) (4 * (6 * tl + i) + j) MY3 108 (96 + (4 * (6 * tl + i) + j)) (hgl j) (hgh j)) → GRX (cc + 7) (24 * tl) 24 MX2 MX3 → GRY 108 (96 + 24 * tl) 24 MY2 MY3 → JO cc (fX2_readTale_46 fX2_readTale_81 f (nI hh) MX3) (ea_ci (tl86 g (nI tl) (nI hh) MY3) (nx2 mcl)) MX3 MY3 (CL p (MX.1 cc 4) cc B len) := by
        intro d
        induction d with
        | zero =>
          intro hh p1 f g MX3 MY3 hd hh6 hf hg s3 hp3 hv gx gy
          exact endT hh p1 f g MX3 MY3 hh6 hf hg s3 hp3 hv gx gy (Or.inr (by omega))
        | succ d ih =>
          intro hh p1 f g MX3 MY3 hd hh6 hf hg s3 hp3 hv gx gy
          by_cases hk : tky B len p1 = some 8
          · obtain ⟨f, rfl⟩ : ∃ f', f = f' + 1 := ⟨f - 1, by omega⟩
            obtain ⟨g, rfl⟩ : ∃ g', g = g' + 1 := ⟨g - 1, by omega⟩
            have sy9 := s3.says (a := 9) (by decide)
            have ky8 := s3.key (w := 8) (by decide)
            have ky8 : fX11_isKey 8 MY3 = _ := ky8
            have hk9 : tky B len p1 = some (cwx 9) := hk
            have bb := tE_b (B := B) s3.1
            have r3 : MX3.2.2 3 3 = cc := by rw [gx.2.2]; exact r2
            have e8 : MX3.1 cc 11 = nI tl := by rw [gx.1 _ _ (by omega) (by omega)]; exact s8
            obtain ⟨MY4, z1, z2, z3⟩ := s3.next
            have n6 : ¬ nI hh = (6 : Int32) := by rw [show (6 : Int32) = nI 6 from rfl, pn_eqI (by omega) (by omega)]; omega
            have e99 : ea_ci (fX11_readStory_99 (tl86 g) fX11_readStory_108 fX11_readStory_120 (nI tl) (nI hh) MY3) (nx2 mcl) = hgY tl hh (fX11_readStory_212 (tl86 g)) 0 MY4 := by
              unfold fX11_readStory_99
              rw [ky8, ev_ci, if_pos hk, if_neg (show ¬ (1 : Int32) = 0 by decide), if_neg n6, z1, ev_cv]
              rfl
            have eY : ea_ci (tl86 (g + 1) (nI tl) (nI hh) MY3) (nx2 mcl) = hgY tl hh (fX11_readStory_212 (tl86 g)) 0 MY4 := by
              rw [← e99]
              unfold tl86
              rw [fX11_readStory_86]
              by_cases h0 : nI hh = (0 : Int32)
              · rw [if_pos h0]
              · rw [if_neg h0, ky8, ev_ci, if_pos hk, if_neg (show ¬ (1 : Int32) = 0 by decide)]
            have eH : fX2_readHang (nI hh) MX3 = fX2_readHang_14 ea_N (nI (4 * (6 * tl + hh))) (nI 0) MX3 := by
              unfold fX2_readHang fX2_readHang_0 fX1_hangPlace fX1_hangPlace_0
              rw [r3, pn_is hc, ev_ck, ev_ci, e8, show nI tl * 6 = nI (tl * 6) from pk_mul tl 6, ev_add, show nI (tl * 6 + hh) * 4 = nI ((tl * 6 + hh) * 4) from pk_mul (tl * 6 + hh) 4, show (tl * 6 + hh) * 4 = 4 * (6 * tl + hh) by omega]
              rfl
            have eX : fX2_readTale_46 fX2_readTale_81 (f + 1) (nI hh) MX3 = hgX (4 * (6 * tl + hh)) (tkE f hh) 0 MX3 := by
              rw [fX2_readTale_46, sy9, ev_ci, if_pos hk9, if_neg (show ¬ (1 : Int32) = 0 by decide), if_neg (show ¬ (6 : Int32) ≤ nI hh by rw [show (6 : Int32) = nI 6 from rfl, pn_leI (by omega) (by omega)]; omega), eH, show nI hh + 1 = nI (hh + 1) from nI_add hh 1]
              rfl
            rw [eX, eY]
            refine JO.mv (MX1 := MX3) (MY1 := MY4) ?_ (FDx.rf cc MX3) z3.g.d
            refine rowG hc (ca := cc + 7) (ka := 4 * (6 * tl + hh)) (cb := 108) (kb := 96 + 4 * (6 * tl + hh)) (N := 4) (lo := hgl) (hi := hgh) (KX := hkX (4 * (6 * tl + hh)) (tkE f hh)) (KY := hkY tl hh (fX11_readStory_212 (tl86 g))) (by omega) (fun k hk => by unfold rgY; omega) (by decide) (fun i hi => (ta23 i hi).2.2) (fun i M hi => hgX_s _ _ i M hi) (fun i M hi => hgY_s tl hh _ i M hi) ?_ ?_ ?_ z2
            · intro i M hi g5
              have r5 : M.2.2 3 3 = cc := by rw [g5.2.2]; exact r3
              unfold hkX hgX
              rw [r5, pn_is hc, ev_ck, pn_l7 hc, ev_add, ev_ix (by omega) (by omega), ev_ck, ev_cl (by omega)]
            · intro i M hi g5
              unfold hkY hgY fX11_readStory_185
              rw [ev_ladd, show (6 : Int32) * nI (4 + tl) = nI (6 * (4 + tl)) from pk_mul 6 (4 + tl), ev_add, show (4 : Int32) * nI (6 * (4 + tl) + hh) = nI (4 * (6 * (4 + tl) + hh)) from pk_mul 4 _, ev_add, show ea_len 108 = 192 from rfl, ev_ix (by omega) (by omega), ev_ck, ev_cl (by omega), show 4 * (6 * (4 + tl) + hh) + i = 96 + 4 * (6 * tl + hh) + i by omega, show nI i + 1 = nI (i + 1) from nI_add i 1]
            · intro MX5 MY5 p5 s5 hp5 hv5 gx5 gy5
              rw [hgX_e, hgY_e]
              obtain ⟨MX6, r6, c6, g6⟩ := s5.adv
              have eE : tkE f hh MX5 = fX2_readTale_46 fX2_readTale_81 f (nI (hh + 1)) MX6 := by
                unfold tkE
                rw [r6, ev_cv]
              rw [eE]
              refine (ih (hh + 1) p5 f g MX6 MY5 (by omega) (by omega) (by omega) (by omega) c6 (by omega) ?_ ?_ ?_).mv g6.d (FDy.rf MY5)
              · intro i j hi hj
                by_cases ei : i = hh
                · subst ei
                  have := hv5 j hj
                  rw [show 96 + 4 * (6 * tl + i) + j = 96 + (4 * (6 * tl + i) + j) by omega] at this
                  exact this.cg (g6.1 _ _ (by omega)) rfl
                · refine (hv i j (by omega) hj).cg ?_ ?_
                  · rw [g6.1 _ _ (by omega), gx5.1 _ _ (by omega) (by omega)]
                  · rw [gy5.1 _ _ (by omega) (by omega), z3.1 _ _ (by omega)]
              · exact ⟨fun c k h1 h2 => by rw [g6.1 _ _ h1, gx5.1 _ _ h1 (by omega)]; exact gx.1 _ _ h1 h2, fun c k h1 => by rw [g6.2.1 _ _ h1, gx5.2.1 _ _ h1]; exact gx.2.1 _ _ h1, by rw [g6.2.2, gx5.2.2]; exact gx.2.2⟩
              · exact ⟨fun c k h1 h2 => by rw [gy5.1 _ _ h1 (by omega), z3.g.1 _ _ h1]; exact gy.1 _ _ h1 h2, fun c k h1 => by rw [gy5.2.1 _ _ h1, z3.2.1 _ _ h1]; exact gy.2.1 _ _ h1, by rw [gy5.2.2, z3.2.2]; exact gy.2.2⟩
          · exact endT hh p1 f g MX3 MY3 hh6 (by omega) (by omega) s3 hp3 hv gx gy (Or.inl hk)
      have hb2 := tE_b (B := B) (p := tE B len p) b3
      obtain ⟨MX3, r1, c3, g3⟩ := s2.adv
      show JO cc (ea_cv (fX2_advance MX2) _) _ MX2 MY2 _
      rw [r1, ev_cv]
      exact (lp 6 0 _ ea_N ea_N MX3 MY2 rfl (by omega) (by unfold ea_N; omega) (by unfold ea_N; omega) c3 (by omega) (fun i j hi => by omega) ⟨fun c k h1 _ => g3.1 c k h1, g3.2⟩ ⟨fun _ _ _ _ => rfl, fun _ _ _ => rfl, rfl⟩).mv g3.d (FDy.rf MY2)
  · have e5 : tl = 4 := by omega
    have c5 : ¬ nI tl < (4 : Int32) := by rw [show (4 : Int32) = nI 4 from rfl, pn_ltI (by omega) (by omega)]; exact hm
    rw [if_neg c5, if_pos (by rw [e5]; rfl), ckr, ckf, ci_f2]
    obtain ⟨A, C, a1, a2, a3, a4, a5⟩ := jfail (MX := MX) (MY := MY) 4 x7 t5
    exact Or.inl ⟨A, C, a1, a2, a3, a4.d, a5.d⟩
end TL
