theorem pb_of {f a k : Nat} (h1 : a ≤ f) (h2 : f < k) (hk : k < 2 ^ 30) : pb (nI f) (nI a) (nI k - 1) = 1 := by
  unfold pb
  rw [if_neg (fun q => absurd ((nI_ltI (by omega) (by omega)).mp q) (by omega)), show (nI k - 1 : Int32) = nI k - nI 1 from rfl, pk_sub (by omega), if_neg (fun q => absurd ((nI_ltI (by omega) (by omega)).mp q) (by omega))]
theorem px_row {M : eM} {f a : Nat} (ha : 1 ≤ a) : fX9_rowOf (nI f) (nI a) M = some (nI (9 * f + a - 1), M) := by
  unfold fX9_rowOf fX9_rowOf_0
  rw [show (9 : Int32) = nI 9 from rfl, pk_mul, nI_add, show (1 : Int32) = nI 1 from rfl, pk_sub (by omega), Nat.mul_comm]
theorem st_thread (a b d e : Int32) : ea_st Inv (fX10_thread a b d e) (fX11_thread a b d e) := by
  refine ea_same (fun M hM => ?_)
  obtain ⟨c, n, v, th, o, w, len, q, l, t, r, h1, h2, h3, h4⟩ := id hM
  obtain ⟨hc, hr, -, ho, hX, hY, hTh, hTX, hTY⟩ := id h1
  have b4 := ho.2.2.2.2.1
  have hth := hTh.1.1
  have no : (∀ t, t < th → tp M a b d e t = false) → fX11_thread a b d e M = some (-2, M) := fun h => by
    rw [py_thr hth hTY.1, fdr_none (fun t _ h2 => h t (by omega))]
    rfl
  unfold fX10_thread fX10_thread_0
  rw [hr, ea_ck_t (pn_is hc), hX.1.2.2.2.2.1, ea_lt_t, ea_ci_t (px_in ..)]
  rcases pb_01 a 0 (nI (n 4) - 1) with hb | hb
  · refine ⟨-2, by rw [hb, if_pos rfl], no (fun t ht => ?_)⟩
    have hne : ¬ M.1 110 t = a := fun e1 => by
      rw [(hTY.2 t ht).1] at e1
      have := pb_of (f := o t / 9) (a := 0) (k := n 4) (by omega) (by have := (hTh.1.2 t ht).1; omega) (by omega)
      rw [e1] at this
      exact absurd (hb.symm.trans this) (by decide)
    simp [tp, hne]
  obtain ⟨f, hf, rfl⟩ := pb_nat0 (by omega) hb
  rw [hb, if_neg (by decide), ea_ci_t (px_in ..), show (9 : Int32) = nI 10 - 1 from rfl]
  rcases pb_01 b 1 (nI 10 - 1) with hb2 | hb2
  · refine ⟨-2, by rw [hb2, if_pos rfl], no (fun t ht => ?_)⟩
    have hne : ¬ M.1 111 t = b := fun e1 => by
      rw [(hTY.2 t ht).2.1] at e1
      have := pb_of (f := o t % 9 + 1) (a := 1) (k := 10) (by omega) (by omega) (by decide)
      rw [e1] at this
      exact absurd (hb2.symm.trans this) (by decide)
    simp [tp, hne]
  obtain ⟨x, hx1, hx2, rfl⟩ := pb_nat (a := 1) (by decide) (by decide) hb2
  rw [hb2, if_neg (by decide), ea_ci_t (px_row hx1)]
  by_cases hd : d = -1
  · subst hd
    refine ⟨enc2 (fdr (np M (nI (9 * f + x - 1)) (nI 45)) 0 th), ?_, ?_⟩
    · rw [if_pos rfl, ea_ci_t (px_num hth hTX.1 _ _)]
      rfl
    · rw [py_thr hth hTY.1, fdr_congr (fun t _ h2 => tp_one h1 hf ⟨hx1, by omega⟩ e t (by omega))]
  · rw [if_neg hd, ea_ci_t (px_in ..), show nI f + 1 = nI (f + 1) from nI_add f 1]
    rcases pb_01 d (nI (f + 1)) (nI (n 4) - 1) with hb3 | hb3
    · refine ⟨-2, by rw [hb3, if_pos rfl], no (fun t ht => ?_)⟩
      by_cases ho1 : M.1 110 t = nI f
      · have hne : ¬ M.1 112 t = d := fun e1 => by
          have k2 := (hTh.1.2 t ht).2
          have k1 := (hTh.1.2 t ht).1
          obtain ⟨g1, g2, g3, g4⟩ := hTY.2 t ht
          by_cases hw : w t = 45
          · rw [g3 hw] at e1
            exact hd e1.symm
          · have hlt := hTh.2.2.2.1 t ht hw
            rw [g1] at ho1
            have ho1 := (nI_eq (by omega) (by omega)).mp ho1
            rw [(g4 hw).1] at e1
            have := pb_of (f := w t / 9) (a := f + 1) (k := n 4) (by omega) (by omega) (by omega)
            rw [e1] at this
            exact absurd (hb3.symm.trans this) (by decide)
        simp [tp, hne]
      · simp [tp, ho1]
    · obtain ⟨g, hg1, hg2, rfl⟩ := pb_nat (a := f + 1) (by omega) (by omega) hb3
      rw [hb3, if_neg (by decide), ea_ci_t (px_in ..)]
      rcases pb_01 e 1 (nI 10 - 1) with hb4 | hb4
      · refine ⟨-2, by rw [hb4, if_pos rfl], no (fun t ht => ?_)⟩
        by_cases hg : M.1 112 t = nI g
        · have hne : ¬ M.1 113 t = e := fun e1 => by
            obtain ⟨g1, g2, g3, g4⟩ := hTY.2 t ht
            by_cases hw : w t = 45
            · rw [g3 hw] at hg
              exact hd hg.symm
            · rw [(g4 hw).2] at e1
              have := pb_of (f := w t % 9 + 1) (a := 1) (k := 10) (by omega) (by omega) (by decide)
              rw [e1] at this
              exact absurd (hb4.symm.trans this) (by decide)
          simp [tp, hne, hd]
        · simp [tp, hg]
      · obtain ⟨y, hy1, hy2, rfl⟩ := pb_nat (a := 1) (by decide) (by decide) hb4
        refine ⟨enc2 (fdr (np M (nI (9 * f + x - 1)) (nI (9 * g + y - 1))) 0 th), ?_, ?_⟩
        · rw [hb4, if_neg (by decide), ea_ci_t (px_row hy1), ea_ci_t (px_num hth hTX.1 _ _)]
        · rw [py_thr hth hTY.1, fdr_congr (fun t _ h2 => tp_two h1 hf ⟨hx1, by omega⟩ hg2 ⟨hy1, by omega⟩ t (by omega))]
