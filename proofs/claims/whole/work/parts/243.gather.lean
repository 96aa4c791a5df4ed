section GA
variable {M : eM} {a cc th : Nat} {n : Nat → Nat} {v : Nat → Nat → Nat} {o w q : Nat → Nat} {l t r : Nat → Nat → Nat} {cell known : Nat}
theorem px_g39s {k68 : Int32 → Int32 → Int32 → eM → Option eM} {k : Nat} {x1 x2 x3 x4 : Int32} {M' : eM} {c s : Nat} (hc : c < 3) (hl : fX8_lookShade 30 x4 (nI c) M = some (nI s, M)) (hal : fX3_allow a (nI c) (nI s) M = some M') : fX3_gather_39 k68 a (k + 1) x1 x2 x3 x4 (nI c) M = fX3_gather_39 k68 a k x1 x2 x3 x4 (nI (c + 1)) M' := by
  rw [fX3_gather_39]
  simp (disch := omega) only [ev_ck, ev_ci, ev_cv, ev_lt_, ↓reduceIte, ev_lens, ev_ix, ev_nz, ev_cl, ev_cll, ev_add, ev_addl, ev_ladd, ev_mul, ev_mull, ev_lmul, ev_sub, ev_subl, ev_lsub, ev_lt, ev_ltl, ev_llt, ev_le, ev_lel, ev_lle, ev_eq, ev_eql, ev_leq, ev_nm1, ev_nm5, ev_m1n, ev_neg1, ev_ltT, ev_ltF, ev_leT, ev_leF, ev_eqT, ev_eqF, ev_one0, ev_zero1, Nat.reduceAdd, Nat.reduceMul, Nat.reduceSub, ea_pI_eq, ev_pIn, ev_pIe, ea_pI_r, eq_self, hl, hal]
theorem px_g109s {k138 : Int32 → Int32 → Int32 → eM → Option eM} {k : Nat} {x1 x2 x3 : Int32} {M' : eM} {c s : Nat} (hc : c < 3) (hl : fX8_triedShade 30 x3 x2 (nI c) M = some (nI s, M)) (hal : fX3_allow a (nI c) (nI s) M = some M') : fX3_gather_109 k138 a (k + 1) x1 x2 x3 (nI c) M = fX3_gather_109 k138 a k x1 x2 x3 (nI (c + 1)) M' := by
  rw [fX3_gather_109]
  simp (disch := omega) only [ev_ck, ev_ci, ev_cv, ev_lt_, ↓reduceIte, ev_lens, ev_ix, ev_nz, ev_cl, ev_cll, ev_add, ev_addl, ev_ladd, ev_mul, ev_mull, ev_lmul, ev_sub, ev_subl, ev_lsub, ev_lt, ev_ltl, ev_llt, ev_le, ev_lel, ev_lle, ev_eq, ev_eql, ev_leq, ev_nm1, ev_nm5, ev_m1n, ev_neg1, ev_ltT, ev_ltF, ev_leT, ev_leF, ev_eqT, ev_eqF, ev_one0, ev_zero1, Nat.reduceAdd, Nat.reduceMul, Nat.reduceSub, ea_pI_eq, ev_pIn, ev_pIe, ea_pI_r, eq_self, hl, hal]
theorem px_gl (ha : pn_f a) (hC : Ctx M cc n v th o w q l t r) {S : List (Nat → Nat)} (hG : GX M a S (n 2)) (hS : S.length < 22) (hcell : cell < 48) (hk : known < 1000) {side : Nat} (hs : side ≤ 1) (k80 : Int32 → Int32 → eM → Option eM) (k : Nat) : ∃ M', fX3_gather_7 k80 a (k + 1) (nI cell) (nI known) (nI side) M = fX3_gather_7 k80 a k (nI cell) (nI known) (nI (side + 1)) M' ∧ GX M' a (S ++ sg_look l (lst (lkp l cell side known) (q 0)) side) (n 2) ∧ FrF a M M' := by
  have hok := hC.2.1.1
  have hLX := hC.2.1.2.1
  have hr := hC.1.2.1
  have hcc := hC.1.1
  have hX := hC.1.2.2.2.2.1
  have hsl := hC.1.2.2.2.1.2.2.1
  have hL := px_look (Or.inl rfl) hok hLX (cell := cell) (side := side) (known := known) (by omega) (by omega) (by omega)
  generalize hz : lst (lkp l cell side known) (q 0) = z at hL
  have hzl : ∀ i, z = some i → i < q 0 := fun i hi => (lst_lt (hz.trans hi)).1
  have hSn := px_seen (Or.inl rfl) hok hLX hzl
  have no : sp_seen l z = false → sg_look l z side = [] := by
    intro e
    cases z with
    | none => rfl
    | some i =>
      have e : decide (l i 6 ≠ 1) = false := e
      show (if l i 6 = 1 then [] else [lw l i side]) = []
      rw [if_pos (by simpa using e)]
  cases hb : sp_seen l z with
  | false =>
    rw [no hb, List.append_nil]
    refine ⟨M, ?_, hG, FrF.rf a M⟩
    rw [hb] at hSn
    rw [fX3_gather_7]
    simp (disch := omega) only [ev_ck, ev_ci, ev_cv, ev_lt_, ↓reduceIte, ev_lens, ev_ix, ev_nz, ev_cl, ev_cll, ev_add, ev_addl, ev_ladd, ev_mul, ev_mull, ev_lmul, ev_sub, ev_subl, ev_lsub, ev_lt, ev_ltl, ev_llt, ev_le, ev_lel, ev_lle, ev_eq, ev_eql, ev_leq, ev_nm1, ev_nm5, ev_m1n, ev_neg1, ev_ltT, ev_ltF, ev_leT, ev_leF, ev_eqT, ev_eqF, ev_one0, ev_zero1, Nat.reduceAdd, Nat.reduceMul, Nat.reduceSub, ea_pI_eq, ev_pIn, ev_pIe, ea_pI_r, eq_self, hL, hSn, Bool.false_eq_true, fX3_gather_74]
  | true =>
    rw [hb] at hSn
    cases z with
    | none => cases hb
    | some i =>
      have hi := hzl i rfl
      have hg : l i 6 ≠ 1 := by
        have hb : decide (l i 6 ≠ 1) = true := hb
        simpa using hb
      have e1 : sg_look l (some i) side = [lw l i side] := if_neg hg
      rw [e1]
      have ro := lw_ok hok hi hs
      have sh : ∀ M' c, Ctx M' cc n v th o w q l t r → c < 3 → fX8_lookShade 30 (nI i) (nI c) M' = some (nI (lw l i side (2 + c)), M') := by
        intro M' c hC' hc
        have := px_shadeL (Or.inl rfl) hok hC'.2.1.2.1 (z := some i) hzl hc
        rw [lw_c]
        have e : sp_ls l (some i) c = nI (l i (3 + c)) := if_neg hg
        rw [← e]
        exact this
      have al : ∀ M' c, Ctx M' cc n v th o w q l t r → M'.1 a 10 = nI S.length → c < 3 → fX3_allow a (nI c) (nI (lw l i side (2 + c))) M' = some (alw M' a S.length c (lw l i side (2 + c)) (n 2)) := fun M' c hC' h10 hc => px_allow ha hC'.1.2.1 hcc hC'.1.2.2.2.2.1.1.2.2.1 hsl h10 hS hc (ro.2.2 c hc)
      have h0 := hG.1
      have c1 := hC.kp ((alw_fr (M := M) (a := a) (i := S.length) (c := 0) (s := lw l i side (2 + 0)) (sl := n 2)).kp ha)
      have h1 := (alw_10 (M := M) (a := a) (i := S.length) (c := 0) (s := lw l i side (2 + 0)) (sl := n 2)).trans h0
      have c2 := c1.kp ((alw_fr (M := alw M a S.length 0 (lw l i side (2 + 0)) (n 2)) (a := a) (i := S.length) (c := 1) (s := lw l i side (2 + 1)) (sl := n 2)).kp ha)
      have h2 := (alw_10 (M := alw M a S.length 0 (lw l i side (2 + 0)) (n 2)) (a := a) (i := S.length) (c := 1) (s := lw l i side (2 + 1)) (sl := n 2)).trans h1
      have h3 := (alw_10 (M := alw (alw M a S.length 0 (lw l i side (2 + 0)) (n 2)) a S.length 1 (lw l i side (2 + 1)) (n 2)) (a := a) (i := S.length) (c := 2) (s := lw l i side (2 + 2)) (sl := n 2)).trans h2
      refine ⟨sgw M a S.length (lw l i side) (n 2), ?_, sgw_gx hG, sgw_fr⟩
      have run : ∀ f, 3 < f → fX3_gather_39 (fX3_gather_68 (fX3_gather_7 k80 a k) a) a f (nI cell) (nI known) (nI side) (nI i) (nI 0) M = fX3_gather_7 k80 a k (nI cell) (nI known) (nI (side + 1)) (sgw M a S.length (lw l i side) (n 2)) := by
        intro f hf
        obtain ⟨f, rfl⟩ : ∃ f', f = f' + 1 + 1 + 1 + 1 := ⟨f - 4, by omega⟩
        rw [px_g39s (by decide) (sh M 0 hC (by decide)) (al M 0 hC h0 (by decide)), px_g39s (by decide) (sh _ 1 c1 (by decide)) (al _ 1 c1 h1 (by decide)), px_g39s (by decide) (sh _ 2 c2 (by decide)) (al _ 2 c2 h2 (by decide)), fX3_gather_39]
        have ads := px_addSight ha h3 hS (sd := side) (mr := 0)
        replace ads : fX3_addSight a (nI side) 0 _ = _ := ads
        simp (disch := omega) only [ev_ck, ev_ci, ev_cv, ev_lt_, ↓reduceIte, ev_lens, ev_ix, ev_nz, ev_cl, ev_cll, ev_add, ev_addl, ev_ladd, ev_mul, ev_mull, ev_lmul, ev_sub, ev_subl, ev_lsub, ev_lt, ev_ltl, ev_llt, ev_le, ev_lel, ev_lle, ev_eq, ev_eql, ev_leq, ev_nm1, ev_nm5, ev_m1n, ev_neg1, ev_ltT, ev_ltF, ev_leT, ev_leF, ev_eqT, ev_eqF, ev_one0, ev_zero1, Nat.reduceAdd, Nat.reduceMul, Nat.reduceSub, ea_pI_eq, ev_pIn, ev_pIe, ea_pI_r, eq_self, fX3_gather_68, fX3_gather_74, ads]
        rfl
      have hL : fX8_latestLook 30 (nI cell) (nI side) (nI known) M = some (nI i, M) := hL
      have hSn : fX8_isSeen 30 (nI i) M = some (1, M) := hSn
      rw [fX3_gather_7]
      simp (disch := omega) only [ev_ck, ev_ci, ev_cv, ev_lt_, ↓reduceIte, ev_lens, ev_ix, ev_nz, ev_cl, ev_cll, ev_add, ev_addl, ev_ladd, ev_mul, ev_mull, ev_lmul, ev_sub, ev_subl, ev_lsub, ev_lt, ev_ltl, ev_llt, ev_le, ev_lel, ev_lle, ev_eq, ev_eql, ev_leq, ev_nm1, ev_nm5, ev_m1n, ev_neg1, ev_ltT, ev_ltF, ev_leT, ev_leF, ev_eqT, ev_eqF, ev_one0, ev_zero1, Nat.reduceAdd, Nat.reduceMul, Nat.reduceSub, ea_pI_eq, ev_pIn, ev_pIe, ea_pI_r, eq_self, hL, hSn]
      exact run ea_N (by unfold ea_N; omega)
theorem px_gt (ha : pn_f a) (hC0 : Ctx M cc n v th o w q l t r) (hcell : cell < 48) (hk : known < 1000) :
    ∀ (d f j : Nat) (M1 : eM), q 1 - j = d → j ≤ q 1 → d < f → FrF a M M1 → GX M1 a (sg_upto q l t r cell known j) (n 2) → ∃ M', fX3_gather_82 a f (nI cell) (nI known) (nI j) M1 = some M' ∧ GX M' a (sgs q l t r cell known) (n 2) ∧ FrF a M M' := by
  have hok := hC0.2.1.1
  have hq1 := hok.2.1
  have hcc := hC0.1.1
  have hsl := hC0.1.2.2.2.1.2.2.1
  intro d
  induction d with
  | zero =>
    intro f j M1 hd hj hf hF hG
    obtain ⟨f, rfl⟩ : ∃ f', f = f' + 1 := ⟨f - 1, by omega⟩
    obtain rfl : j = q 1 := by omega
    have hC := hC0.kp (hF.kp ha)
    refine ⟨M1, ?_, hG, hF⟩
    simp (disch := omega) only [ev_ck, ev_ci, ev_cv, ev_lt_, ↓reduceIte, ev_lens, ev_ix, ev_nz, ev_cl, ev_cll, ev_add, ev_addl, ev_ladd, ev_mul, ev_mull, ev_lmul, ev_sub, ev_subl, ev_lsub, ev_lt, ev_ltl, ev_llt, ev_le, ev_lel, ev_lle, ev_eq, ev_eql, ev_leq, ev_nm1, ev_nm5, ev_m1n, ev_neg1, ev_ltT, ev_ltF, ev_leT, ev_leF, ev_eqT, ev_eqF, ev_one0, ev_zero1, Nat.reduceAdd, Nat.reduceMul, Nat.reduceSub, ea_pI_eq, ev_pIn, ev_pIe, ea_pI_r, eq_self, fX3_gather_82, hC.2.1.2.1.1.2.1]
  | succ d ih =>
    intro f j M1 hd hj hf hF hG
    obtain ⟨f, rfl⟩ : ∃ f', f = f' + 1 := ⟨f - 1, by omega⟩
    have hC := hC0.kp (hF.kp ha)
    have hLX := hC.2.1.2.1
    have g0 : M1.1 32 (6 * j) = nI (t j 0) := hLX.2.2.1 j 0 (by omega) (by decide)
    have g1 : M1.1 32 (6 * j + 1) = nI (t j 1) := hLX.2.2.1 j 1 (by omega) (by decide)
    have g2 : M1.1 32 (6 * j + 2) = nI (t j 2) := hLX.2.2.1 j 2 (by omega) (by decide)
    obtain ⟨b0, b1, b2, b3⟩ := hok.2.2.2.2.2.1 j (by omega)
    have hS := sg_upto_len (q := q) (l := l) (t := t) (r := r) (cell := cell) (known := known) j
    have eS : sg_upto q l t r cell known (j + 1) = sg_upto q l t r cell known j ++ sg_try q t r cell known j := rfl
    generalize sg_upto q l t r cell known j = S at hG hS eS
    have skip : sg_try q t r cell known j = [] → ∃ M', fX3_gather_151 (fX3_gather_82 a f) a (nI cell) (nI known) (nI j) M1 = some M' ∧ GX M' a (sgs q l t r cell known) (n 2) ∧ FrF a M M' := by
      intro e
      obtain ⟨M', r1, r2, r3⟩ := ih f (j + 1) M1 (by omega) (by omega) (by omega) hF (by rw [eS, e, List.append_nil]; exact hG)
      refine ⟨M', ?_, r2, r3⟩
      simp (disch := omega) only [ev_ck, ev_ci, ev_cv, ev_lt_, ↓reduceIte, ev_lens, ev_ix, ev_nz, ev_cl, ev_cll, ev_add, ev_addl, ev_ladd, ev_mul, ev_mull, ev_lmul, ev_sub, ev_subl, ev_lsub, ev_lt, ev_ltl, ev_llt, ev_le, ev_lel, ev_lle, ev_eq, ev_eql, ev_leq, ev_nm1, ev_nm5, ev_m1n, ev_neg1, ev_ltT, ev_ltF, ev_leT, ev_leF, ev_eqT, ev_eqF, ev_one0, ev_zero1, Nat.reduceAdd, Nat.reduceMul, Nat.reduceSub, ea_pI_eq, ev_pIn, ev_pIe, ea_pI_r, eq_self, fX3_gather_151]
      exact r1
    have e4 := hLX.1.2.1
    by_cases c0 : t j 0 ≤ known
    · by_cases c1 : t j 1 = cell
      · have et : sg_try q t r cell known j = [tw t r (lst (rtp r j known) (q 2)) j] := by unfold sg_try; rw [if_pos c0, if_pos c1]
        generalize hx : tw t r (lst (rtp r j known) (q 2)) j = x at et
        have ro : rok x := by rw [← hx]; exact tw_ok hok (by omega) (fun i hi => (lst_lt hi).1)
        have hx1 : x 1 = t j 2 := by rw [← hx]; rfl
        have hx0 : x 0 = 0 := by rw [← hx]; rfl
        have sh : ∀ M' c, Ctx M' cc n v th o w q l t r → c < 3 → fX8_triedShade 30 (nI j) (nI known) (nI c) M' = some (nI (x (2 + c)), M') := by
          intro M' c hC' hc
          rw [← hx]
          exact px_triedS hok hC'.2.1.2.1 (by omega) hk hc
        have al : ∀ M' c, Ctx M' cc n v th o w q l t r → M'.1 a 10 = nI S.length → c < 3 → fX3_allow a (nI c) (nI (x (2 + c))) M' = some (alw M' a S.length c (x (2 + c)) (n 2)) := fun M' c hC' h10 hc => px_allow ha hC'.1.2.1 hcc hC'.1.2.2.2.2.1.1.2.2.1 hsl h10 (by omega) hc (ro.2.2 c hc)
        have h0 := hG.1
        have c1 := hC.kp ((alw_fr (M := M1) (a := a) (i := S.length) (c := 0) (s := x (2 + 0)) (sl := n 2)).kp ha)
        have h1 := (alw_10 (M := M1) (a := a) (i := S.length) (c := 0) (s := x (2 + 0)) (sl := n 2)).trans h0
        have c2 := c1.kp ((alw_fr (M := alw M1 a S.length 0 (x (2 + 0)) (n 2)) (a := a) (i := S.length) (c := 1) (s := x (2 + 1)) (sl := n 2)).kp ha)
        have h2 := (alw_10 (M := alw M1 a S.length 0 (x (2 + 0)) (n 2)) (a := a) (i := S.length) (c := 1) (s := x (2 + 1)) (sl := n 2)).trans h1
        have c3 := c2.kp ((alw_fr (M := alw (alw M1 a S.length 0 (x (2 + 0)) (n 2)) a S.length 1 (x (2 + 1)) (n 2)) (a := a) (i := S.length) (c := 2) (s := x (2 + 2)) (sl := n 2)).kp ha)
        have h3 := (alw_10 (M := alw (alw M1 a S.length 0 (x (2 + 0)) (n 2)) a S.length 1 (x (2 + 1)) (n 2)) (a := a) (i := S.length) (c := 2) (s := x (2 + 2)) (sl := n 2)).trans h2
        have g2' := c3.2.1.2.1.2.2.1 j 2 (by omega) (by decide)
        obtain ⟨M', r1, r2, r3⟩ := ih f (j + 1) (sgw M1 a S.length x (n 2)) (by omega) (by omega) (by omega) (hF.trans sgw_fr) (by rw [eS, et]; exact sgw_gx hG)
        refine ⟨M', ?_, r2, r3⟩
        have run : ∀ f', 3 < f' → fX3_gather_109 (fX3_gather_138 (fX3_gather_82 a f) a) a f' (nI cell) (nI known) (nI j) (nI 0) M1 = some M' := by
          intro f' hf
          obtain ⟨f', rfl⟩ : ∃ f'', f' = f'' + 1 + 1 + 1 + 1 := ⟨f' - 4, by omega⟩
          rw [px_g109s (by decide) (sh M1 0 hC (by decide)) (al M1 0 hC h0 (by decide)), px_g109s (by decide) (sh _ 1 c1 (by decide)) (al _ 1 c1 h1 (by decide)), px_g109s (by decide) (sh _ 2 c2 (by decide)) (al _ 2 c2 h2 (by decide)), fX3_gather_109]
          have ads := px_addSight ha h3 (by omega) (sd := x 0) (mr := x 1)
          rw [hx0, hx1] at ads
          replace ads : fX3_addSight a 0 (nI (t j 2)) _ = _ := ads
          have eg : sgw M1 a S.length x (n 2) = ea_pI (ea_pI (ea_pI (alw (alw (alw M1 a S.length 0 (x (2 + 0)) (n 2)) a S.length 1 (x (2 + 1)) (n 2)) a S.length 2 (x (2 + 2)) (n 2)) (a + 6) S.length (nI 0)) (a + 7) S.length (nI (t j 2))) a 10 (nI (S.length + 1)) := by unfold sgw; rw [hx0, hx1]
          simp (disch := omega) only [ev_ck, ev_ci, ev_cv, ev_lt_, ↓reduceIte, ev_lens, ev_ix, ev_nz, ev_cl, ev_cll, ev_add, ev_addl, ev_ladd, ev_mul, ev_mull, ev_lmul, ev_sub, ev_subl, ev_lsub, ev_lt, ev_ltl, ev_llt, ev_le, ev_lel, ev_lle, ev_eq, ev_eql, ev_leq, ev_nm1, ev_nm5, ev_m1n, ev_neg1, ev_ltT, ev_ltF, ev_leT, ev_leF, ev_eqT, ev_eqF, ev_one0, ev_zero1, Nat.reduceAdd, Nat.reduceMul, Nat.reduceSub, ea_pI_eq, ev_pIn, ev_pIe, ea_pI_r, eq_self, fX3_gather_138, fX3_gather_151, fX8_triedHours, fX8_triedHours_0, Nat.mul_comm j 6, g2', ads, ← eg]
          exact r1
        simp (disch := omega) only [ev_ck, ev_ci, ev_cv, ev_lt_, ↓reduceIte, ev_lens, ev_ix, ev_nz, ev_cl, ev_cll, ev_add, ev_addl, ev_ladd, ev_mul, ev_mull, ev_lmul, ev_sub, ev_subl, ev_lsub, ev_lt, ev_ltl, ev_llt, ev_le, ev_lel, ev_lle, ev_eq, ev_eql, ev_leq, ev_nm1, ev_nm5, ev_m1n, ev_neg1, ev_ltT, ev_ltF, ev_leT, ev_leF, ev_eqT, ev_eqF, ev_one0, ev_zero1, Nat.reduceAdd, Nat.reduceMul, Nat.reduceSub, ea_pI_eq, ev_pIn, ev_pIe, ea_pI_r, eq_self, fX3_gather_82, e4, fX8_isTriedOf, fX8_isTriedOf_0, Nat.mul_comm j 6, g0, g1]
        exact run ea_N (by unfold ea_N; omega)
      · obtain ⟨M', r1, r2⟩ := skip (by unfold sg_try; rw [if_pos c0, if_neg c1])
        refine ⟨M', ?_, r2⟩
        simp (disch := omega) only [ev_ck, ev_ci, ev_cv, ev_lt_, ↓reduceIte, ev_lens, ev_ix, ev_nz, ev_cl, ev_cll, ev_add, ev_addl, ev_ladd, ev_mul, ev_mull, ev_lmul, ev_sub, ev_subl, ev_lsub, ev_lt, ev_ltl, ev_llt, ev_le, ev_lel, ev_lle, ev_eq, ev_eql, ev_leq, ev_nm1, ev_nm5, ev_m1n, ev_neg1, ev_ltT, ev_ltF, ev_leT, ev_leF, ev_eqT, ev_eqF, ev_one0, ev_zero1, Nat.reduceAdd, Nat.reduceMul, Nat.reduceSub, ea_pI_eq, ev_pIn, ev_pIe, ea_pI_r, eq_self, fX3_gather_82, e4, fX8_isTriedOf, fX8_isTriedOf_0, Nat.mul_comm j 6, g0, g1]
        exact r1
    · obtain ⟨M', r1, r2⟩ := skip (by unfold sg_try; rw [if_neg c0])
      refine ⟨M', ?_, r2⟩
      simp (disch := omega) only [ev_ck, ev_ci, ev_cv, ev_lt_, ↓reduceIte, ev_lens, ev_ix, ev_nz, ev_cl, ev_cll, ev_add, ev_addl, ev_ladd, ev_mul, ev_mull, ev_lmul, ev_sub, ev_subl, ev_lsub, ev_lt, ev_ltl, ev_llt, ev_le, ev_lel, ev_lle, ev_eq, ev_eql, ev_leq, ev_nm1, ev_nm5, ev_m1n, ev_neg1, ev_ltT, ev_ltF, ev_leT, ev_leF, ev_eqT, ev_eqF, ev_one0, ev_zero1, Nat.reduceAdd, Nat.reduceMul, Nat.reduceSub, ea_pI_eq, ev_pIn, ev_pIe, ea_pI_r, eq_self, fX3_gather_82, e4, fX8_isTriedOf, fX8_isTriedOf_0, Nat.mul_comm j 6, g0, g1]
      exact r1
theorem px_gather (ha : pn_f a) (hC : Ctx M cc n v th o w q l t r) (hcell : cell < 48) (hk : known < 1000) : ∃ M', fX3_gather a (nI cell) (nI known) M = some M' ∧ GX M' a (sgs q l t r cell known) (n 2) ∧ FrF a M M' := by
  have hF0 : FrF a M (ea_pI M a 10 (0 : Int32)) := ⟨fun d k hd => by simp (disch := omega) only [ev_ck, ev_ci, ev_cv, ev_lt_, ↓reduceIte, ev_lens, ev_ix, ev_nz, ev_cl, ev_cll, ev_add, ev_addl, ev_ladd, ev_mul, ev_mull, ev_lmul, ev_sub, ev_subl, ev_lsub, ev_lt, ev_ltl, ev_llt, ev_le, ev_lel, ev_lle, ev_eq, ev_eql, ev_leq, ev_nm1, ev_nm5, ev_m1n, ev_neg1, ev_ltT, ev_ltF, ev_leT, ev_leF, ev_eqT, ev_eqF, ev_one0, ev_zero1, Nat.reduceAdd, Nat.reduceMul, Nat.reduceSub, ea_pI_eq, ev_pIn, ev_pIe, ea_pI_r, eq_self], rfl⟩
  have hG0 : GX (ea_pI M a 10 (0 : Int32)) a [] (n 2) := ⟨by simp (disch := omega) only [ev_ck, ev_ci, ev_cv, ev_lt_, ↓reduceIte, ev_lens, ev_ix, ev_nz, ev_cl, ev_cll, ev_add, ev_addl, ev_ladd, ev_mul, ev_mull, ev_lmul, ev_sub, ev_subl, ev_lsub, ev_lt, ev_ltl, ev_llt, ev_le, ev_lel, ev_lle, ev_eq, ev_eql, ev_leq, ev_nm1, ev_nm5, ev_m1n, ev_neg1, ev_ltT, ev_ltF, ev_leT, ev_leF, ev_eqT, ev_eqF, ev_one0, ev_zero1, Nat.reduceAdd, Nat.reduceMul, Nat.reduceSub, ea_pI_eq, ev_pIn, ev_pIe, ea_pI_r, eq_self]; rfl, fun i hi => absurd hi (Nat.not_lt_zero _)⟩
  obtain ⟨M1, e1, G1, F1⟩ := px_gl ha (hC.kp (hF0.kp ha)) hG0 (by decide) hcell hk (side := 0) (by decide) (fX3_gather_80 a) 99999
  have n1 := sg_look_len (l := l) (z := lst (lkp l cell 0 known) (q 0)) (side := 0)
  obtain ⟨M2, e2, G2, F2⟩ := px_gl ha (hC.kp ((hF0.trans F1).kp ha)) G1 (by rw [List.nil_append]; omega) hcell hk (side := 1) (by decide) (fX3_gather_80 a) 99998
  obtain ⟨M', r1, r2, r3⟩ := px_gt ha hC hcell hk (q 1) ea_N 0 M2 (by omega) (by omega) (by unfold ea_N; have := hC.2.1.1.2.1; omega) ((hF0.trans F1).trans F2) G2
  refine ⟨M', ?_, r2, r3⟩
  unfold fX3_gather fX3_gather_0
  refine (show fX3_gather_7 (fX3_gather_80 a) a ea_N (nI cell) (nI known) 0 _ = _ from e1).trans (e2.trans ?_)
  show fX3_gather_7 (fX3_gather_80 a) a (99997 + 1) (nI cell) (nI known) (nI 2) M2 = _
  simp (disch := omega) only [ev_ck, ev_ci, ev_cv, ev_lt_, ↓reduceIte, ev_lens, ev_ix, ev_nz, ev_cl, ev_cll, ev_add, ev_addl, ev_ladd, ev_mul, ev_mull, ev_lmul, ev_sub, ev_subl, ev_lsub, ev_lt, ev_ltl, ev_llt, ev_le, ev_lel, ev_lle, ev_eq, ev_eql, ev_leq, ev_nm1, ev_nm5, ev_m1n, ev_neg1, ev_ltT, ev_ltF, ev_leT, ev_leF, ev_eqT, ev_eqF, ev_one0, ev_zero1, Nat.reduceMul, Nat.reduceSub, ea_pI_eq, ev_pIn, ev_pIe, ea_pI_r, eq_self, fX3_gather_7, fX3_gather_80]
  exact r1
end GA
/-- the model's words -/
def WX (M : eM) (S : List (Nat → Nat)) : Prop := M.1 100 29 = nI S.length ∧ ∀ i, i < S.length → M.1 117 i = nI (nth S i 0) ∧ M.1 116 i = nI (nth S i 1) ∧ ∀ c, c < 3 → M.1 118 (3 * i + c) = nI (nth S i (2 + c))
def wrd (M : eM) (i : Nat) (x : Nat → Nat) : eM := ea_pI (ea_pI (ea_pI (ea_pI (ea_pI (ea_pI M 116 i (nI (x 1))) 117 i (nI (x 0))) 118 (3 * i + 0) (nI (x (2 + 0)))) 118 (3 * i + 1) (nI (x (2 + 1)))) 118 (3 * i + 2) (nI (x (2 + 2)))) 100 29 (nI (i + 1))
theorem wrd_fr {M : eM} {i : Nat} {x : Nat → Nat} : FrW M (wrd M i x) := by
  refine ⟨fun d k hd hk => ?_, rfl⟩
  simp (disch := omega) only [ev_ck, ev_ci, ev_cv, ev_lt_, ↓reduceIte, ev_lens, ev_ix, ev_nz, ev_cl, ev_cll, ev_add, ev_addl, ev_ladd, ev_mul, ev_mull, ev_lmul, ev_sub, ev_subl, ev_lsub, ev_lt, ev_ltl, ev_llt, ev_le, ev_lel, ev_lle, ev_eq, ev_eql, ev_leq, ev_nm1, ev_nm5, ev_m1n, ev_neg1, ev_ltT, ev_ltF, ev_leT, ev_leF, ev_eqT, ev_eqF, ev_one0, ev_zero1, Nat.reduceAdd, Nat.reduceMul, Nat.reduceSub, ea_pI_eq, ev_pIn, ev_pIe, ea_pI_r, eq_self, wrd]
theorem wrd_wx {M : eM} {S : List (Nat → Nat)} {x : Nat → Nat} (h : WX M S) : WX (wrd M S.length x) (S ++ [x]) := by
  refine ⟨?_, fun i hi => ?_⟩
  · rw [List.length_append]
    simp (disch := omega) only [ev_ck, ev_ci, ev_cv, ev_lt_, ↓reduceIte, ev_lens, ev_ix, ev_nz, ev_cl, ev_cll, ev_add, ev_addl, ev_ladd, ev_mul, ev_mull, ev_lmul, ev_sub, ev_subl, ev_lsub, ev_lt, ev_ltl, ev_llt, ev_le, ev_lel, ev_lle, ev_eq, ev_eql, ev_leq, ev_nm1, ev_nm5, ev_m1n, ev_neg1, ev_ltT, ev_ltF, ev_leT, ev_leF, ev_eqT, ev_eqF, ev_one0, ev_zero1, Nat.reduceAdd, Nat.reduceMul, Nat.reduceSub, ea_pI_eq, ev_pIn, ev_pIe, ea_pI_r, eq_self, wrd]
    rfl
  · rw [List.length_append] at hi
    have hi : i < S.length + 1 := hi
    by_cases e : i < S.length
    · obtain ⟨g1, g2, g3⟩ := h.2 i e
      rw [nth_l e]
      refine ⟨?_, ?_, fun c hc => ?_⟩
      · rw [← g1]
        simp (disch := omega) only [ev_ck, ev_ci, ev_cv, ev_lt_, ↓reduceIte, ev_lens, ev_ix, ev_nz, ev_cl, ev_cll, ev_add, ev_addl, ev_ladd, ev_mul, ev_mull, ev_lmul, ev_sub, ev_subl, ev_lsub, ev_lt, ev_ltl, ev_llt, ev_le, ev_lel, ev_lle, ev_eq, ev_eql, ev_leq, ev_nm1, ev_nm5, ev_m1n, ev_neg1, ev_ltT, ev_ltF, ev_leT, ev_leF, ev_eqT, ev_eqF, ev_one0, ev_zero1, Nat.reduceAdd, Nat.reduceMul, Nat.reduceSub, ea_pI_eq, ev_pIn, ev_pIe, ea_pI_r, eq_self, wrd]
      · rw [← g2]
        simp (disch := omega) only [ev_ck, ev_ci, ev_cv, ev_lt_, ↓reduceIte, ev_lens, ev_ix, ev_nz, ev_cl, ev_cll, ev_add, ev_addl, ev_ladd, ev_mul, ev_mull, ev_lmul, ev_sub, ev_subl, ev_lsub, ev_lt, ev_ltl, ev_llt, ev_le, ev_lel, ev_lle, ev_eq, ev_eql, ev_leq, ev_nm1, ev_nm5, ev_m1n, ev_neg1, ev_ltT, ev_ltF, ev_leT, ev_leF, ev_eqT, ev_eqF, ev_one0, ev_zero1, Nat.reduceAdd, Nat.reduceMul, Nat.reduceSub, ea_pI_eq, ev_pIn, ev_pIe, ea_pI_r, eq_self, wrd]
      · rw [← g3 c hc]
        simp (disch := omega) only [ev_ck, ev_ci, ev_cv, ev_lt_, ↓reduceIte, ev_lens, ev_ix, ev_nz, ev_cl, ev_cll, ev_add, ev_addl, ev_ladd, ev_mul, ev_mull, ev_lmul, ev_sub, ev_subl, ev_lsub, ev_lt, ev_ltl, ev_llt, ev_le, ev_lel, ev_lle, ev_eq, ev_eql, ev_leq, ev_nm1, ev_nm5, ev_m1n, ev_neg1, ev_ltT, ev_ltF, ev_leT, ev_leF, ev_eqT, ev_eqF, ev_one0, ev_zero1, Nat.reduceAdd, Nat.reduceMul, Nat.reduceSub, ea_pI_eq, ev_pIn, ev_pIe, ea_pI_r, eq_self, wrd]
    · obtain rfl : i = S.length := by omega
      rw [nth_r]
      refine ⟨?_, ?_, fun c hc => ?_⟩
      · simp (disch := omega) only [ev_ck, ev_ci, ev_cv, ev_lt_, ↓reduceIte, ev_lens, ev_ix, ev_nz, ev_cl, ev_cll, ev_add, ev_addl, ev_ladd, ev_mul, ev_mull, ev_lmul, ev_sub, ev_subl, ev_lsub, ev_lt, ev_ltl, ev_llt, ev_le, ev_lel, ev_lle, ev_eq, ev_eql, ev_leq, ev_nm1, ev_nm5, ev_m1n, ev_neg1, ev_ltT, ev_ltF, ev_leT, ev_leF, ev_eqT, ev_eqF, ev_one0, ev_zero1, Nat.reduceAdd, Nat.reduceMul, Nat.reduceSub, ea_pI_eq, ev_pIn, ev_pIe, ea_pI_r, eq_self, wrd]
      · simp (disch := omega) only [ev_ck, ev_ci, ev_cv, ev_lt_, ↓reduceIte, ev_lens, ev_ix, ev_nz, ev_cl, ev_cll, ev_add, ev_addl, ev_ladd, ev_mul, ev_mull, ev_lmul, ev_sub, ev_subl, ev_lsub, ev_lt, ev_ltl, ev_llt, ev_le, ev_lel, ev_lle, ev_eq, ev_eql, ev_leq, ev_nm1, ev_nm5, ev_m1n, ev_neg1, ev_ltT, ev_ltF, ev_leT, ev_leF, ev_eqT, ev_eqF, ev_one0, ev_zero1, Nat.reduceAdd, Nat.reduceMul, Nat.reduceSub, ea_pI_eq, ev_pIn, ev_pIe, ea_pI_r, eq_self, wrd]
      · rcases (show c = 0 ∨ c = 1 ∨ c = 2 by omega) with rfl | rfl | rfl <;> simp (disch := omega) only [ev_ck, ev_ci, ev_cv, ev_lt_, ↓reduceIte, ev_lens, ev_ix, ev_nz, ev_cl, ev_cll, ev_add, ev_addl, ev_ladd, ev_mul, ev_mull, ev_lmul, ev_sub, ev_subl, ev_lsub, ev_lt, ev_ltl, ev_llt, ev_le, ev_lel, ev_lle, ev_eq, ev_eql, ev_leq, ev_nm1, ev_nm5, ev_m1n, ev_neg1, ev_ltT, ev_ltF, ev_leT, ev_leF, ev_eqT, ev_eqF, ev_one0, ev_zero1, Nat.reduceMul, Nat.reduceSub, ea_pI_eq, ev_pIn, ev_pIe, ea_pI_r, eq_self, wrd]
theorem py_addWord {M : eM} {S : List (Nat → Nat)} (hW : WX M S) (hS : S.length < 22) {x : Nat → Nat} {f : Nat} (hf : f + 2 < 3416) (hx : ∀ c, c < 3 → M.1 114 (f + c) = nI (x (2 + c))) : fX11_addWord (nI (x 1)) (nI (x 0)) (nI f) M = some (wrd M S.length x) := by
  have e := hW.1
  have x0 := hx 0 (by decide)
  have x1 := hx 1 (by decide)
  have x2 := hx 2 (by decide)
  have run : ∀ k, 3 < k → fX11_addWord_23 fX11_addWord_58 k (nI f) (nI 0) (ea_pI (ea_pI M 116 S.length (nI (x 1))) 117 S.length (nI (x 0))) = some (wrd M S.length x) := by
    intro k hk
    obtain ⟨k, rfl⟩ : ∃ f', k = f' + 1 + 1 + 1 + 1 := ⟨k - 4, by omega⟩
    simp (disch := omega) only [ev_ck, ev_ci, ev_cv, ev_lt_, ↓reduceIte, ev_lens, ev_ix, ev_nz, ev_cl, ev_cll, ev_add, ev_addl, ev_ladd, ev_mul, ev_mull, ev_lmul, ev_sub, ev_subl, ev_lsub, ev_lt, ev_ltl, ev_llt, ev_le, ev_lel, ev_lle, ev_eq, ev_eql, ev_leq, ev_nm1, ev_nm5, ev_m1n, ev_neg1, ev_ltT, ev_ltF, ev_leT, ev_leF, ev_eqT, ev_eqF, ev_one0, ev_zero1, Nat.reduceAdd, Nat.reduceMul, Nat.reduceSub, ea_pI_eq, ev_pIn, ev_pIe, ea_pI_r, eq_self, fX11_addWord_23, fX11_addWord_58, e, x0, x1, x2]
    rfl
  unfold fX11_addWord fX11_addWord_0
  simp (disch := omega) only [ev_ck, ev_ci, ev_cv, ev_lt_, ↓reduceIte, ev_lens, ev_ix, ev_nz, ev_cl, ev_cll, ev_add, ev_addl, ev_ladd, ev_mul, ev_mull, ev_lmul, ev_sub, ev_subl, ev_lsub, ev_lt, ev_ltl, ev_llt, ev_le, ev_lel, ev_lle, ev_eq, ev_eql, ev_leq, ev_nm1, ev_nm5, ev_m1n, ev_neg1, ev_ltT, ev_ltF, ev_leT, ev_leF, ev_eqT, ev_eqF, ev_one0, ev_zero1, Nat.reduceAdd, Nat.reduceMul, Nat.reduceSub, ea_pI_eq, ev_pIn, ev_pIe, ea_pI_r, eq_self, e]
  exact run ea_N (by unfold ea_N; omega)
def frm (k : Nat) (z : Option Nat) : Nat := match z with
  | none => 634 + 6 * k + 3
  | some i => 754 + 5 * i + 2
section GW
variable {M : eM} {cc th : Nat} {n : Nat → Nat} {v : Nat → Nat → Nat} {o w q : Nat → Nat} {l t r : Nat → Nat → Nat} {cell known : Nat}
theorem py_wl (hC : Ctx M cc n v th o w q l t r) {S : List (Nat → Nat)} (hG : WX M S) (hS : S.length < 22) (hcell : cell < 48) (hk : known < 1000) {side : Nat} (hs : side ≤ 1) (k55 : Int32 → Int32 → eM → Option eM) (k : Nat) : ∃ M', fX11_findWords_7 k55 (k + 1) (nI cell) (nI known) (nI side) M = fX11_findWords_7 k55 k (nI cell) (nI known) (nI (side + 1)) M' ∧ WX M' (S ++ sg_look l (lst (lkp l cell side known) (q 0)) side) ∧ FrW M M' := by
  have hok := hC.2.1.1
  have hq := hok.1
  have hLY := hC.2.1.2.2.1
  have hL := py_look hok hLY (cell := cell) (side := side) (known := known) (by omega) (by omega) (by omega)
  cases hz : lst (lkp l cell side known) (q 0) with
  | none =>
    rw [hz] at hL
    have hL : fX11_lookAt (nI cell) (nI side) (nI known) M = some (-1, M) := hL
    refine ⟨M, ?_, by rw [show sg_look l none side = [] from rfl, List.append_nil]; exact hG, FrW.rf M⟩
    rw [fX11_findWords_7]
    simp (disch := omega) only [ev_ck, ev_ci, ev_cv, ev_lt_, ↓reduceIte, ev_lens, ev_ix, ev_nz, ev_cl, ev_cll, ev_add, ev_addl, ev_ladd, ev_mul, ev_mull, ev_lmul, ev_sub, ev_subl, ev_lsub, ev_lt, ev_ltl, ev_llt, ev_le, ev_lel, ev_lle, ev_eq, ev_eql, ev_leq, ev_nm1, ev_nm5, ev_m1n, ev_neg1, ev_ltT, ev_ltF, ev_leT, ev_leF, ev_eqT, ev_eqF, ev_one0, ev_zero1, Nat.reduceAdd, Nat.reduceMul, Nat.reduceSub, ea_pI_eq, ev_pIn, ev_pIe, ea_pI_r, eq_self, hL, fX11_findWords_49]
  | some i =>
    have hi := (lst_lt hz).1
    rw [hz] at hL
    have hL : fX11_lookAt (nI cell) (nI side) (nI known) M = some (nI (4 + 7 * i), M) := hL
    obtain ⟨-, -, -, b3, b6, -⟩ := hok.2.2.2.2.1 i hi
    have g6 : M.1 114 (4 + 7 * i + 6) = nI (l i 6) := by have := hLY.2.1 i 6 hi (by decide); rw [Nat.zero_add] at this; exact this
    by_cases hg : l i 6 = 1
    · refine ⟨M, ?_, by rw [show sg_look l (some i) side = [] from if_pos hg, List.append_nil]; exact hG, FrW.rf M⟩
      rw [fX11_findWords_7]
      simp (disch := omega) only [ev_ck, ev_ci, ev_cv, ev_lt_, ↓reduceIte, ev_lens, ev_ix, ev_nz, ev_cl, ev_cll, ev_add, ev_addl, ev_ladd, ev_mul, ev_mull, ev_lmul, ev_sub, ev_subl, ev_lsub, ev_lt, ev_ltl, ev_llt, ev_le, ev_lel, ev_lle, ev_eq, ev_eql, ev_leq, ev_nm1, ev_nm5, ev_m1n, ev_neg1, ev_ltT, ev_ltF, ev_leT, ev_leF, ev_eqT, ev_eqF, ev_one0, ev_zero1, Nat.reduceAdd, Nat.reduceMul, Nat.reduceSub, ea_pI_eq, ev_pIn, ev_pIe, ea_pI_r, eq_self, hL, g6, fX11_findWords_49]
    · refine ⟨wrd M S.length (lw l i side), ?_, by rw [show sg_look l (some i) side = [lw l i side] from if_neg hg]; exact wrd_wx hG, wrd_fr⟩
      have ad := py_addWord hG hS (x := lw l i side) (f := 4 + 7 * i + 3) (by omega) (fun c hc => by
        have := hLY.2.1 i (3 + c) hi (by omega)
        rw [Nat.zero_add, ← Nat.add_assoc] at this
        rw [lw_c]
        exact this)
      replace ad : fX11_addWord 0 (nI side) (nI (4 + 7 * i + 3)) M = _ := ad
      rw [fX11_findWords_7]
      simp (disch := omega) only [ev_ck, ev_ci, ev_cv, ev_lt_, ↓reduceIte, ev_lens, ev_ix, ev_nz, ev_cl, ev_cll, ev_add, ev_addl, ev_ladd, ev_mul, ev_mull, ev_lmul, ev_sub, ev_subl, ev_lsub, ev_lt, ev_ltl, ev_llt, ev_le, ev_lel, ev_lle, ev_eq, ev_eql, ev_leq, ev_nm1, ev_nm5, ev_m1n, ev_neg1, ev_ltT, ev_ltF, ev_leT, ev_leF, ev_eqT, ev_eqF, ev_one0, ev_zero1, Nat.reduceAdd, Nat.reduceMul, Nat.reduceSub, ea_pI_eq, ev_pIn, ev_pIe, ea_pI_r, eq_self, hL, g6, fX11_findWords_49, ad]
theorem py_wr (hC : Ctx M cc n v th o w q l t r) (hk : known < 1000) {j : Nat} (hj : j < q 1) {x1 x4 : Int32} (k178 : Int32 → Int32 → Int32 → Int32 → Int32 → eM → Option eM) :
    ∀ (d f i : Nat), q 2 - i = d → i ≤ q 2 → d < f → fX11_findWords_113 k178 f x1 (nI known) (nI j) x4 (nI (frm j (lst (rtp r j known) i))) (nI i) M = k178 x1 (nI known) (nI j) x4 (nI (frm j (lst (rtp r j known) (q 2)))) M := by
  have hok := hC.2.1.1
  have hq1 := hok.2.1
  have hq2 := hok.2.2.1
  have hLY := hC.2.1.2.2.1
  have e2 : M.1 114 2 = nI (q 2) := hLY.1 2 (by decide)
  intro d
  induction d with
  | zero =>
    intro f i hd hi hf
    obtain ⟨f, rfl⟩ : ∃ f', f = f' + 1 := ⟨f - 1, by omega⟩
    obtain rfl : i = q 2 := by omega
    simp (disch := omega) only [ev_ck, ev_ci, ev_cv, ev_lt_, ↓reduceIte, ev_lens, ev_ix, ev_nz, ev_cl, ev_cll, ev_add, ev_addl, ev_ladd, ev_mul, ev_mull, ev_lmul, ev_sub, ev_subl, ev_lsub, ev_lt, ev_ltl, ev_llt, ev_le, ev_lel, ev_lle, ev_eq, ev_eql, ev_leq, ev_nm1, ev_nm5, ev_m1n, ev_neg1, ev_ltT, ev_ltF, ev_leT, ev_leF, ev_eqT, ev_eqF, ev_one0, ev_zero1, Nat.reduceAdd, Nat.reduceMul, Nat.reduceSub, ea_pI_eq, ev_pIn, ev_pIe, ea_pI_r, eq_self, fX11_findWords_113, e2]
  | succ d ih =>
    intro f i hd hi hf
    obtain ⟨f, rfl⟩ : ∃ f', f = f' + 1 := ⟨f - 1, by omega⟩
    obtain ⟨b0, b1, -⟩ := hok.2.2.2.2.2.2 i (by omega)
    have g0 : M.1 114 (754 + 5 * i) = nI (r i 0) := by have := hLY.2.2.2 i 0 (by omega) (by decide); rw [Nat.zero_add] at this; exact this
    have g1 : M.1 114 (754 + 5 * i + 1) = nI (r i 1) := by have := hLY.2.2.2 i 1 (by omega) (by decide); rw [Nat.zero_add] at this; exact this
    have nx := ih f (i + 1) (by omega) (by omega) (by omega)
    have el : lst (rtp r j known) (i + 1) = if rtp r j known i = true then some i else lst (rtp r j known) i := rfl
    rw [el] at nx
    by_cases c1 : r i 1 = j
    · by_cases c0 : r i 0 ≤ known
      · rw [if_pos (by simp [rtp, c0, c1])] at nx
        simp (disch := omega) only [ev_ck, ev_ci, ev_cv, ev_lt_, ↓reduceIte, ev_lens, ev_ix, ev_nz, ev_cl, ev_cll, ev_add, ev_addl, ev_ladd, ev_mul, ev_mull, ev_lmul, ev_sub, ev_subl, ev_lsub, ev_lt, ev_ltl, ev_llt, ev_le, ev_lel, ev_lle, ev_eq, ev_eql, ev_leq, ev_nm1, ev_nm5, ev_m1n, ev_neg1, ev_ltT, ev_ltF, ev_leT, ev_leF, ev_eqT, ev_eqF, ev_one0, ev_zero1, Nat.reduceAdd, Nat.reduceMul, Nat.reduceSub, ea_pI_eq, ev_pIn, ev_pIe, ea_pI_r, eq_self, fX11_findWords_113, e2, g0, g1, fX11_findWords_172]
        exact nx
      · rw [if_neg (by simp [rtp, c0])] at nx
        simp (disch := omega) only [ev_ck, ev_ci, ev_cv, ev_lt_, ↓reduceIte, ev_lens, ev_ix, ev_nz, ev_cl, ev_cll, ev_add, ev_addl, ev_ladd, ev_mul, ev_mull, ev_lmul, ev_sub, ev_subl, ev_lsub, ev_lt, ev_ltl, ev_llt, ev_le, ev_lel, ev_lle, ev_eq, ev_eql, ev_leq, ev_nm1, ev_nm5, ev_m1n, ev_neg1, ev_ltT, ev_ltF, ev_leT, ev_leF, ev_eqT, ev_eqF, ev_one0, ev_zero1, Nat.reduceAdd, Nat.reduceMul, Nat.reduceSub, ea_pI_eq, ev_pIn, ev_pIe, ea_pI_r, eq_self, fX11_findWords_113, e2, g0, g1, fX11_findWords_172]
        exact nx
    · rw [if_neg (by simp [rtp, c1])] at nx
      simp (disch := omega) only [ev_ck, ev_ci, ev_cv, ev_lt_, ↓reduceIte, ev_lens, ev_ix, ev_nz, ev_cl, ev_cll, ev_add, ev_addl, ev_ladd, ev_mul, ev_mull, ev_lmul, ev_sub, ev_subl, ev_lsub, ev_lt, ev_ltl, ev_llt, ev_le, ev_lel, ev_lle, ev_eq, ev_eql, ev_leq, ev_nm1, ev_nm5, ev_m1n, ev_neg1, ev_ltT, ev_ltF, ev_leT, ev_leF, ev_eqT, ev_eqF, ev_one0, ev_zero1, Nat.reduceAdd, Nat.reduceMul, Nat.reduceSub, ea_pI_eq, ev_pIn, ev_pIe, ea_pI_r, eq_self, fX11_findWords_113, e2, g0, g1, fX11_findWords_172]
      exact nx
theorem py_wt (hC0 : Ctx M cc n v th o w q l t r) (hcell : cell < 48) (hk : known < 1000) :
    ∀ (d f j : Nat) (M1 : eM), q 1 - j = d → j ≤ q 1 → d < f → FrW M M1 → WX M1 (sg_upto q l t r cell known j) → ∃ M', fX11_findWords_57 f (nI cell) (nI known) (nI j) M1 = some M' ∧ WX M' (sgs q l t r cell known) ∧ FrW M M' := by
  have hok := hC0.2.1.1
  have hq1 := hok.2.1
  have hq2 := hok.2.2.1
  intro d
  induction d with
  | zero =>
    intro f j M1 hd hj hf hF hG
    obtain ⟨f, rfl⟩ : ∃ f', f = f' + 1 := ⟨f - 1, by omega⟩
    obtain rfl : j = q 1 := by omega
    have hC := hC0.kp hF.kp
    have e1 : M1.1 114 1 = nI (q 1) := hC.2.1.2.2.1.1 1 (by decide)
    refine ⟨M1, ?_, hG, hF⟩
    simp (disch := omega) only [ev_ck, ev_ci, ev_cv, ev_lt_, ↓reduceIte, ev_lens, ev_ix, ev_nz, ev_cl, ev_cll, ev_add, ev_addl, ev_ladd, ev_mul, ev_mull, ev_lmul, ev_sub, ev_subl, ev_lsub, ev_lt, ev_ltl, ev_llt, ev_le, ev_lel, ev_lle, ev_eq, ev_eql, ev_leq, ev_nm1, ev_nm5, ev_m1n, ev_neg1, ev_ltT, ev_ltF, ev_leT, ev_leF, ev_eqT, ev_eqF, ev_one0, ev_zero1, Nat.reduceAdd, Nat.reduceMul, Nat.reduceSub, ea_pI_eq, ev_pIn, ev_pIe, ea_pI_r, eq_self, fX11_findWords_57, e1]
  | succ d ih =>
    intro f j M1 hd hj hf hF hG
    obtain ⟨f, rfl⟩ : ∃ f', f = f' + 1 := ⟨f - 1, by omega⟩
    have hC := hC0.kp hF.kp
    have hLY := hC.2.1.2.2.1
    have e1 : M1.1 114 1 = nI (q 1) := hLY.1 1 (by decide)
    have g0 : M1.1 114 (634 + 6 * j) = nI (t j 0) := by have := hLY.2.2.1 j 0 (by omega) (by decide); rw [Nat.zero_add] at this; exact this
    have g1 : M1.1 114 (634 + 6 * j + 1) = nI (t j 1) := by have := hLY.2.2.1 j 1 (by omega) (by decide); rw [Nat.zero_add] at this; exact this
    have g2 : M1.1 114 (634 + 6 * j + 2) = nI (t j 2) := by have := hLY.2.2.1 j 2 (by omega) (by decide); rw [Nat.zero_add] at this; exact this
    obtain ⟨b0, b1, b2, b3⟩ := hok.2.2.2.2.2.1 j (by omega)
    have hS := sg_upto_len (q := q) (l := l) (t := t) (r := r) (cell := cell) (known := known) j
    have eS : sg_upto q l t r cell known (j + 1) = sg_upto q l t r cell known j ++ sg_try q t r cell known j := rfl
    generalize sg_upto q l t r cell known j = S at hG hS eS
    have skip : sg_try q t r cell known j = [] → ∃ M', fX11_findWords_194 (fX11_findWords_57 f) (nI cell) (nI known) (nI j) M1 = some M' ∧ WX M' (sgs q l t r cell known) ∧ FrW M M' := by
      intro e
      obtain ⟨M', r1, r2, r3⟩ := ih f (j + 1) M1 (by omega) (by omega) (by omega) hF (by rw [eS, e, List.append_nil]; exact hG)
      refine ⟨M', ?_, r2, r3⟩
      simp (disch := omega) only [ev_ck, ev_ci, ev_cv, ev_lt_, ↓reduceIte, ev_lens, ev_ix, ev_nz, ev_cl, ev_cll, ev_add, ev_addl, ev_ladd, ev_mul, ev_mull, ev_lmul, ev_sub, ev_subl, ev_lsub, ev_lt, ev_ltl, ev_llt, ev_le, ev_lel, ev_lle, ev_eq, ev_eql, ev_leq, ev_nm1, ev_nm5, ev_m1n, ev_neg1, ev_ltT, ev_ltF, ev_leT, ev_leF, ev_eqT, ev_eqF, ev_one0, ev_zero1, Nat.reduceAdd, Nat.reduceMul, Nat.reduceSub, ea_pI_eq, ev_pIn, ev_pIe, ea_pI_r, eq_self, fX11_findWords_194]
      exact r1
    by_cases c0 : t j 0 ≤ known
    · by_cases c1 : t j 1 = cell
      · have et : sg_try q t r cell known j = [tw t r (lst (rtp r j known) (q 2)) j] := by unfold sg_try; rw [if_pos c0, if_pos c1]
        have wr := py_wr hC hk (j := j) (by omega) (x1 := nI cell) (x4 := nI (634 + 6 * j)) (fX11_findWords_178 (fX11_findWords_57 f)) (q 2) ea_N 0 (by omega) (by omega) (by unfold ea_N; omega)
        have hfr : frm j (lst (rtp r j known) (q 2)) + 2 < 3416 := by
          cases hz : lst (rtp r j known) (q 2) with
          | none => show 634 + 6 * j + 3 + 2 < 3416; omega
          | some i => have := (lst_lt hz).1; show 754 + 5 * i + 2 + 2 < 3416; omega
        have ad := py_addWord hG (by omega) (x := tw t r (lst (rtp r j known) (q 2)) j) (f := frm j (lst (rtp r j known) (q 2))) hfr (fun c hc => by
          cases hz : lst (rtp r j known) (q 2) with
          | none =>
            have := hLY.2.2.1 j (3 + c) (by omega) (by omega)
            rw [Nat.zero_add, ← Nat.add_assoc] at this
            rw [tw_n]
            exact this
          | some i =>
            have := hLY.2.2.2 i (2 + c) (lst_lt hz).1 (by omega)
            rw [Nat.zero_add, ← Nat.add_assoc] at this
            rw [tw_s]
            exact this)
        replace ad : fX11_addWord (nI (t j 2)) 0 (nI (frm j (lst (rtp r j known) (q 2)))) M1 = _ := ad
        obtain ⟨M', r1, r2, r3⟩ := ih f (j + 1) _ (by omega) (by omega) (by omega) (hF.trans (wrd_fr (i := S.length) (x := tw t r (lst (rtp r j known) (q 2)) j))) (by rw [eS, et]; exact wrd_wx hG)
        refine ⟨M', ?_, r2, r3⟩
        simp (disch := omega) only [ev_ck, ev_ci, ev_cv, ev_lt_, ↓reduceIte, ev_lens, ev_ix, ev_nz, ev_cl, ev_cll, ev_add, ev_addl, ev_ladd, ev_mul, ev_mull, ev_lmul, ev_sub, ev_subl, ev_lsub, ev_lt, ev_ltl, ev_llt, ev_le, ev_lel, ev_lle, ev_eq, ev_eql, ev_leq, ev_nm1, ev_nm5, ev_m1n, ev_neg1, ev_ltT, ev_ltF, ev_leT, ev_leF, ev_eqT, ev_eqF, ev_one0, ev_zero1, Nat.reduceAdd, Nat.reduceMul, Nat.reduceSub, ea_pI_eq, ev_pIn, ev_pIe, ea_pI_r, eq_self, fX11_findWords_57, e1, g0, g1]
        refine (show fX11_findWords_113 _ ea_N (nI cell) (nI known) (nI j) (nI (634 + 6 * j)) (nI (634 + 6 * j + 3)) 0 M1 = _ from wr).trans ?_
        simp (disch := omega) only [ev_ck, ev_ci, ev_cv, ev_lt_, ↓reduceIte, ev_lens, ev_ix, ev_nz, ev_cl, ev_cll, ev_add, ev_addl, ev_ladd, ev_mul, ev_mull, ev_lmul, ev_sub, ev_subl, ev_lsub, ev_lt, ev_ltl, ev_llt, ev_le, ev_lel, ev_lle, ev_eq, ev_eql, ev_leq, ev_nm1, ev_nm5, ev_m1n, ev_neg1, ev_ltT, ev_ltF, ev_leT, ev_leF, ev_eqT, ev_eqF, ev_one0, ev_zero1, Nat.reduceAdd, Nat.reduceMul, Nat.reduceSub, ea_pI_eq, ev_pIn, ev_pIe, ea_pI_r, eq_self, fX11_findWords_178, g2, ad, fX11_findWords_194]
        exact r1
      · obtain ⟨M', r1, r2⟩ := skip (by unfold sg_try; rw [if_pos c0, if_neg c1])
        refine ⟨M', ?_, r2⟩
        simp (disch := omega) only [ev_ck, ev_ci, ev_cv, ev_lt_, ↓reduceIte, ev_lens, ev_ix, ev_nz, ev_cl, ev_cll, ev_add, ev_addl, ev_ladd, ev_mul, ev_mull, ev_lmul, ev_sub, ev_subl, ev_lsub, ev_lt, ev_ltl, ev_llt, ev_le, ev_lel, ev_lle, ev_eq, ev_eql, ev_leq, ev_nm1, ev_nm5, ev_m1n, ev_neg1, ev_ltT, ev_ltF, ev_leT, ev_leF, ev_eqT, ev_eqF, ev_one0, ev_zero1, Nat.reduceAdd, Nat.reduceMul, Nat.reduceSub, ea_pI_eq, ev_pIn, ev_pIe, ea_pI_r, eq_self, fX11_findWords_57, e1, g0, g1]
        exact r1
    · obtain ⟨M', r1, r2⟩ := skip (by unfold sg_try; rw [if_neg c0])
      refine ⟨M', ?_, r2⟩
      simp (disch := omega) only [ev_ck, ev_ci, ev_cv, ev_lt_, ↓reduceIte, ev_lens, ev_ix, ev_nz, ev_cl, ev_cll, ev_add, ev_addl, ev_ladd, ev_mul, ev_mull, ev_lmul, ev_sub, ev_subl, ev_lsub, ev_lt, ev_ltl, ev_llt, ev_le, ev_lel, ev_lle, ev_eq, ev_eql, ev_leq, ev_nm1, ev_nm5, ev_m1n, ev_neg1, ev_ltT, ev_ltF, ev_leT, ev_leF, ev_eqT, ev_eqF, ev_one0, ev_zero1, Nat.reduceAdd, Nat.reduceMul, Nat.reduceSub, ea_pI_eq, ev_pIn, ev_pIe, ea_pI_r, eq_self, fX11_findWords_57, e1, g0, g1]
      exact r1
theorem py_words (hC : Ctx M cc n v th o w q l t r) (hcell : cell < 48) (hk : known < 1000) : ∃ M', fX11_findWords (nI cell) (nI known) M = some M' ∧ WX M' (sgs q l t r cell known) ∧ FrW M M' := by
  have hF0 : FrW M (ea_pI M 100 29 (0 : Int32)) := ⟨fun d k hd hk => by simp (disch := omega) only [ev_ck, ev_ci, ev_cv, ev_lt_, ↓reduceIte, ev_lens, ev_ix, ev_nz, ev_cl, ev_cll, ev_add, ev_addl, ev_ladd, ev_mul, ev_mull, ev_lmul, ev_sub, ev_subl, ev_lsub, ev_lt, ev_ltl, ev_llt, ev_le, ev_lel, ev_lle, ev_eq, ev_eql, ev_leq, ev_nm1, ev_nm5, ev_m1n, ev_neg1, ev_ltT, ev_ltF, ev_leT, ev_leF, ev_eqT, ev_eqF, ev_one0, ev_zero1, Nat.reduceAdd, Nat.reduceMul, Nat.reduceSub, ea_pI_eq, ev_pIn, ev_pIe, ea_pI_r, eq_self], rfl⟩
  have hG0 : WX (ea_pI M 100 29 (0 : Int32)) [] := ⟨by simp (disch := omega) only [ev_ck, ev_ci, ev_cv, ev_lt_, ↓reduceIte, ev_lens, ev_ix, ev_nz, ev_cl, ev_cll, ev_add, ev_addl, ev_ladd, ev_mul, ev_mull, ev_lmul, ev_sub, ev_subl, ev_lsub, ev_lt, ev_ltl, ev_llt, ev_le, ev_lel, ev_lle, ev_eq, ev_eql, ev_leq, ev_nm1, ev_nm5, ev_m1n, ev_neg1, ev_ltT, ev_ltF, ev_leT, ev_leF, ev_eqT, ev_eqF, ev_one0, ev_zero1, Nat.reduceAdd, Nat.reduceMul, Nat.reduceSub, ea_pI_eq, ev_pIn, ev_pIe, ea_pI_r, eq_self]; rfl, fun i hi => absurd hi (Nat.not_lt_zero _)⟩
  obtain ⟨M1, e1, G1, F1⟩ := py_wl (hC.kp hF0.kp) hG0 (by decide) hcell hk (side := 0) (by decide) fX11_findWords_55 99999
  have n1 := sg_look_len (l := l) (z := lst (lkp l cell 0 known) (q 0)) (side := 0)
  obtain ⟨M2, e2, G2, F2⟩ := py_wl (hC.kp (hF0.trans F1).kp) G1 (by rw [List.nil_append]; omega) hcell hk (side := 1) (by decide) fX11_findWords_55 99998
  obtain ⟨M', r1, r2, r3⟩ := py_wt hC hcell hk (q 1) ea_N 0 M2 (by omega) (by omega) (by unfold ea_N; have := hC.2.1.1.2.1; omega) ((hF0.trans F1).trans F2) G2
  refine ⟨M', ?_, r2, r3⟩
  unfold fX11_findWords fX11_findWords_0
  refine (show fX11_findWords_7 fX11_findWords_55 ea_N (nI cell) (nI known) 0 _ = _ from e1).trans (e2.trans ?_)
  show fX11_findWords_7 fX11_findWords_55 (99997 + 1) (nI cell) (nI known) (nI 2) M2 = _
  simp (disch := omega) only [ev_ck, ev_ci, ev_cv, ev_lt_, ↓reduceIte, ev_lens, ev_ix, ev_nz, ev_cl, ev_cll, ev_add, ev_addl, ev_ladd, ev_mul, ev_mull, ev_lmul, ev_sub, ev_subl, ev_lsub, ev_lt, ev_ltl, ev_llt, ev_le, ev_lel, ev_lle, ev_eq, ev_eql, ev_leq, ev_nm1, ev_nm5, ev_m1n, ev_neg1, ev_ltT, ev_ltF, ev_leT, ev_leF, ev_eqT, ev_eqF, ev_one0, ev_zero1, Nat.reduceMul, Nat.reduceSub, ea_pI_eq, ev_pIn, ev_pIe, ea_pI_r, eq_self, fX11_findWords_7, fX11_findWords_55]
  exact r1
end GW
