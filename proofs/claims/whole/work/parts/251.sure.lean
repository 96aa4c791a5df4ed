theorem kp_pI {M : eM} {c k : Nat} {x : Int32} (h : (46 ≤ c ∧ c < 100 ∧ c ≠ 52 ∧ c ≠ 62) ∨ 116 ≤ c) : Kp M (ea_pI M c k x) := by
  refine ⟨⟨fun a j hj => ?_, rfl⟩, fun a j ha hj => ?_⟩
  · have := isInv_in hj
    rw [ea_pI_ne (by omega)]
  · rw [ea_pI_ne (by omega)]
def thr (n : Nat → Nat) (v : Nat → Nat → Nat) (th : Nat) (o w q : Nat → Nat) (l t r : Nat → Nat → Nat) (s kn cell : Nat) : Int32 := if ct (gk n v o w q l t r s kn cell) th = 1 then hd1 (LL n v th o w q l t r s kn cell) else -1
theorem cnt_all {p : Nat → Bool} : ∀ k, (∀ x, x < k → p x = true) → cnt p k = k
  | 0, _ => rfl
  | k + 1, h => by rw [cnt_s, cnt_all k (fun x hx => h x (by omega)), h k (by omega), if_pos rfl]
section SU
variable {M : eM} {a cc th : Nat} {n : Nat → Nat} {v : Nat → Nat → Nat} {o w q : Nat → Nat} {l t r : Nat → Nat → Nat} {s kn cell : Nat}
theorem thr_b (hC : Ctx M cc n v th o w q l t r) : thr n v th o w q l t r s kn cell = -1 ∨ ∃ x, x < 855 ∧ thr n v th o w q l t r s kn cell = nI x := by
  unfold thr
  by_cases h : ct (gk n v o w q l t r s kn cell) th = 1
  · rw [if_pos h]
    have hm := fun e he => @LL_mem th n v o w q l t r s kn cell e he
    have hth := hC.1.2.2.2.2.2.2.1.1.1
    cases hL : LL n v th o w q l t r s kn cell with
    | nil => exact Or.inl rfl
    | cons e R =>
      have := hm e (by rw [hL]; exact List.mem_cons_self)
      exact Or.inr ⟨e.1, by omega, rfl⟩
  · rw [if_neg h]; exact Or.inl rfl
theorem blank_fk (hS : sgs q l t r cell kn = []) {x p : Nat} : gk n v o w q l t r s kn cell x p = decide (p < n 7 + 1) := by
  unfold gk fk
  rw [hS]
  exact Bool.and_true _
theorem blank_ct (hS : sgs q l t r cell kn = []) : ct (gk n v o w q l t r s kn cell) th = th := by
  unfold ct
  refine cnt_all th (fun x _ => decide_eq_true (fun hz => ?_))
  have := (mk_z _).mp hz 0 (by decide)
  rw [blank_fk hS, decide_eq_true (by omega)] at this
  cases this
theorem px_sure (hC : Ctx M cc n v th o w q l t r) (hcell : cell < 48) (hk : kn < 1000) (hs : s < n 5) : ∃ M', fX10_sureThread (nI cell) (nI s) (nI kn) M = some (thr n v th o w q l t r s kn cell, M') ∧ FrF 50 M M' := by
  have bl := px_blank hC hcell hk
  have hTh := hC.1.2.2.2.2.2.2.1
  unfold fX10_sureThread fX10_sureThread_0
  rw [bl, ev_ci]
  by_cases h : sgs q l t r cell kn = []
  · refine ⟨M, ?_, FrF.rf 50 M⟩
    rw [if_pos h, if_neg (by decide)]
    unfold thr
    rw [blank_ct h, if_neg (by
      rcases Nat.eq_zero_or_pos (n 4) with h4 | h4
      · have := hTh.2.1 h4; omega
      · have := hTh.2.2.1 h4; omega)]
  · obtain ⟨M1, e1, f1, r1⟩ := px_find (a := 50) (Or.inl rfl) hC hcell hk hs
    refine ⟨M1, ?_, r1⟩
    have f8 : M1.1 50 8 = nI (ct (gk n v o w q l t r s kn cell) th) := f1.2.2.2.1
    have f9 : M1.1 50 9 = hd1 (LL n v th o w q l t r s kn cell) := f1.2.2.2.2
    have hct : ct (gk n v o w q l t r s kn cell) th ≤ th := cnt_le _ _
    have hth := hTh.1.1
    rw [if_neg h, if_pos rfl, e1, ev_cv, f8, f9]
    unfold thr
    by_cases h1 : ct (gk n v o w q l t r s kn cell) th = 1
    · rw [if_pos h1, h1, if_pos (by decide)]
    · rw [if_neg h1, if_neg (by rw [show (1 : Int32) = nI 1 from rfl, pn_eqI (by omega) (by omega)]; exact h1)]
theorem ct_pl {g : Nat → Nat → Bool} {pc : Nat} (hp : pc ≤ 4) (hg : ∀ x p, pc ≤ p → g x p = false) : ∀ j, pl g pc j = [] → ct g j = 0
  | 0, _ => rfl
  | j + 1, h => by
    rw [pl_s] at h
    obtain ⟨h1, h2⟩ := List.append_eq_nil_iff.mp h
    obtain ⟨-, -, p3, -⟩ := plk_pop (x := j) hp (hg j)
    show cnt _ j + (if decide (mk (g j) ≠ 0) = true then 1 else 0) = 0
    have := ct_pl hp hg j h1
    unfold ct at this
    rw [this, if_neg (by simp [p3.mp h2])]
theorem py_only (hC : Ctx M cc n v th o w q l t r) (hcell : cell < 48) (hk : kn < 1000) (hs : s < n 5) : ∃ M', fX11_onlyThread (nI cell) (nI s) (nI kn) M = some (thr n v th o w q l t r s kn cell, M') ∧ FrW M M' := by
  obtain ⟨M1, e1, f1, g1, r1⟩ := py_findFits hC hcell hk hs
  have h7 := hC.1.2.2.2.1.2.2.2.2.2.2.2.1
  refine ⟨M1, ?_, r1⟩
  have f1 : FL M1 v (LL n v th o w q l t r s kn cell) := f1
  have g1 : M1.1 100 34 = nI (ct (gk n v o w q l t r s kn cell) th) := g1
  have hct : ct (gk n v o w q l t r s kn cell) th ≤ th := cnt_le _ _
  have hth := hC.1.2.2.2.2.2.2.1.1.1
  unfold fX11_onlyThread fX11_onlyThread_0
  rw [e1, ev_cv, g1]
  unfold thr
  by_cases h1 : ct (gk n v o w q l t r s kn cell) th = 1
  · rw [if_pos h1, h1, if_pos (by decide), show (0 : Int32).toNatClampNeg = 0 from rfl]
    cases hL : LL n v th o w q l t r s kn cell with
    | nil =>
      have h00 := ct_pl (g := gk n v o w q l t r s kn cell) (show n 7 + 1 ≤ 4 by omega) (fun x p hp => gk_f hp) th hL
      rw [h00] at h1
      cases h1
    | cons e R =>
      rw [hL] at f1
      have e119 : M1.1 119 0 = nI e.1 := (f1.2 0 (Nat.zero_lt_succ _)).1
      rw [e119]
      rfl
  · rw [if_neg h1, if_neg (by rw [show (1 : Int32) = nI 1 from rfl, pn_eqI (by omega) (by omega)]; exact h1)]
end SU
/-- how many come twice, told by the first and by the second -/
def PA (u : Nat → Int32) (N i : Nat) : Bool := decide (u i ≠ -1) && (decide (cnt (fun j => decide (u j = u i)) i = 0) && decide (0 < cnt (fun j => decide (u j = u i)) N - cnt (fun j => decide (u j = u i)) (i + 1)))
def PB (u : Nat → Int32) (i : Nat) : Bool := decide (u i ≠ -1) && decide (cnt (fun j => decide (u j = u i)) i = 1)
theorem cnt_congr {p p' : Nat → Bool} : ∀ k, (∀ x, x < k → p x = p' x) → cnt p k = cnt p' k
  | 0, _ => rfl
  | k + 1, h => by rw [cnt_s, cnt_s, cnt_congr k (fun x hx => h x (by omega)), h k (by omega)]
theorem cnt_mono (p : Nat → Bool) {i : Nat} : ∀ d, cnt p i ≤ cnt p (i + d)
  | 0 => Nat.le_refl _
  | d + 1 => by
    have := cnt_mono p (i := i) d
    show cnt p i ≤ cnt p (i + d) + _
    omega
theorem cnt_mono' (p : Nat → Bool) {i k : Nat} (h : i ≤ k) : cnt p i ≤ cnt p k := by
  have := cnt_mono p (i := i) (k - i)
  rwa [show i + (k - i) = k by omega] at this
theorem cnt_one {p p' : Nat → Bool} {i0 : Nat} (h0 : p i0 = false) (h1 : p' i0 = true) : ∀ k, (∀ x, x < k → x ≠ i0 → p' x = p x) → cnt p' k = cnt p k + (if i0 < k then 1 else 0)
  | 0, _ => by rw [if_neg (Nat.not_lt_zero _)]; rfl
  | k + 1, h => by
    rw [cnt_s, cnt_s, cnt_one h0 h1 k (fun x hx => h x (by omega))]
    by_cases e : k = i0
    · subst e
      simp [h0, h1]
    · rw [h k (by omega) e]
      by_cases hlt : i0 < k
      · rw [if_pos hlt, if_pos (show i0 < k + 1 by omega)]; omega
      · rw [if_neg hlt, if_neg (show ¬ i0 < k + 1 by omega)]; omega
theorem cnt_ex {p : Nat → Bool} : ∀ {k : Nat}, 0 < cnt p k → ∃ i, i < k ∧ p i = true ∧ cnt p i = 0
  | 0, h => absurd h (Nat.lt_irrefl _)
  | k + 1, h => by
    by_cases h0 : 0 < cnt p k
    · obtain ⟨i, h1, h2⟩ := cnt_ex h0
      exact ⟨i, by omega, h2⟩
    · rw [cnt_s] at h
      by_cases hp : p k = true
      · exact ⟨k, by omega, hp, by omega⟩
      · rw [if_neg hp] at h; omega
theorem cnt_none {p : Nat → Bool} : ∀ {k : Nat}, cnt p k = 0 → ∀ i, i < k → p i = false
  | 0, _, i, hi => absurd hi (Nat.not_lt_zero _)
  | k + 1, h, i, hi => by
    rw [cnt_s] at h
    by_cases hp : p k = true
    · rw [if_pos hp] at h; omega
    · rw [if_neg hp] at h
      rcases Nat.lt_or_ge i k with q | q
      · exact cnt_none (by omega) i q
      · have e : i = k := by omega
        subst e
        exact Bool.eq_false_iff.mpr hp
theorem twice (u : Nat → Int32) : ∀ N, cnt (PA u N) N = cnt (PB u) N
  | 0 => rfl
  | N + 1 => by
    have ih := twice u N
    have last : PA u (N + 1) N = false := by
      unfold PA
      rw [Nat.sub_self, decide_eq_false (p := 0 < 0) (by decide), Bool.and_false, Bool.and_false]
    rw [cnt_s, cnt_s, last, if_neg (by decide), ← ih, Nat.add_zero]
    -- the count of the new value so far
    have pa : ∀ i, i < N → u i ≠ u N → PA u (N + 1) i = PA u N i := by
      intro i hi hne
      unfold PA
      rw [cnt_s _ N, if_neg (by rw [decide_eq_true_eq]; exact fun e => hne e.symm), Nat.add_zero]
    by_cases hx : u N = -1
    · rw [show PB u N = false from by unfold PB; rw [decide_eq_false (p := u N ≠ -1) (fun h => h hx)]; rfl, if_neg (by decide), Nat.add_zero]
      refine cnt_congr N (fun i hi => ?_)
      by_cases e : u i = u N
      · unfold PA
        rw [decide_eq_false (p := u i ≠ -1) (fun h => h (e.trans hx))]
        rfl
      · exact pa i hi e
    · generalize hp : (fun j => decide (u j = u N)) = p
      have pp : ∀ i, u i = u N → (fun j => decide (u j = u i)) = p := fun i hi => by rw [hi, hp]
      have hpN : p N = true := by rw [← hp]; exact decide_eq_true rfl
      have hpi : ∀ i, p i = true ↔ u i = u N := fun i => by rw [← hp]; exact decide_eq_true_iff
      have eB : PB u N = decide (cnt p N = 1) := by unfold PB; rw [hp, decide_eq_true (p := u N ≠ -1) hx, Bool.true_and]
      have eA : ∀ K i, u i = u N → PA u K i = (decide (cnt p i = 0) && decide (0 < cnt p K - cnt p (i + 1))) := fun K i hi => by
        unfold PA
        rw [pp i hi, decide_eq_true (p := u i ≠ -1) (fun h => hx (hi.symm.trans h)), Bool.true_and]
      rw [eB]
      have hN1 : cnt p (N + 1) = cnt p N + 1 := by rw [cnt_s, hpN, if_pos rfl]
      rcases (show cnt p N = 0 ∨ cnt p N = 1 ∨ 2 ≤ cnt p N by omega) with h0 | h0 | h0
      · rw [h0, if_neg (by decide), Nat.add_zero]
        refine cnt_congr N (fun i hi => pa i hi (fun e => ?_))
        have := cnt_none h0 i hi
        rw [(hpi i).mpr e] at this
        cases this
      · rw [decide_eq_true h0, if_pos rfl]
        obtain ⟨i0, g1, g2, g3⟩ := cnt_ex (show 0 < cnt p N by omega)
        have hu := (hpi i0).mp g2
        have e1 : cnt p (i0 + 1) = 1 := by rw [cnt_s, g3, g2, if_pos rfl]
        rw [cnt_one (p := PA u N) (p' := PA u (N + 1)) (i0 := i0) (by rw [eA N i0 hu, e1, h0]; simp) (by rw [eA _ i0 hu, e1, g3, hN1, h0]; rfl) N (fun i hi hne => ?_), if_pos g1]
        by_cases e : u i = u N
        · -- a second place would count
          exfalso
          have hpi' := (hpi i).mpr e
          rcases Nat.lt_or_ge i i0 with hl | hl
          · have := cnt_none g3 i hl
            rw [hpi'] at this
            cases this
          · have m1 := cnt_mono' p (show i0 + 1 ≤ i by omega)
            have m2 := cnt_mono' p (show i + 1 ≤ N by omega)
            rw [cnt_s, hpi', if_pos rfl] at m2
            omega
        · exact pa i hi e
      · rw [decide_eq_false (p := cnt p N = 1) (by omega), if_neg (by decide), Nat.add_zero]
        refine cnt_congr N (fun i hi => ?_)
        by_cases e : u i = u N
        · rw [eA _ i e, eA _ i e, hN1]
          have hpi' := (hpi i).mpr e
          have e1 : cnt p (i + 1) = cnt p i + 1 := by rw [cnt_s, hpi', if_pos rfl]
          by_cases hz : cnt p i = 0
          · rw [decide_eq_true (p := 0 < cnt p N + 1 - cnt p (i + 1)) (by omega), decide_eq_true (p := 0 < cnt p N - cnt p (i + 1)) (by omega)]
          · rw [decide_eq_false hz]; rfl
        · exact pa i hi e
section AM
variable {M : eM} {cc th : Nat} {n : Nat → Nat} {v : Nat → Nat → Nat} {o w q : Nat → Nat} {l t r : Nat → Nat → Nat} {s kn : Nat}
theorem px_among {u : Nat → Int32} {N : Nat} (hN : N ≤ 48) (hu : ∀ i, i < N → M.1 79 i = u i) (x : Int32) {f0 t0 : Nat} (h1 : f0 ≤ t0) (h2 : t0 ≤ N) : fX10_sureAmong x (nI f0) (nI t0) M = some (nI (cnt (fun j => decide (u j = x)) t0 - cnt (fun j => decide (u j = x)) f0), M) := by
  generalize hp : (fun j => decide (u j = x)) = p
  have lp : ∀ (d k i : Nat), t0 - i = d → f0 ≤ i → i ≤ t0 → d < k → fX10_sureAmong_6 k x (nI t0) (nI (cnt p i - cnt p f0)) (nI i) M = some (nI (cnt p t0 - cnt p f0), M) := by
    intro d
    induction d with
    | zero =>
      intro k i hd hf hi hk
      obtain ⟨k, rfl⟩ : ∃ f', k = f' + 1 := ⟨k - 1, by omega⟩
      obtain rfl : i = t0 := by omega
      simp (disch := omega) only [ev_ck, ev_ci, ev_cv, ev_lt_, ↓reduceIte, ev_lens, ev_ix, ev_nz, ev_cl, ev_cll, ev_add, ev_addl, ev_ladd, ev_mul, ev_mull, ev_lmul, ev_sub, ev_subl, ev_lsub, ev_lt, ev_ltl, ev_llt, ev_le, ev_lel, ev_lle, ev_eq, ev_eql, ev_leq, ev_nm1, ev_nm5, ev_m1n, ev_neg1, ev_ltT, ev_ltF, ev_leT, ev_leF, ev_eqT, ev_eqF, ev_one0, ev_zero1, Nat.reduceAdd, Nat.reduceMul, Nat.reduceSub, ea_pI_eq, ev_pIn, ev_pIe, ea_pI_r, eq_self, fX10_sureAmong_6]
    | succ d ih =>
      intro k i hd hf hi hk
      obtain ⟨k, rfl⟩ : ∃ f', k = f' + 1 := ⟨k - 1, by omega⟩
      have nx := ih k (i + 1) (by omega) (by omega) (by omega) (by omega)
      have ui := hu i (by omega)
      have hle := cnt_le p i
      have hmo := cnt_mono' p hf
      rw [cnt_s] at nx
      have e79 : nI (ea_len 79) = nI 48 := rfl
      by_cases hz : u i = x
      · rw [if_pos (by rw [← hp]; exact decide_eq_true hz), show cnt p i + 1 - cnt p f0 = cnt p i - cnt p f0 + 1 by omega] at nx
        rw [fX10_sureAmong_6, e79]
        simp (disch := omega) only [ev_ck, ev_ci, ev_cv, ev_lt_, ↓reduceIte, ev_lens, ev_ix, ev_nz, ev_cl, ev_cll, ev_add, ev_addl, ev_ladd, ev_mul, ev_mull, ev_lmul, ev_sub, ev_subl, ev_lsub, ev_lt, ev_ltl, ev_llt, ev_le, ev_lel, ev_lle, ev_eq, ev_eql, ev_leq, ev_nm1, ev_nm5, ev_m1n, ev_neg1, ev_ltT, ev_ltF, ev_leT, ev_leF, ev_eqT, ev_eqF, ev_one0, ev_zero1, Nat.reduceAdd, Nat.reduceMul, Nat.reduceSub, ea_pI_eq, ev_pIn, ev_pIe, ea_pI_r, eq_self, ui, hz, fX10_sureAmong_40]
        exact nx
      · rw [if_neg (by rw [← hp]; exact fun h => hz (of_decide_eq_true h)), show cnt p i + 0 - cnt p f0 = cnt p i - cnt p f0 + 0 by omega] at nx
        rw [fX10_sureAmong_6, e79]
        simp (disch := omega) only [ev_ck, ev_ci, ev_cv, ev_lt_, ↓reduceIte, ev_lens, ev_ix, ev_nz, ev_cl, ev_cll, ev_add, ev_addl, ev_ladd, ev_mul, ev_mull, ev_lmul, ev_sub, ev_subl, ev_lsub, ev_lt, ev_ltl, ev_llt, ev_le, ev_lel, ev_lle, ev_eq, ev_eql, ev_leq, ev_nm1, ev_nm5, ev_m1n, ev_neg1, ev_ltT, ev_ltF, ev_leT, ev_leF, ev_eqT, ev_eqF, ev_one0, ev_zero1, Nat.reduceAdd, Nat.reduceMul, Nat.reduceSub, ea_pI_eq, ev_pIn, ev_pIe, ea_pI_r, eq_self, ui, eq_false hz, fX10_sureAmong_40]
        exact nx
  have := lp (t0 - f0) ea_N f0 rfl (Nat.le_refl _) h1 (by unfold ea_N; omega)
  rw [Nat.sub_self] at this
  exact this
theorem gx_cells (h : pn_C M cc n v th o w) : fX1_cells cc M = some (nI (n 0 * n 1), M) := by
  unfold fX1_cells fX1_cells_0
  rw [h.2.2.2.2.1.1.1, h.2.2.2.2.1.1.2.1, ev_mul]
theorem sz_vats (x1 x2 : Int32) : ea_st InvZ (fX10_vats x1 x2) (fX11_vats x1 x2) := by
  refine ea_qz (fun M c n v th o w q l t r hC => ?_)
  have ho := hC.1.2.2.2.1
  have h5 := ho.2.2.2.2.2.1
  have hcl : n 0 * n 1 ≤ 48 := Nat.mul_le_mul ho.1.2 ho.2.1.2
  have gx := gx_story hC.1 x1
  have gx2 := gx_step (M := M) x2
  rcases (pb_01 x1 0 (nI (n 5) - 1)) with hb | hb
  · refine ⟨-2, ⟨M, by unfold fX10_vats fX10_vats_0; rw [gx, hb, ev_ci, if_pos rfl], Kp.rf M⟩, fun M1 h1 => ⟨M1, ?_, Kp.rf M1⟩⟩
    have gy := gy_story h1.1 x1
    unfold fX11_vats fX11_vats_0
    rw [gy, hb, ev_ci, if_pos rfl]
  rcases (pb_01 x2 0 (nI 1000 - 1)) with hb2 | hb2
  · refine ⟨-2, ⟨M, by unfold fX10_vats fX10_vats_0; rw [gx, hb, ev_ci, if_neg (by decide), gx2, hb2, ev_ci, if_pos rfl], Kp.rf M⟩, fun M1 h1 => ⟨M1, ?_, Kp.rf M1⟩⟩
    have gy := gy_story h1.1 x1
    have gy2 := gy_step (M := M1) x2
    unfold fX11_vats fX11_vats_0
    rw [gy, hb, ev_ci, if_neg (by decide), gy2, hb2, ev_ci, if_pos rfl]
  obtain ⟨s, hs, rfl⟩ := pb_nat0 (by omega) hb
  obtain ⟨kn, hk, rfl⟩ := pb_nat0 (by decide) hb2
  have ub := fun cell => thr_b hC (s := s) (kn := kn) (cell := cell)
  have sx : ∀ M1 cell, Ctx M1 c n v th o w q l t r → cell < 48 → ∃ M', fX10_sureThread (nI cell) (nI s) (nI kn) M1 = some (thr n v th o w q l t r s kn cell, M') ∧ FrF 50 M1 M' := fun M1 cell h1 h2 => px_sure h1 h2 hk hs
  have sy : ∀ M1 cell, Ctx M1 c n v th o w q l t r → cell < 48 → ∃ M', fX11_onlyThread (nI cell) (nI s) (nI kn) M1 = some (thr n v th o w q l t r s kn cell, M') ∧ FrW M1 M' := fun M1 cell h1 h2 => py_only h1 h2 hk hs
  generalize thr n v th o w q l t r s kn = u at ub sx sy
  refine ⟨nI (cnt (PB u) (n 0 * n 1)), ?_, fun M3 h3 => ?_⟩
  · generalize hN : n 0 * n 1 = N at hcl
    have l1 : ∀ (d k i : Nat) (M1 : eM), N - i = d → i ≤ N → d < k → Kp M M1 → (∀ j, j < i → M1.1 79 j = u j) → ∃ M2, fX10_vats_32 fX10_vats_59 k (nI s) (nI kn) (nI N) (nI i) M1 = fX10_vats_59 (nI N) M2 ∧ Kp M M2 ∧ ∀ j, j < N → M2.1 79 j = u j := by
      intro d
      induction d with
      | zero =>
        intro k i M1 hd hi hk2 hK hu
        obtain ⟨k, rfl⟩ : ∃ f', k = f' + 1 := ⟨k - 1, by omega⟩
        refine ⟨M1, ?_, hK, fun j hj => hu j (by omega)⟩
        simp (disch := omega) only [ev_ck, ev_ci, ev_cv, ev_lt_, ↓reduceIte, ev_lens, ev_ix, ev_nz, ev_cl, ev_cll, ev_add, ev_addl, ev_ladd, ev_mul, ev_mull, ev_lmul, ev_sub, ev_subl, ev_lsub, ev_lt, ev_ltl, ev_llt, ev_le, ev_lel, ev_lle, ev_eq, ev_eql, ev_leq, ev_nm1, ev_nm5, ev_m1n, ev_neg1, ev_ltT, ev_ltF, ev_leT, ev_leF, ev_eqT, ev_eqF, ev_one0, ev_zero1, Nat.reduceAdd, Nat.reduceMul, Nat.reduceSub, ea_pI_eq, ev_pIn, ev_pIe, ea_pI_r, eq_self, fX10_vats_32]
      | succ d ih =>
        intro k i M1 hd hi hk2 hK hu
        obtain ⟨k, rfl⟩ : ∃ f', k = f' + 1 := ⟨k - 1, by omega⟩
        obtain ⟨M2, e2, r2⟩ := sx M1 i (hC.kp hK) (by omega)
        obtain ⟨M', q1, q2⟩ := ih k (i + 1) (ea_pI M2 79 i (u i)) (by omega) (by omega) (by omega) ((hK.trans (r2.kp (Or.inl rfl))).trans (kp_pI (by omega))) (fun j hj => by
          by_cases e : j = i
          · rw [e, ea_pI_eq]
          · rw [ea_pI_ne (by omega), r2.1 _ _ (by omega)]
            exact hu j (by omega))
        refine ⟨M', ?_, q2⟩
        simp (disch := omega) only [ev_ck, ev_ci, ev_cv, ev_lt_, ↓reduceIte, ev_lens, ev_ix, ev_nz, ev_cl, ev_cll, ev_add, ev_addl, ev_ladd, ev_mul, ev_mull, ev_lmul, ev_sub, ev_subl, ev_lsub, ev_lt, ev_ltl, ev_llt, ev_le, ev_lel, ev_lle, ev_eq, ev_eql, ev_leq, ev_nm1, ev_nm5, ev_m1n, ev_neg1, ev_ltT, ev_ltF, ev_leT, ev_leF, ev_eqT, ev_eqF, ev_one0, ev_zero1, Nat.reduceAdd, Nat.reduceMul, Nat.reduceSub, ea_pI_eq, ev_pIn, ev_pIe, ea_pI_r, eq_self, fX10_vats_32, e2]
        exact q1
    obtain ⟨M2, e2, k2, u2⟩ := l1 N ea_N 0 M (by omega) (by omega) (by unfold ea_N; omega) (Kp.rf M) (fun j hj => by omega)
    have l2 : ∀ (d k i : Nat), N - i = d → i ≤ N → d < k → fX10_vats_65 k (nI N) (nI (cnt (PA u N) i)) (nI i) M2 = some (nI (cnt (PA u N) N), M2) := by
      intro d
      induction d with
      | zero =>
        intro k i hd hi hk2
        obtain ⟨k, rfl⟩ : ∃ f', k = f' + 1 := ⟨k - 1, by omega⟩
        obtain rfl : i = N := by omega
        simp (disch := omega) only [ev_ck, ev_ci, ev_cv, ev_lt_, ↓reduceIte, ev_lens, ev_ix, ev_nz, ev_cl, ev_cll, ev_add, ev_addl, ev_ladd, ev_mul, ev_mull, ev_lmul, ev_sub, ev_subl, ev_lsub, ev_lt, ev_ltl, ev_llt, ev_le, ev_lel, ev_lle, ev_eq, ev_eql, ev_leq, ev_nm1, ev_nm5, ev_m1n, ev_neg1, ev_ltT, ev_ltF, ev_leT, ev_leF, ev_eqT, ev_eqF, ev_one0, ev_zero1, Nat.reduceAdd, Nat.reduceMul, Nat.reduceSub, ea_pI_eq, ev_pIn, ev_pIe, ea_pI_r, eq_self, fX10_vats_65]
      | succ d ih =>
        intro k i hd hi hk2
        obtain ⟨k, rfl⟩ : ∃ f', k = f' + 1 := ⟨k - 1, by omega⟩
        have nx := ih k (i + 1) (by omega) (by omega) (by omega)
        have ui := u2 i (by omega)
        have hle := cnt_le (PA u N) i
        have a1 := px_among hcl u2 (u i) (f0 := 0) (t0 := i) (by omega) (by omega)
        have a1 : fX10_sureAmong (u i) 0 (nI i) M2 = some (nI (cnt (fun j => decide (u j = u i)) i - 0), M2) := a1
        have a2 := px_among hcl u2 (u i) (f0 := i + 1) (t0 := N) (by omega) (by omega)
        have b1 := cnt_le (fun j => decide (u j = u i)) i
        have b2 := cnt_le (fun j => decide (u j = u i)) N
        rw [cnt_s] at nx
        have eP : PA u N i = (decide (u i ≠ -1) && (decide (cnt (fun j => decide (u j = u i)) i = 0) && decide (0 < cnt (fun j => decide (u j = u i)) N - cnt (fun j => decide (u j = u i)) (i + 1)))) := rfl
        generalize cnt (fun j => decide (u j = u i)) i = z1 at a1 b1 eP
        generalize hz2 : cnt (fun j => decide (u j = u i)) N - cnt (fun j => decide (u j = u i)) (i + 1) = z2 at a2 eP
        have b2 : z2 ≤ N := by omega
        by_cases hm : u i = -1
        · rw [eP, decide_eq_false (p := u i ≠ -1) (fun h => h hm), Bool.false_and, if_neg (by decide)] at nx
          rw [hm] at ui
          simp (disch := omega) only [ev_ck, ev_ci, ev_cv, ev_lt_, ↓reduceIte, ev_lens, ev_ix, ev_nz, ev_cl, ev_cll, ev_add, ev_addl, ev_ladd, ev_mul, ev_mull, ev_lmul, ev_sub, ev_subl, ev_lsub, ev_lt, ev_ltl, ev_llt, ev_le, ev_lel, ev_lle, ev_eq, ev_eql, ev_leq, ev_nm1, ev_nm5, ev_m1n, ev_neg1, ev_ltT, ev_ltF, ev_leT, ev_leF, ev_eqT, ev_eqF, ev_one0, ev_zero1, Nat.reduceAdd, Nat.reduceMul, Nat.reduceSub, ea_pI_eq, ev_pIn, ev_pIe, ea_pI_r, eq_self, fX10_vats_65, ui, fX10_vats_121]
          exact nx
        · rw [decide_eq_true (p := u i ≠ -1) hm, Bool.true_and] at eP
          by_cases h1 : z1 = 0
          · rw [decide_eq_true h1, Bool.true_and] at eP
            by_cases h2 : 0 < z2
            · rw [decide_eq_true h2] at eP
              rw [eP, if_pos rfl] at nx
              simp (disch := omega) only [ev_ck, ev_ci, ev_cv, ev_lt_, ↓reduceIte, ev_lens, ev_ix, ev_nz, ev_cl, ev_cll, ev_add, ev_addl, ev_ladd, ev_mul, ev_mull, ev_lmul, ev_sub, ev_subl, ev_lsub, ev_lt, ev_ltl, ev_llt, ev_le, ev_lel, ev_lle, ev_eq, ev_eql, ev_leq, ev_nm1, ev_nm5, ev_m1n, ev_neg1, ev_ltT, ev_ltF, ev_leT, ev_leF, ev_eqT, ev_eqF, ev_one0, ev_zero1, Nat.reduceAdd, Nat.reduceMul, Nat.reduceSub, ea_pI_eq, ev_pIn, ev_pIe, ea_pI_r, eq_self, fX10_vats_65, ui, eq_false hm, a1, a2, fX10_vats_121]
              exact nx
            · rw [decide_eq_false h2] at eP
              rw [eP, if_neg (by decide)] at nx
              simp (disch := omega) only [ev_ck, ev_ci, ev_cv, ev_lt_, ↓reduceIte, ev_lens, ev_ix, ev_nz, ev_cl, ev_cll, ev_add, ev_addl, ev_ladd, ev_mul, ev_mull, ev_lmul, ev_sub, ev_subl, ev_lsub, ev_lt, ev_ltl, ev_llt, ev_le, ev_lel, ev_lle, ev_eq, ev_eql, ev_leq, ev_nm1, ev_nm5, ev_m1n, ev_neg1, ev_ltT, ev_ltF, ev_leT, ev_leF, ev_eqT, ev_eqF, ev_one0, ev_zero1, Nat.reduceAdd, Nat.reduceMul, Nat.reduceSub, ea_pI_eq, ev_pIn, ev_pIe, ea_pI_r, eq_self, fX10_vats_65, ui, eq_false hm, a1, a2, fX10_vats_121]
              exact nx
          · rw [decide_eq_false h1, Bool.false_and] at eP
            rw [eP, if_neg (by decide)] at nx
            simp (disch := omega) only [ev_ck, ev_ci, ev_cv, ev_lt_, ↓reduceIte, ev_lens, ev_ix, ev_nz, ev_cl, ev_cll, ev_add, ev_addl, ev_ladd, ev_mul, ev_mull, ev_lmul, ev_sub, ev_subl, ev_lsub, ev_lt, ev_ltl, ev_llt, ev_le, ev_lel, ev_lle, ev_eq, ev_eql, ev_leq, ev_nm1, ev_nm5, ev_m1n, ev_neg1, ev_ltT, ev_ltF, ev_leT, ev_leF, ev_eqT, ev_eqF, ev_one0, ev_zero1, Nat.reduceAdd, Nat.reduceMul, Nat.reduceSub, ea_pI_eq, ev_pIn, ev_pIe, ea_pI_r, eq_self, fX10_vats_65, ui, eq_false hm, a1, a2, fX10_vats_121]
            exact nx
    refine ⟨M2, ?_, k2⟩
    have gc := gx_cells hC.1
    rw [hN] at gc
    unfold fX10_vats fX10_vats_0
    rw [gx, hb, ev_ci, if_neg (by decide), gx2, hb2, ev_ci, if_neg (by decide), hC.1.2.1, ea_ck_t (pn_is hC.1.1), gc, ev_ci]
    refine (show fX10_vats_32 _ ea_N (nI s) (nI kn) (nI N) 0 M = _ from e2).trans ?_
    rw [← twice]
    exact l2 N ea_N 0 (by omega) (by omega) (by unfold ea_N; omega)
  · have gy := gy_story h3.1 (nI s)
    have gy2 := gy_step (M := M3) (nI kn)
    have gcs := fun M1 (h1 : Ctx M1 c n v th o w q l t r) => gy_cells h1.1
    generalize hN : n 0 * n 1 = N at hcl gcs
    have l1 : ∀ (d k i : Nat) (M1 : eM), N - i = d → i ≤ N → d < k → Kp M3 M1 → (∀ j, j < i → M1.1 124 j = u j) → ∃ M2, fX11_vats_23 k (nI s) (nI kn) (nI (cnt (PB u) i)) (nI i) M1 = some (nI (cnt (PB u) N), M2) ∧ Kp M3 M2 := by
      intro d
      induction d with
      | zero =>
        intro k i M1 hd hi hk2 hK hu
        obtain ⟨k, rfl⟩ : ∃ f', k = f' + 1 := ⟨k - 1, by omega⟩
        obtain rfl : i = N := by omega
        have gc := gcs M1 (h3.kp hK)
        refine ⟨M1, ?_, hK⟩
        simp (disch := omega) only [ev_ck, ev_ci, ev_cv, ev_lt_, ↓reduceIte, ev_lens, ev_ix, ev_nz, ev_cl, ev_cll, ev_add, ev_addl, ev_ladd, ev_mul, ev_mull, ev_lmul, ev_sub, ev_subl, ev_lsub, ev_lt, ev_ltl, ev_llt, ev_le, ev_lel, ev_lle, ev_eq, ev_eql, ev_leq, ev_nm1, ev_nm5, ev_m1n, ev_neg1, ev_ltT, ev_ltF, ev_leT, ev_leF, ev_eqT, ev_eqF, ev_one0, ev_zero1, Nat.reduceAdd, Nat.reduceMul, Nat.reduceSub, ea_pI_eq, ev_pIn, ev_pIe, ea_pI_r, eq_self, fX11_vats_23, gc]
      | succ d ih =>
        intro k i M1 hd hi hk2 hK hu
        obtain ⟨k, rfl⟩ : ∃ f', k = f' + 1 := ⟨k - 1, by omega⟩
        have gc := gcs M1 (h3.kp hK)
        obtain ⟨M2, e2, r2⟩ := sy M1 i (h3.kp hK) (by omega)
        have u4 : ∀ j, j < i + 1 → (ea_pI M2 124 i (u i)).1 124 j = u j := fun j hj => by
          by_cases e : j = i
          · rw [e, ea_pI_eq]
          · rw [ea_pI_ne (by omega), r2.1 _ _ (by omega) (by omega)]
            exact hu j (by omega)
        obtain ⟨M', q1, q2⟩ := ih k (i + 1) (ea_pI M2 124 i (u i)) (by omega) (by omega) (by omega) ((hK.trans r2.kp).trans (kp_pI (by omega))) u4
        refine ⟨M', ?_, q2⟩
        simp (disch := omega) only [ev_ck, ev_ci, ev_cv, ev_lt_, ↓reduceIte, ev_lens, ev_ix, ev_nz, ev_cl, ev_cll, ev_add, ev_addl, ev_ladd, ev_mul, ev_mull, ev_lmul, ev_sub, ev_subl, ev_lsub, ev_lt, ev_ltl, ev_llt, ev_le, ev_lel, ev_lle, ev_eq, ev_eql, ev_leq, ev_nm1, ev_nm5, ev_m1n, ev_neg1, ev_ltT, ev_ltF, ev_leT, ev_leF, ev_eqT, ev_eqF, ev_one0, ev_zero1, Nat.reduceAdd, Nat.reduceMul, Nat.reduceSub, ea_pI_eq, ev_pIn, ev_pIe, ea_pI_r, eq_self, fX11_vats_23, gc, e2]
        generalize ea_pI M2 124 i (u i) = M4 at u4 q1 ⊢
        have hle := cnt_le (PB u) i
        have ui := u4 i (by omega)
        rw [cnt_s] at q1
        have fin : ∀ x5, x5 ≤ 48 → PB u i = decide (x5 = 1) → fX11_vats_103 (fX11_vats_23 k) (nI s) (nI kn) (nI (cnt (PB u) i)) (nI i) (nI x5) M4 = some (nI (cnt (PB u) N), M') := by
          intro x5 hx5 e
          by_cases h1 : x5 = 1
          · rw [e, decide_eq_true h1, if_pos rfl] at q1
            simp (disch := omega) only [ev_ck, ev_ci, ev_cv, ev_lt_, ↓reduceIte, ev_lens, ev_ix, ev_nz, ev_cl, ev_cll, ev_add, ev_addl, ev_ladd, ev_mul, ev_mull, ev_lmul, ev_sub, ev_subl, ev_lsub, ev_lt, ev_ltl, ev_llt, ev_le, ev_lel, ev_lle, ev_eq, ev_eql, ev_leq, ev_nm1, ev_nm5, ev_m1n, ev_neg1, ev_ltT, ev_ltF, ev_leT, ev_leF, ev_eqT, ev_eqF, ev_one0, ev_zero1, Nat.reduceAdd, Nat.reduceMul, Nat.reduceSub, ea_pI_eq, ev_pIn, ev_pIe, ea_pI_r, eq_self, fX11_vats_103, fX11_vats_115]
            exact q1
          · rw [e, decide_eq_false h1, if_neg (by decide)] at q1
            simp (disch := omega) only [ev_ck, ev_ci, ev_cv, ev_lt_, ↓reduceIte, ev_lens, ev_ix, ev_nz, ev_cl, ev_cll, ev_add, ev_addl, ev_ladd, ev_mul, ev_mull, ev_lmul, ev_sub, ev_subl, ev_lsub, ev_lt, ev_ltl, ev_llt, ev_le, ev_lel, ev_lle, ev_eq, ev_eql, ev_leq, ev_nm1, ev_nm5, ev_m1n, ev_neg1, ev_ltT, ev_ltF, ev_leT, ev_leF, ev_eqT, ev_eqF, ev_one0, ev_zero1, Nat.reduceAdd, Nat.reduceMul, Nat.reduceSub, ea_pI_eq, ev_pIn, ev_pIe, ea_pI_r, eq_self, fX11_vats_103, fX11_vats_115]
            exact q1
        by_cases hm : u i = -1
        · have f0 := fin 0 (by decide) (by unfold PB; rw [decide_eq_false (p := u i ≠ -1) (fun h => h hm)]; rfl)
          rw [hm] at ui
          show fX11_vats_53 _ (99999 + 1) (nI s) (nI kn) (nI (cnt (PB u) i)) (nI i) 0 0 M4 = _
          by_cases hi0 : i = 0
          · subst hi0
            rw [fX11_vats_53, if_pos (by decide)]
            exact f0
          · simp (disch := omega) only [ev_ck, ev_ci, ev_cv, ev_lt_, ↓reduceIte, ev_lens, ev_ix, ev_nz, ev_cl, ev_cll, ev_add, ev_addl, ev_ladd, ev_mul, ev_mull, ev_lmul, ev_sub, ev_subl, ev_lsub, ev_lt, ev_ltl, ev_llt, ev_le, ev_lel, ev_lle, ev_eq, ev_eql, ev_leq, ev_nm1, ev_nm5, ev_m1n, ev_neg1, ev_ltT, ev_ltF, ev_leT, ev_leF, ev_eqT, ev_eqF, ev_one0, ev_zero1, Nat.reduceMul, Nat.reduceSub, ea_pI_eq, ev_pIn, ev_pIe, ea_pI_r, eq_self, fX11_vats_53, ui]
            exact f0
        · obtain ⟨x, hx, hux⟩ := (ub i).resolve_left hm
          have l2 : ∀ (d k2 j : Nat), i - j = d → j ≤ i → d < k2 → fX11_vats_53 (fX11_vats_103 (fX11_vats_23 k)) k2 (nI s) (nI kn) (nI (cnt (PB u) i)) (nI i) (nI (cnt (fun j => decide (u j = u i)) j)) (nI j) M4 = fX11_vats_103 (fX11_vats_23 k) (nI s) (nI kn) (nI (cnt (PB u) i)) (nI i) (nI (cnt (fun j => decide (u j = u i)) i)) M4 := by
            intro d
            induction d with
            | zero =>
              intro k2 j hd hj hk3
              obtain ⟨k2, rfl⟩ : ∃ f', k2 = f' + 1 := ⟨k2 - 1, by omega⟩
              obtain rfl : j = i := by omega
              simp (disch := omega) only [ev_ck, ev_ci, ev_cv, ev_lt_, ↓reduceIte, ev_lens, ev_ix, ev_nz, ev_cl, ev_cll, ev_add, ev_addl, ev_ladd, ev_mul, ev_mull, ev_lmul, ev_sub, ev_subl, ev_lsub, ev_lt, ev_ltl, ev_llt, ev_le, ev_lel, ev_lle, ev_eq, ev_eql, ev_leq, ev_nm1, ev_nm5, ev_m1n, ev_neg1, ev_ltT, ev_ltF, ev_leT, ev_leF, ev_eqT, ev_eqF, ev_one0, ev_zero1, Nat.reduceAdd, Nat.reduceMul, Nat.reduceSub, ea_pI_eq, ev_pIn, ev_pIe, ea_pI_r, eq_self, fX11_vats_53]
            | succ d ih2 =>
              intro k2 j hd hj hk3
              obtain ⟨k2, rfl⟩ : ∃ f', k2 = f' + 1 := ⟨k2 - 1, by omega⟩
              have nx := ih2 k2 (j + 1) (by omega) (by omega) (by omega)
              have uj := u4 j (by omega)
              have ui' : M4.1 124 i = nI x := ui.trans hux
              rw [cnt_s] at nx
              have hle := cnt_le (fun j => decide (u j = u i)) j
              by_cases hz : u j = u i
              · rw [if_pos (decide_eq_true hz)] at nx
                simp (disch := omega) only [ev_ck, ev_ci, ev_cv, ev_lt_, ↓reduceIte, ev_lens, ev_ix, ev_nz, ev_cl, ev_cll, ev_add, ev_addl, ev_ladd, ev_mul, ev_mull, ev_lmul, ev_sub, ev_subl, ev_lsub, ev_lt, ev_ltl, ev_llt, ev_le, ev_lel, ev_lle, ev_eq, ev_eql, ev_leq, ev_nm1, ev_nm5, ev_m1n, ev_neg1, ev_ltT, ev_ltF, ev_leT, ev_leF, ev_eqT, ev_eqF, ev_one0, ev_zero1, Nat.reduceAdd, Nat.reduceMul, Nat.reduceSub, ea_pI_eq, ev_pIn, ev_pIe, ea_pI_r, eq_self, fX11_vats_53, ui', uj, eq_true (hz.trans hux), fX11_vats_94]
                exact nx
              · rw [if_neg (fun h => hz (of_decide_eq_true h))] at nx
                have hzx : ¬ u j = nI x := fun h => hz (h.trans hux.symm)
                simp (disch := omega) only [ev_ck, ev_ci, ev_cv, ev_lt_, ↓reduceIte, ev_lens, ev_ix, ev_nz, ev_cl, ev_cll, ev_add, ev_addl, ev_ladd, ev_mul, ev_mull, ev_lmul, ev_sub, ev_subl, ev_lsub, ev_lt, ev_ltl, ev_llt, ev_le, ev_lel, ev_lle, ev_eq, ev_eql, ev_leq, ev_nm1, ev_nm5, ev_m1n, ev_neg1, ev_ltT, ev_ltF, ev_leT, ev_leF, ev_eqT, ev_eqF, ev_one0, ev_zero1, Nat.reduceAdd, Nat.reduceMul, Nat.reduceSub, ea_pI_eq, ev_pIn, ev_pIe, ea_pI_r, eq_self, fX11_vats_53, ui', uj, eq_false hzx, fX11_vats_94]
                exact nx
          refine (show fX11_vats_53 _ ea_N (nI s) (nI kn) (nI (cnt (PB u) i)) (nI i) 0 0 M4 = _ from l2 i ea_N 0 (by omega) (by omega) (by unfold ea_N; omega)).trans ?_
          exact fin _ (by have := cnt_le (fun j => decide (u j = u i)) i; omega) (by unfold PB; rw [decide_eq_true (p := u i ≠ -1) hm, Bool.true_and])
    obtain ⟨M2, e2, k2⟩ := l1 N ea_N 0 M3 (by omega) (by omega) (by unfold ea_N; omega) (Kp.rf M3) (fun j hj => by omega)
    refine ⟨M2, ?_, k2⟩
    unfold fX11_vats fX11_vats_0
    rw [gy, hb, ev_ci, if_neg (by decide), gy2, hb2, ev_ci, if_neg (by decide)]
    exact e2
end AM
