section RW
variable {B : Nat → Nat} {len cc : Nat}
/-- frames with a row -/
def GRX (ca ka m : Nat) (M M' : eM) : Prop := (∀ c k, (c ≠ 3 ∨ k = 5 ∨ k ≤ 1) → (c ≠ ca ∨ k < ka ∨ ka + m ≤ k) → M'.1 c k = M.1 c k) ∧ (∀ c k, c ≠ 3 → M'.2.1 c k = M.2.1 c k) ∧ M'.2.2 = M.2.2
def GRY (cb kb m : Nat) (M M' : eM) : Prop := (∀ c k, (c ≠ 100 ∨ k < 3 ∨ 11 < k ∨ k = 8 ∨ k = 9) → (c ≠ cb ∨ k < kb ∨ kb + m ≤ k) → M'.1 c k = M.1 c k) ∧ (∀ c k, c ≠ 100 → M'.2.1 c k = M.2.1 c k) ∧ M'.2.2 = M.2.2
theorem TY.cg {M M' : eM} {p : Nat} (h : TY M B len p) (e : ∀ k, M'.1 100 k = M.1 100 k) (e2 : M'.2.1 100 10 = M.2.1 100 10) : TY M' B len p := by
  unfold TY at h ⊢
  rw [e, e, e, e, e, e2]
  exact h
/-- what both hold alike -/
def ez (MX : eM) (a i : Nat) (MY : eM) (b j lo hi : Nat) : Prop := ∃ x, lo ≤ x ∧ x ≤ hi ∧ MX.1 a i = nI x ∧ MY.1 b j = nI x
theorem ez.cg {MX MY MX' MY' : eM} {a i b j lo hi : Nat} (h : ez MX a i MY b j lo hi) (e1 : MX'.1 a i = MX.1 a i) (e2 : MY'.1 b j = MY.1 b j) : ez MX' a i MY' b j lo hi := by
  unfold ez at h ⊢
  rw [e1, e2]
  exact h
theorem rowG (hc : pn_c cc) {ca ka cb kb N p : Nat} {lo hi : Nat → Nat} {MX MY : eM} {LX LY KX KY : Nat → eM → Option (Int32 × eM)} {Q : eM → eM → Prop} (hca : cc ≤ ca ∧ ca ≤ cc + 9) (hcb : ∀ k, kb ≤ k → rgY cb k) (hcb2 : cb ≠ 100 ∧ cb ≠ 101 ∧ cb ≠ 2) (hlh : ∀ i, i < N → lo i < 2 ^ 31 ∧ hi i < 2 ^ 31)
    (sx : ∀ i M, i < N → LX i M = ea_ci (fX2_readNumber (nI (lo i)) (nI (hi i)) M) (nx0 (KX i)))
    (sy : ∀ i M, i < N → LY i M = ea_ci (fX11_readNumber (nI (lo i)) (nI (hi i)) M) (nx0 (KY i)))
    (kx : ∀ i M, i < N → GRX ca ka N MX M → KX i M = LX (i + 1) (ea_pI M ca (ka + i) (M.1 3 8)))
    (ky : ∀ i M, i < N → GRY cb kb N MY M → KY i M = LY (i + 1) (ea_pI M cb (kb + i) (M.1 100 11)))
    (fin : ∀ MX' MY' p', Sy MX' MY' B len p' → p ≤ p' → (∀ j, j < N → ez MX' ca (ka + j) MY' cb (kb + j) (lo j) (hi j)) → GRX ca ka N MX MX' → GRY cb kb N MY MY' → JO cc (LX N MX') (LY N MY') MX' MY' Q)
    (h : Sy MX MY B len p) : JO cc (LX 0 MX) (LY 0 MY) MX MY Q := by
  have hcc : cc = 10 ∨ cc = 20 := hc
  have lp : ∀ (d i p1 : Nat) (MX1 MY1 : eM), N - i = d → i ≤ N → Sy MX1 MY1 B len p1 → p ≤ p1 → (∀ j, j < i → ez MX1 ca (ka + j) MY1 cb (kb + j) (lo j) (hi j)) → GRX ca ka N MX MX1 → GRY cb kb N MY MY1 → JO cc (LX i MX1) (LY i MY1) MX1 MY1 Q := by
    intro d
    induction d with
    | zero =>
      intro i p1 MX1 MY1 hd hi2 hS hp hv hX hY
      have e : i = N := by omega
      subst e
      exact fin MX1 MY1 p1 hS hp hv hX hY
    | succ d ih =>
      intro i p1 MX1 MY1 hd hi2 hS hp hv hX hY
      have hiN : i < N := by omega
      rw [sx i MX1 hiN, sy i MY1 hiN]
      refine (jnum hS rfl rfl (hlh i hiN).1 (hlh i hiN).2).bind ?_
      rintro MX2 MY2 ⟨s1, s2, s3, s4, z, z1, z2, z3, z4⟩ - -
      have hX2 : GRX ca ka N MX MX2 := ⟨fun c k a b => (s3.1 c k (by omega)).trans (hX.1 c k a b), fun c k a => (s3.2.1 c k a).trans (hX.2.1 c k a), s3.2.2.trans hX.2.2⟩
      have hY2 : GRY cb kb N MY MY2 := ⟨fun c k a b => (s4.1 c k (by omega)).trans (hY.1 c k a b), fun c k a => (s4.2.1 c k a).trans (hY.2.1 c k a), s4.2.2.trans hY.2.2⟩
      rw [kx i MX2 hiN hX2, ky i MY2 hiN hY2]
      have fx : FDx cc MX2 (ea_pI MX2 ca (ka + i) (MX2.1 3 8)) := (FDx.rf cc MX2).pI (by omega)
      have fy : FDy MY2 (ea_pI MY2 cb (kb + i) (MY2.1 100 11)) := (FDy.rf MY2).pI (hcb _ (by omega))
      obtain ⟨q0, q1, q2, q3, q4⟩ := s1
      have := ih (i + 1) (tE B len p1) (ea_pI MX2 ca (ka + i) (MX2.1 3 8)) (ea_pI MY2 cb (kb + i) (MY2.1 100 11)) (by omega) (by omega) ⟨q0, q1.d hc fx, by rw [ea_pI_ne (by omega)]; exact q2, q3.d fy, q4.cg (fun k => ea_pI_ne (by omega)) rfl⟩ (by omega) (fun j hj => by
        by_cases e : j = i
        · subst e
          exact ⟨z, z1, z2, by rw [ea_pI_eq]; exact z3, by rw [ea_pI_eq]; exact z4⟩
        · refine (hv j (by omega)).cg ?_ ?_
          · rw [ea_pI_ne (by omega)]
            exact s3.1 _ _ (by omega)
          · rw [ea_pI_ne (by omega)]
            exact s4.1 _ _ (by omega)) ⟨fun c k a b => by rw [ea_pI_ne (by omega)]; exact hX2.1 c k a b, hX2.2⟩ ⟨fun c k a b => by rw [ea_pI_ne (by omega)]; exact hY2.1 c k a b, hY2.2⟩
      exact this.mv fx fy
  exact lp N 0 p MX MY rfl (by omega) h (Nat.le_refl _) (fun j hj => by omega) ⟨fun _ _ _ _ => rfl, fun _ _ _ => rfl, rfl⟩ ⟨fun _ _ _ _ => rfl, fun _ _ _ => rfl, rfl⟩
theorem ci_nx {p : Option (Int32 × eM)} {g k : eM → Option (Int32 × eM)} : ea_ci (ea_ci p (nx0 g)) (nx0 k) = ea_ci p (nx0 (fun M => ea_ci (g M) (nx0 k))) := by
  cases p with
  | none => rfl
  | some r =>
    obtain ⟨x, M⟩ := r
    rw [ev_ci, ev_ci]
    unfold nx0
    by_cases h : x = 0
    · rw [if_pos h, if_pos h, ev_ci, if_pos rfl]
    · rw [if_neg h, if_neg h]
/-- WORDS and their codes -/
def WD (B : Nat → Nat) (q d : Nat) : Prop := d ≤ 8 ∧ ∀ j, j < d → isLt (B (q + j)) = true
theorem wcd_inj {b : Nat} (hb : 26 < b) : ∀ (d d' q q' : Nat), (∀ j, j < d → isLt (B (q + j)) = true) → (∀ j, j < d' → isLt (B (q' + j)) = true) → (wcd b B q d = wcd b B q' d' ↔ (d = d' ∧ ∀ j, j < d → B (q + j) = B (q' + j))) := by
  intro d
  induction d with
  | zero =>
    intro d' q q' h h'
    cases d' with
    | zero => exact ⟨fun _ => ⟨rfl, fun j hj => absurd hj (Nat.not_lt_zero _)⟩, fun _ => rfl⟩
    | succ d' =>
      have := isLt_t.mp (h' d' (by omega))
      have e : wcd b B q' (d' + 1) = wcd b B q' d' * b + (B (q' + d') - 96) := rfl
      have e0 : wcd b B q 0 = 0 := rfl
      constructor
      · intro x
        rw [e, e0] at x
        omega
      · intro x
        exact absurd x.1 (by omega)
  | succ d ih =>
    intro d' q q' h h'
    have g := isLt_t.mp (h d (by omega))
    have e : wcd b B q (d + 1) = wcd b B q d * b + (B (q + d) - 96) := rfl
    cases d' with
    | zero =>
      have e0 : wcd b B q' 0 = 0 := rfl
      constructor
      · intro x
        rw [e, e0] at x
        omega
      · intro x
        exact absurd x.1 (by omega)
    | succ d' =>
      have g' := isLt_t.mp (h' d' (by omega))
      have e' : wcd b B q' (d' + 1) = wcd b B q' d' * b + (B (q' + d') - 96) := rfl
      have ih := ih d' q q' (fun j hj => h j (by omega)) (fun j hj => h' j (by omega))
      rw [e, e']
      constructor
      · intro x
        have m : (wcd b B q d * b + (B (q + d) - 96)) % b = (wcd b B q' d' * b + (B (q' + d') - 96)) % b := by rw [x]
        have dv : (wcd b B q d * b + (B (q + d) - 96)) / b = (wcd b B q' d' * b + (B (q' + d') - 96)) / b := by rw [x]
        rw [Nat.mul_comm, Nat.mul_add_mod, Nat.mul_comm (wcd b B q' d'), Nat.mul_add_mod, Nat.mod_eq_of_lt (by omega), Nat.mod_eq_of_lt (by omega)] at m
        rw [Nat.mul_comm, Nat.mul_add_div (by omega), Nat.mul_comm (wcd b B q' d'), Nat.mul_add_div (by omega), Nat.div_eq_of_lt (by omega), Nat.div_eq_of_lt (by omega)] at dv
        obtain ⟨i1, i2⟩ := ih.mp (by omega)
        subst i1
        refine ⟨rfl, fun j hj => ?_⟩
        by_cases ej : j = d
        · rw [ej]; omega
        · exact i2 j (by omega)
      · intro x
        have i1 : d = d' := by omega
        have i2 := ih.mpr ⟨i1, fun j hj => x.2 j (by omega)⟩
        subst i1
        rw [i2, x.2 d (by omega)]
/-- names, on both sides -/
def NM (MX : eM) (a : Nat) (MY : eM) (b : Nat) (B : Nat → Nat) (k : Nat) : Prop := ∀ i, i < k → ∃ q d, WD B q d ∧ (MX.2.1 a i).toInt = (wcd 27 B q d : Int) ∧ (MY.2.1 b i).toInt = (wcd 32 B q d : Int)
theorem NM.cg {MX MY MX' MY' : eM} {a b k : Nat} (h : NM MX a MY b B k) (e1 : ∀ i, MX'.2.1 a i = MX.2.1 a i) (e2 : ∀ i, MY'.2.1 b i = MY.2.1 b i) : NM MX' a MY' b B k := by
  intro i hi
  rw [e1, e2]
  exact h i hi
theorem nameG (hc : pn_c cc) {a b k N p : Nat} {MX MY : eM} {KX RY k58 : eM → Option (Int32 × eM)} {k70 : Int32 → eM → Option (Int32 × eM)} {LY : Nat → Int32 → Int32 → eM → Option (Int32 × eM)} {Q : eM → eM → Prop} (ha : a ≠ 3) (hb : b ≠ 100) (hla : ea_len a = N) (hlb : ea_len b = N) (hkN : k < N) (hN : N ≤ 5)
    (sy : ∀ n x1 x2 M, LY (n + 1) x1 x2 M = if x1 ≤ x2 then k70 x1 M else ea_ck (ea_ix x2 (ea_len b)) (if lg_cmp (M.2.1 b x2.toNatClampNeg) (M.2.1 100 10) = 0 then k58 M else LY n x1 (x2 + (1 : Int32)) M))
    (e58 : ∀ M, k58 M = fX11_fails 3 M)
    (e70 : ∀ M, k70 (nI k) M = ea_ck (ea_ix (nI k) (ea_len b)) (ea_cv (fX11_scan (ea_pL M b ((nI k).toNatClampNeg) (M.2.1 100 10))) RY))
    (fin : ∀ MX' MY', Sy MX' MY' B len (tE B len p) → NM MX' a MY' b B (k + 1) → (∀ c k, (c ≠ 3 ∨ k = 5 ∨ k ≤ 1) → MX'.1 c k = MX.1 c k) → (∀ c k, c ≠ 3 → c ≠ a → MX'.2.1 c k = MX.2.1 c k) → MX'.2.2 = MX.2.2 → (∀ c k, (c ≠ 100 ∨ k < 3 ∨ 11 < k ∨ k = 8 ∨ k = 9) → MY'.1 c k = MY.1 c k) → (∀ c k, c ≠ 100 → c ≠ b → MY'.2.1 c k = MY.2.1 c k) → MY'.2.2 = MY.2.2 → JO cc (KX MX') (RY MY') MX' MY' Q)
    (hM : NM MX a MY b B k) (h : Sy MX MY B len p) : JO cc (ea_ci (fX2_readName a (nI k) MX) (nx0 KX)) (if (MY.1 100 3) = (1 : Int32) then LY ea_N (nI k) 0 MY else fX11_fails 1 MY) MX MY Q := by
  obtain ⟨MX1, r1, r4, r7, r6, -, r9, rF⟩ := jadv h
  obtain ⟨hp, hX, -, hY, t6, t5, t3, -, t4⟩ := id h
  obtain ⟨b1, b2, b3, b4, b5, b6⟩ := tE_b (B := B) hp
  have hm := ms_eq _ b4
  unfold fX2_readName fX2_readName_0
  rw [r1, ev_cv, r6, t3]
  by_cases hk : tK B len p = 1
  · rw [if_pos (by rw [hk]; rfl), if_pos (by rw [hm.1.mpr hk]; rfl)]
    have v9 := r9 hk
    have v10 := (t4 hk).2
    have w := b6 hk
    -- the name's place in the list
    have lp : ∀ (d f i : Nat), k - i = d → i ≤ k → d < f → JO cc (ea_ci (fX2_readName_20 (fX2_readName_42 a) (fX2_readName_54 a) a f (nI k) (nI i) MX1) (nx0 KX)) (LY f (nI k) (nI i) MY) MX1 MY Q := by
      intro d
      induction d with
      | zero =>
        intro f i hd hi hf
        obtain ⟨f, rfl⟩ : ∃ f', f = f' + 1 := ⟨f - 1, by omega⟩
        rw [sy, fX2_readName_20, if_pos (by rw [pn_leI (by omega) (by omega)]; omega), if_pos (by rw [pn_leI (by omega) (by omega)]; omega), e70]
        unfold fX2_readName_54
        rw [hla, hlb, if_neg (by rw [pn_leI (by omega) (by omega)]; omega), ev_ix (by omega) (by omega), ev_ck, ev_ck, ev_cl (by omega), ev_ci]
        show JO cc (nx0 KX 1 _) _ MX1 MY Q
        unfold nx0
        rw [if_neg (by decide)]
        have hY1 : SRy (ea_pL MY b k (MY.2.1 100 10)) B len := hY
        have hX1 : SRx MX1 B len := hX.g rF.g
        obtain ⟨MY1, s1, s2, s3⟩ := jscan (MX := ea_pL MX1 a k (MX1.2.1 3 9)) (p := tE B len p) b3 hX1 r4 hY1 t6
        rw [s1, ev_cv]
        have := fin (ea_pL MX1 a k (MX1.2.1 3 9)) MY1 s2 (fun i hi => by
          by_cases ei : i = k
          · subst ei
            refine ⟨tS B len p, tE B len p - tS B len p, w, ?_, ?_⟩
            · rw [ev_pL]; exact v9
            · rw [s3.2.1 b i hb, ev_pL]; exact v10
          · obtain ⟨q, dd, n1, n2, n3⟩ := hM i (by omega)
            refine ⟨q, dd, n1, ?_, ?_⟩
            · rw [ev_pLn (by omega), rF.2.1 a i (by omega)]; exact n2
            · rw [s3.2.1 b i hb, ev_pLn (by omega)]; exact n3) (fun c j hcj => rF.g.1 c j hcj) (fun c j h1 h2 => by rw [ev_pLn (by omega)]; exact rF.g.2.1 c j h1) rF.2.2 (fun c j hcj => s3.g.1 c j hcj) (fun c j h1 h2 => by rw [s3.2.1 c j h1, ev_pLn (by omega)]) s3.2.2
        exact this.mv (FDx.rf cc MX1).pL s3.g.d
      | succ d ih =>
        intro f i hd hi hf
        obtain ⟨f, rfl⟩ : ∃ f', f = f' + 1 := ⟨f - 1, by omega⟩
        have nx := ih f (i + 1) (by omega) (by omega) (by omega)
        have c1 : ¬ nI k ≤ nI i := by rw [pn_leI (by omega) (by omega)]; omega
        have c2 : ¬ nI N ≤ nI i := by rw [pn_leI (by omega) (by omega)]; omega
        rw [sy, fX2_readName_20, hla, hlb, if_neg c1, if_neg c1, if_neg c2, ev_ix (by omega) (by omega), ev_ck, ev_ck, ev_cl (by omega)]
        obtain ⟨q, dd, n1, n2, n3⟩ := hM i (by omega)
        have n2 : (MX1.2.1 a i).toInt = (wcd 27 B q dd : Int) := by rw [rF.2.1 a i (by omega)]; exact n2
        have i1 := wcd_inj (B := B) (b := 27) (by decide) dd (tE B len p - tS B len p) q (tS B len p) n1.2 w.2
        have i2 := wcd_inj (B := B) (b := 32) (by decide) dd (tE B len p - tS B len p) q (tS B len p) n1.2 w.2
        have x1 : (lg_cmp (MX1.2.1 a i) (MX1.2.1 3 9) = 0) ↔ wcd 27 B q dd = wcd 27 B (tS B len p) (tE B len p - tS B len p) := by
          rw [lg_cmp_eq, ← Int64.toInt_inj, n2, v9]
          omega
        have x2 : (lg_cmp (MY.2.1 b i) (MY.2.1 100 10) = 0) ↔ wcd 32 B q dd = wcd 32 B (tS B len p) (tE B len p - tS B len p) := by
          rw [lg_cmp_eq, ← Int64.toInt_inj, n3, v10]
          omega
        by_cases hq : wcd 27 B q dd = wcd 27 B (tS B len p) (tE B len p - tS B len p)
        · rw [if_pos (x1.mpr hq), if_pos (x2.mpr (i2.mpr (i1.mp hq))), e58]
          unfold fX2_readName_42
          rw [ckr]
          obtain ⟨A, C, a1, a2, a3, a4, a5⟩ := jfail (MX := MX1) (MY := MY) 3 r7 t5
          exact Or.inl ⟨A, C, by rw [a1, ev_ci]; exact if_pos rfl, a2, a3, a4.d, a5.d⟩
        · rw [if_neg (fun e => hq (x1.mp e)), if_neg (fun e => hq (i1.mpr (i2.mp (x2.mp e)))), show nI i + 1 = nI (i + 1) from nI_add i 1]
          exact nx
    exact (lp k ea_N 0 rfl (Nat.zero_le _) (by unfold ea_N; omega)).mv rF.g.d (FDy.rf MY)
  · rw [if_neg (by rw [show (1 : Int32) = nI 1 from rfl, pn_eqI (by omega) (by omega)]; exact hk), if_neg (by rw [show (1 : Int32) = nI 1 from rfl, pn_eqI (by omega) (by omega)]; exact fun e => hk (hm.1.mp e)), ckr]
    obtain ⟨A, C, a1, a2, a3, a4, a5⟩ := jfail (MX := MX1) (MY := MY) 1 r7 t5
    exact Or.inl ⟨A, C, by rw [a1, ev_ci]; exact if_pos rfl, a2, a3, (rF.g.w.trans a4).d, a5.d⟩
end RW
