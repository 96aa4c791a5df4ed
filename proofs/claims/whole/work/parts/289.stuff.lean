section ST
variable {B : Nat → Nat} {len cc : Nat}
/-- a truth handed on, then the rest -/
def nx2 (k : eM → Option (Int32 × eM)) (r : Int32) (M : eM) : Option (Int32 × eM) := ea_ci (ea_ck (ea_01 r) (some (r, M))) (nx0 k)
theorem ci_w2 {q : Option (Int32 × eM)} {k : eM → Option (Int32 × eM)} : ea_ci (ea_ci q (fun r M => ea_ck (ea_01 r) (some (r, M)))) (nx0 k) = ea_ci q (nx2 k) := by
  cases q with
  | none => rfl
  | some r =>
    obtain ⟨x, M⟩ := r
    rw [ev_ci, ev_ci]
    rfl
theorem nx2_0 (k : eM → Option (Int32 × eM)) (M : eM) : nx2 k 0 M = some (0, M) := by
  unfold nx2
  rw [show ea_01 0 = true from rfl, ev_ck, ev_ci]
  exact if_pos rfl
theorem nx2_1 (k : eM → Option (Int32 × eM)) (M : eM) : nx2 k 1 M = k M := by
  unfold nx2
  rw [show ea_01 1 = true from rfl, ev_ck, ev_ci]
  exact if_neg (by decide)
theorem ci_n2 {p : Option (Int32 × eM)} {g k : eM → Option (Int32 × eM)} : ea_ci (ea_ci p (nx0 g)) (nx2 k) = ea_ci p (nx0 (fun M => ea_ci (g M) (nx2 k))) := by
  cases p with
  | none => rfl
  | some r =>
    obtain ⟨x, M⟩ := r
    rw [ev_ci, ev_ci]
    show ea_ci (if x = 0 then some (0, M) else g M) (nx2 k) = if x = 0 then some (0, M) else ea_ci (g M) (nx2 k)
    by_cases h : x = 0
    · rw [if_pos h, if_pos h, ev_ci, nx2_0]
    · rw [if_neg h, if_neg h]
theorem ci_f2 (x : Int32) (M : eM) (k : eM → Option (Int32 × eM)) : ea_ci (fX11_fails x M) (nx2 k) = fX11_fails x M := by
  unfold fX11_fails fX11_fails_0
  rw [ev_ci, nx2_0]
theorem ci_ck {b : Bool} {p : Option (Int32 × eM)} {k : Int32 → eM → Option (Int32 × eM)} : ea_ci (ea_ck b p) k = ea_ck b (ea_ci p k) := by
  cases b <;> rfl
theorem w2_so1 : (fun (r : Int32) (M : eM) => ea_ck (ea_01 r) (some (r, M))) = nx2 so1 := by
  funext r M
  unfold nx2
  cases h : ea_01 r with
  | false => rfl
  | true =>
    rw [ev_ck, ev_ci]
    show _ = if r = 0 then some (0, M) else so1 M
    rcases ea_01_s h with e | e
    · rw [e, if_pos rfl]
    · rw [e, if_neg (by decide)]
      rfl
/-- the WORD that stands at p, as a word of the tongue -/
def tky (B : Nat → Nat) (len p : Nat) : Option Nat := if tK B len p = 1 then fsx (eqw B (tS B len p) (tE B len p - tS B len p)) 10 else none
theorem fsx_e {q : Nat → Bool} : ∀ k w, fsx q k = some w → w < k ∧ q w = true
  | 0, w, h => by cases h
  | k + 1, w, h => by
    rw [fsx_s] at h
    cases e : fsx q k with
    | some i =>
      rw [e] at h
      injection h with h
      subst h
      have := fsx_e k i e
      exact ⟨by omega, this.2⟩
    | none =>
      rw [e] at h
      cases hq : q k with
      | false => rw [hq] at h; cases h
      | true =>
        rw [hq] at h
        injection h with h
        subst h
        exact ⟨Nat.lt_succ_self _, hq⟩
theorem tky_i {p w : Nat} (hw : w < 10) : tky B len p = some w ↔ tK B len p = 1 ∧ eqw B (tS B len p) (tE B len p - tS B len p) w = true := by
  unfold tky
  by_cases hk : tK B len p = 1
  · rw [if_pos hk]
    constructor
    · intro h
      exact ⟨hk, (fsx_e 10 w h).2⟩
    · intro h
      have := fsx_at (p := eqw B (tS B len p) (tE B len p - tS B len p)) (i := w) (fun j hj => by
        cases hq2 : eqw B (tS B len p) (tE B len p - tS B len p) j with
        | false => rfl
        | true => exact absurd (eqw_uq (by omega) hw hq2 h.2) (by omega)) h.2 (10 - (w + 1))
      rw [show w + 1 + (10 - (w + 1)) = 10 by omega] at this
      exact this
  · rw [if_neg hk]
    constructor
    · intro h; cases h
    · intro h; exact absurd h.1 hk
theorem tky_b {p w : Nat} (h : tky B len p = some w) : w < 10 := by
  unfold tky at h
  by_cases hk : tK B len p = 1
  · rw [if_pos hk] at h
    exact (fsx_e 10 w h).1
  · rw [if_neg hk] at h
    cases h
theorem Sc.says {MX MY : eM} {p a : Nat} (h : Sc MX MY B len p) (ha : a < 10) : fX2_says a MX = some (if tky B len p = some (cwx a) then 1 else 0, MX) := by
  obtain ⟨hp, hX, ⟨x4, x7, x6⟩, -⟩ := h
  obtain ⟨b1, b2, b3, b4, -⟩ := tE_b (B := B) hp
  rw [px_says hX.1 ha x4 x7 x6 b2 b3 b4]
  have i := tky_i (B := B) (len := len) (p := p) (txt_a a ha).2.2.1
  by_cases hc : (decide (tK B len p = 1) && eqw B (tS B len p) (tE B len p - tS B len p) (cwx a)) = true
  · rw [if_pos hc]
    rw [Bool.and_eq_true, decide_eq_true_eq] at hc
    rw [if_pos (i.mpr hc)]
  · rw [if_neg hc]
    rw [Bool.and_eq_true, decide_eq_true_eq] at hc
    rw [if_neg (fun e => hc (i.mp e))]
theorem Sc.key {MX MY : eM} {p w : Nat} (h : Sc MX MY B len p) (hw : w < 10) : fX11_isKey (nI w) MY = some (if tky B len p = some w then 1 else 0, MY) := by
  obtain ⟨hp, -, -, hY, t6, t5, t3, -, t4⟩ := h
  obtain ⟨b1, b2, b3, b4, -⟩ := tE_b (B := B) hp
  have hm := ms_eq _ b4
  unfold fX11_isKey fX11_isKey_0
  rw [t3]
  by_cases hk : tK B len p = 1
  · rw [if_pos (by rw [hm.1.mpr hk]; rfl), (t4 hk).1]
    have e : tky B len p = fsx (eqw B (tS B len p) (tE B len p - tS B len p)) 10 := if_pos hk
    rw [← e]
    cases hf : tky B len p with
    | none =>
      rw [if_neg (show ¬ enc id none = nI w from fun h => ev_neg (by omega) (show (-1 : Int32) < 0 by decide) h.symm), if_neg (fun h => by cases h)]
    | some i =>
      have hi := tky_b hf
      show (if nI i = nI w then _ else _) = _
      by_cases ei : i = w
      · rw [if_pos (by rw [ei]), if_pos (by rw [ei])]
      · rw [if_neg (by rw [pn_eqI (by omega) (by omega)]; exact ei), if_neg (fun h => by injection h with h; exact ei h)]
  · rw [if_neg (by rw [show (1 : Int32) = nI 1 from rfl, pn_eqI (by omega) (by omega)]; exact fun e => hk (hm.1.mp e)), if_neg (fun e => hk ((tky_i hw).mp e).1)]
/-- the class goes on by a TOKEN -/
theorem Sy.adv {MX MY : eM} {p : Nat} (h : Sy MX MY B len p) : ∃ MX', fX2_advance MX = some MX' ∧ Sc MX' MY B len p ∧ GRx MX MX' := by
  obtain ⟨MX1, r1, r4, r7, r6, -, -, rF⟩ := jadv h
  exact ⟨MX1, r1, ⟨h.1, h.2.1.g rF.g, ⟨r4, r7, r6⟩, h.2.2.2.1, h.2.2.2.2⟩, rF.g⟩
theorem ta01 : ∀ i, i < 6 → (ea_ta.getD 0 []).getD i 0 = nI (sl i) ∧ (ea_ta.getD 1 []).getD i 0 = nI (sh i) ∧ sl i < 2 ^ 31 ∧ sh i < 2 ^ 31 := by decide +kernel
def stX (i : Nat) (M : eM) : Option (Int32 × eM) := ea_ci (fX2_readStuff_42 fX2_readStuff_99 (100000 - i) (nI i) M) (nx0 cE)
def skX (i : Nat) (M : eM) : Option (Int32 × eM) := ea_ci (ea_ck (ea_is (M.2.2 3 3) 1) (ea_ck (ea_is (M.2.2 3 3) 1) (ea_ck (ea_ix (((M.1 (M.2.2 3 3) 8) * (6 : Int32)) + nI i) (ea_len (M.2.2 3 3 + 4))) (fX2_readStuff_42 fX2_readStuff_99 (100000 - (i + 1)) (nI (i + 1)) (ea_pI M (M.2.2 3 3 + 4) ((((M.1 (M.2.2 3 3) 8) * (6 : Int32)) + nI i).toNatClampNeg) (M.1 3 8)))))) (nx0 cE)
theorem stX_s (i : Nat) (M : eM) (hi : i < 6) : stX i M = ea_ci (fX2_readNumber (nI (sl i)) (nI (sh i)) M) (nx0 (skX i)) := by
  obtain ⟨t1, t2, -⟩ := ta01 i hi
  unfold stX
  rw [show 100000 - i = (100000 - (i + 1)) + 1 by omega, fX2_readStuff_42, if_neg (by rw [show (6 : Int32) = nI 6 from rfl, pn_leI (by omega) (by omega)]; omega), ev_ix (by omega) (by omega), ev_ck, ev_ck, ev_cl (by omega), t1, t2, show nI i + 1 = nI (i + 1) from nI_add i 1]
  exact ci_nx
def stY (st i : Nat) (M : eM) : Option (Int32 × eM) := ea_ci (fX11_readStuff_86 fX11_readStuff_184 (100000 - i) (nI st) (nI i) M) (nx2 mcl)
def skY (st i : Nat) (M : eM) : Option (Int32 × eM) := ea_ci (fX11_readStuff_161 (fX11_readStuff_86 fX11_readStuff_184 (100000 - (i + 1))) (nI st) (nI i) M) (nx2 mcl)
theorem stY_s (st i : Nat) (M : eM) (hi : i < 6) : stY st i M = ea_ci (fX11_readNumber (nI (sl i)) (nI (sh i)) M) (nx0 (skY st i)) := by
  unfold stY
  rw [show 100000 - i = (100000 - (i + 1)) + 1 by omega, fX11_readStuff_86]
  rcases (show i = 0 ∨ i = 1 ∨ i = 2 ∨ i = 3 ∨ i = 4 ∨ i = 5 by omega) with e | e | e | e | e | e <;> subst e
  · rw [if_neg (show ¬ (6 : Int32) ≤ nI 0 by decide), if_neg (show ¬ (3 : Int32) ≤ nI 0 by decide)]
    exact ci_n2
  · rw [if_neg (show ¬ (6 : Int32) ≤ nI 1 by decide), if_neg (show ¬ (3 : Int32) ≤ nI 1 by decide)]
    exact ci_n2
  · rw [if_neg (show ¬ (6 : Int32) ≤ nI 2 by decide), if_neg (show ¬ (3 : Int32) ≤ nI 2 by decide)]
    exact ci_n2
  · rw [if_neg (show ¬ (6 : Int32) ≤ nI 3 by decide), if_pos (show (3 : Int32) ≤ nI 3 by decide), if_pos (show nI 3 = (3 : Int32) from rfl)]
    exact ci_n2
  · rw [if_neg (show ¬ (6 : Int32) ≤ nI 4 by decide), if_pos (show (3 : Int32) ≤ nI 4 by decide), if_neg (show ¬ nI 4 = (3 : Int32) by decide), if_pos (show nI 4 = (4 : Int32) from rfl)]
    exact ci_n2
  · rw [if_neg (show ¬ (6 : Int32) ≤ nI 5 by decide), if_pos (show (3 : Int32) ≤ nI 5 by decide), if_neg (show ¬ nI 5 = (3 : Int32) by decide), if_neg (show ¬ nI 5 = (4 : Int32) by decide)]
    exact ci_n2
theorem jStuff (hc : pn_c cc) {MX MY : eM} {p : Nat} (h : Sc MX MY B len p) (hD : DR MX MY cc B) (hr : MX.2.2 3 3 = cc) : JO cc (ea_ci (fX2_readStuff MX) (nx0 cE)) (ea_ci (fX11_readStuff MY) (nx2 mcl)) MX MY (CL p (MX.1 cc 4) cc B len) := by
  have hcc : cc = 10 ∨ cc = 20 := hc
  have l3 : ea_len (cc + 3) = 5 := by rcases hcc with e | e <;> rw [e] <;> rfl
  obtain ⟨st, m0, m1, m2, m3, m4⟩ := hD.d3
  obtain ⟨b1, b2, b3, -⟩ := tE_b (B := B) h.1
  obtain ⟨hp, hX, ⟨x4, x7, x6⟩, hY, t6, t5, -⟩ := id h
  obtain ⟨MY1, q1, q2, q3⟩ := h.next
  unfold fX2_readStuff fX2_readStuff_0 fX11_readStuff fX11_readStuff_0
  rw [ev_lt_, ev_cll (k := 18) (by decide), m2, hr, m1, pn_is hc, ev_ck]
  by_cases hm : st < 5
  · have c5 : nI st < (5 : Int32) := by rw [show (5 : Int32) = nI 5 from rfl, pn_ltI (by omega) (by omega)]; exact hm
    have n5 : ¬ nI st = (5 : Int32) := by rw [show (5 : Int32) = nI 5 from rfl, pn_eqI (by omega) (by omega)]; omega
    rw [if_pos c5, if_neg n5, q1, ev_cv, ev_ck, ev_ck, ci_ite, ckf, ci_f2]
    have D1' := hD.cg hc (GRx.rf MX) q3.g
    refine JO.mv (MX1 := MX) (MY1 := MY1) ?_ (FDx.rf cc MX) q3.g.d
    show JO cc (ea_ci (ea_ci (fX2_readName (cc + 3) (nI st) MX) (nx0 (fun M7 => fX2_readStuff_42 fX2_readStuff_99 ea_N 0 M7))) (nx0 cE)) _ MX MY1 _
    rw [ci_nx]
    refine nameG hc (a := cc + 3) (b := 103) (k := st) (N := 5) (LY := fun f x1 x2 M => ea_ci (fX11_readStuff_39 fX11_readStuff_58 fX11_readStuff_70 f x1 x2 M) (nx2 mcl)) (k58 := fun M => ea_ci (fX11_readStuff_58 M) (nx2 mcl)) (k70 := fun x M => ea_ci (fX11_readStuff_70 x M) (nx2 mcl)) (RY := fun M3 => stY st 0 M3) (by omega) (by omega) l3 rfl hm (by omega) ?_ ?_ ?_ ?_ (m3.cg (fun _ => rfl) (fun i => q3.2.1 _ _ (by omega))) q2
    · intro n x1 x2 M
      rw [fX11_readStuff_39, ci_ite, ci_ck, ci_ite]
    · intro M
      unfold fX11_readStuff_58
      rw [ckf, ci_f2]
    · intro M
      unfold fX11_readStuff_70
      rw [ci_ck, ci_cv]
      rfl
    · intro MX2 MY2 s2 nm xx0 xl xr yy0 yl yr
      show JO cc (stX 0 MX2) (stY st 0 MY2) MX2 MY2 _
      have r2 : MX2.2.2 3 3 = cc := by rw [xr]; exact hr
      have s8 : MX2.1 cc 8 = nI st := by rw [xx0 _ _ (by omega)]; exact m1
      have s18 : MY2.1 102 18 = nI st := by rw [yy0 _ _ (by omega), q3.1 _ _ (by omega)]; exact m2
      have hb2 := tE_b (B := B) (p := tE B len p) b3
      refine rowG hc (ca := cc + 4) (ka := 6 * st) (cb := 106) (kb := 30 + 6 * st) (N := 6) (lo := sl) (hi := sh) (KX := skX) (KY := skY st) (by omega) (fun k hk => by unfold rgY; omega) (by decide) (fun i hi => (ta01 i hi).2.2) (fun i M hi => stX_s i M hi) (fun i M hi => stY_s st i M hi) ?_ ?_ ?_ s2
      · intro i M hi g
        have r3 : M.2.2 3 3 = cc := by rw [g.2.2]; exact r2
        have e8 : M.1 cc 8 = nI st := by rw [g.1 _ _ (by omega) (by omega)]; exact s8
        unfold skX stX
        rw [r3, e8, pn_is hc, ev_ck, ev_ck, pn_l4 hc, show nI st * 6 = nI (st * 6) from pk_mul st 6, ev_add, ev_ix (by omega) (by omega), ev_ck, ev_cl (by omega), Nat.mul_comm st 6]
      · intro i M hi g
        unfold skY stY fX11_readStuff_161
        rw [ev_ladd, show (6 : Int32) * nI (5 + st) = nI (6 * (5 + st)) from pk_mul 6 (5 + st), ev_add, show ea_len 106 = 60 from rfl, ev_ix (by omega) (by omega), ev_ck, ev_cl (by omega), show 6 * (5 + st) + i = 30 + 6 * st + i by omega, show nI i + 1 = nI (i + 1) from nI_add i 1]
      · intro MX3 MY3 p3 s3 hp3 hv gx gy
        have r3 : MX3.2.2 3 3 = cc := by rw [gx.2.2]; exact r2
        have e8 : MX3.1 cc 8 = nI st := by rw [gx.1 _ _ (by omega) (by omega)]; exact s8
        have e18 : MY3.1 102 18 = nI st := by rw [gy.1 _ _ (by omega) (by omega)]; exact s18
        have eX : stX 6 MX3 = cE (ea_pI MX3 cc 8 (nI (st + 1))) := by
          unfold stX
          show ea_ci (fX2_readStuff_42 fX2_readStuff_99 (99993 + 1) (nI 6) MX3) (nx0 cE) = _
          rw [fX2_readStuff_42, if_pos (by decide)]
          unfold fX2_readStuff_99
          rw [r3, pn_is hc, ev_ck, ev_ci, e8, show nI st + 1 = nI (st + 1) from nI_add st 1]
          exact if_neg (by decide)
        have eY : stY st 6 MY3 = mcl (ea_pI MY3 102 18 (nI (st + 1))) := by
          unfold stY
          show ea_ci (fX11_readStuff_86 fX11_readStuff_184 (99993 + 1) (nI st) (nI 6) MY3) (nx2 mcl) = _
          rw [fX11_readStuff_86, if_pos (by decide)]
          unfold fX11_readStuff_184
          rw [ev_cll (k := 18) (by decide), ev_ci, e18, show nI st + 1 = nI (st + 1) from nI_add st 1, nx2_1]
        rw [eX, eY]
        have xx : ∀ c k, c ≠ 3 → (c ≠ cc + 4 ∨ k < 6 * st) → (c ≠ cc ∨ k ≠ 8) → (ea_pI MX3 cc 8 (nI (st + 1))).1 c k = MX.1 c k := fun c k h1 h2 h3 => by rw [ea_pI_ne (by omega), gx.1 _ _ (by omega) (by omega), xx0 _ _ (by omega)]
        have yy : ∀ c k, c ≠ 100 → (c ≠ 106 ∨ k < 30 + 6 * st) → (c ≠ 102 ∨ k ≠ 18) → (ea_pI MY3 102 18 (nI (st + 1))).1 c k = MY1.1 c k := fun c k h1 h2 h3 => by rw [ea_pI_ne (by omega), gy.1 _ _ (by omega) (by omega), yy0 _ _ (by omega)]
        have lx : ∀ c k, c ≠ 3 → c ≠ cc + 3 → MX3.2.1 c k = MX.2.1 c k := fun c k h1 h2 => by rw [gx.2.1 _ _ (by omega), xl _ _ (by omega) (by omega)]
        have ly : ∀ c k, c ≠ 100 → c ≠ 103 → MY3.2.1 c k = MY1.2.1 c k := fun c k h1 h2 => by rw [gy.2.1 _ _ (by omega), yl _ _ (by omega) (by omega)]
        have fx : FDx cc MX3 (ea_pI MX3 cc 8 (nI (st + 1))) := (FDx.rf cc MX3).pI (by omega)
        have fy : FDy MY3 (ea_pI MY3 102 18 (nI (st + 1))) := (FDy.rf MY3).pI (by unfold rgY; omega)
        refine (jend hc (s3.put hc fx (ea_pI_ne (by omega)) fy (fun k => ea_pI_ne (by omega)) rfl) ?_ (by omega) (xx _ _ (by omega) (by omega) (by omega))).mv fx fy
        refine ⟨D1'.d0.cg (fun k _ => xx _ _ (by omega) (by omega) (by omega)) (fun k _ _ => yy _ _ (by omega) (by omega) (by omega)), D1'.d1.cg (fun k => xx _ _ (by omega) (by omega) (by omega)) (fun k _ => yy _ _ (by omega) (by omega) (by omega)), D1'.d2.cg (xx _ _ (by omega) (by omega) (by omega)) (fun k => xx _ _ (by omega) (by omega) (by omega)) (yy _ _ (by omega) (by omega) (by omega)) (fun k _ => yy _ _ (by omega) (by omega) (by omega)),
          ⟨st + 1, by omega, ea_pI_eq, ea_pI_eq, nm.cg (fun i => gx.2.1 _ _ (by omega)) (fun i => gy.2.1 _ _ (by omega)), fun f i hf hi => ?_⟩,
          D1'.d4.cg (xx _ _ (by omega) (by omega) (by omega)) (fun k => xx _ _ (by omega) (by omega) (by omega)) (fun k => xx _ _ (by omega) (by omega) (by omega)) (yy _ _ (by omega) (by omega) (by omega)) (fun k => yy _ _ (by omega) (by omega) (by omega)) (fun k => yy _ _ (by omega) (by omega) (by omega)) (fun k => lx _ _ (by omega) (by omega)) (fun k => ly _ _ (by omega) (by omega)),
          D1'.d5.cg (xx _ _ (by omega) (by omega) (by omega)) (fun k => xx _ _ (by omega) (by omega) (by omega)) (yy _ _ (by omega) (by omega) (by omega)) (fun k => yy _ _ (by omega) (by omega) (by omega)) (fun k => lx _ _ (by omega) (by omega)) (fun k => ly _ _ (by omega) (by omega)),
          D1'.d6.cg (by rw [ea_pI_ne (by omega), gx.1 _ _ (by omega) (by omega), xx0 _ _ (by omega)]) (by rw [ea_pI_ne (by omega), gy.1 _ _ (by omega) (by omega), yy0 _ _ (by omega)])⟩
        by_cases ef : f = st
        · subst ef
          have := hv i hi
          rw [show 30 + 6 * f + i = 30 + (6 * f + i) by omega] at this
          exact this.cg (ea_pI_ne (by omega)) (ea_pI_ne (by omega))
        · exact (m4 f i (by omega) hi).cg (xx _ _ (by omega) (by omega) (by omega)) (by rw [yy _ _ (by omega) (by omega) (by omega), q3.1 _ _ (by omega)])
  · have e5 : st = 5 := by omega
    have c5 : ¬ nI st < (5 : Int32) := by rw [show (5 : Int32) = nI 5 from rfl, pn_ltI (by omega) (by omega)]; exact hm
    rw [if_neg c5, if_pos (by rw [e5]; rfl), ckr, ckf, ci_f2]
    obtain ⟨A, C, a1, a2, a3, a4, a5⟩ := jfail (MX := MX) (MY := MY) 4 x7 t5
    exact Or.inl ⟨A, C, by rw [a1, ev_ci]; exact if_pos rfl, a2, a3, a4.d, a5.d⟩
end ST
