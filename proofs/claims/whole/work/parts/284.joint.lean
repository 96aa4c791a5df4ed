section JT
variable {B : Nat → Nat} {len : Nat}
theorem itc {c : Prop} [Decidable c] {a b k : Nat} (h : k = if c then a else b) : (c ∧ k = a) ∨ (¬ c ∧ k = b) := by
  by_cases hc : c
  · rw [if_pos hc] at h; exact Or.inl ⟨hc, h⟩
  · rw [if_neg hc] at h; exact Or.inr ⟨hc, h⟩
theorem tE_b {p : Nat} (hp : p ≤ len) : p ≤ tS B len p ∧ tS B len p ≤ tE B len p ∧ tE B len p ≤ len ∧ tK B len p ≤ 4 ∧ (tK B len p ≠ 0 → tS B len p < tE B len p) ∧ (tK B len p = 1 → tE B len p - tS B len p ≤ 8 ∧ ∀ j, j < tE B len p - tS B len p → isLt (B (tS B len p + j)) = true) := by
  have hq := rnr_b (t := isBk) (B := B) (len := len) (len - p) p rfl hp
  have es : tS B len p = rnr isBk B len p := rfl
  rw [← es] at hq
  have eE : tE B len p = if len ≤ tS B len p then tS B len p else if isLt (B (tS B len p)) = true then rnr isLt B len (tS B len p) else if isDg (B (tS B len p)) = true then rnr isDg B len (tS B len p) else tS B len p + 1 := rfl
  have eK : tK B len p = if len ≤ tS B len p then 0 else if isLt (B (tS B len p)) = true then (if tE B len p - tS B len p ≤ 8 then 1 else 4) else if isDg (B (tS B len p)) = true then (if tE B len p - tS B len p ≤ 4 then 2 else 4) else if B (tS B len p) = 59 then 3 else 4 := rfl
  generalize tS B len p = q at hq eE eK
  by_cases h1 : len ≤ q
  · rw [if_pos h1] at eE eK
    omega
  · rw [if_neg h1] at eE eK
    have run : ∀ (t : Nat → Bool), t (B q) = true → q + 1 ≤ rnr t B len q ∧ rnr t B len q ≤ len := fun t ht => by
      rw [rnr_yes (by omega) ht]
      exact rnr_b (t := t) (B := B) (len := len) (len - (q + 1)) (q + 1) rfl (by omega)
    by_cases h2 : isLt (B q) = true
    · rw [if_pos h2] at eE eK
      have := run isLt h2
      have hk := itc eK
      have h8 : tK B len p = 1 → tE B len p - q ≤ 8 := by omega
      refine ⟨hq.1, by omega, by omega, by omega, fun _ => by omega, fun hk1 => ⟨h8 hk1, ?_⟩⟩
      have lp : ∀ (d s : Nat), len - s = d → s ≤ len → ∀ j, s ≤ j → j < rnr isLt B len s → isLt (B j) = true := by
        intro d
        induction d with
        | zero =>
          intro s hd hs j hj hj2
          rw [rnr_no (fun h => by omega)] at hj2
          omega
        | succ d ih =>
          intro s hd hs j hj hj2
          by_cases ht : isLt (B s) = true
          · rw [rnr_yes (by omega) ht] at hj2
            by_cases e : j = s
            · rw [e]; exact ht
            · exact ih (s + 1) (by omega) (by omega) j (by omega) hj2
          · rw [rnr_no (fun _ => Bool.eq_false_iff.mpr ht)] at hj2
            omega
      intro j hj
      exact lp (len - q) q rfl (by omega) (q + j) (by omega) (by omega)
    · rw [if_neg h2] at eE eK
      by_cases h3 : isDg (B q) = true
      · rw [if_pos h3] at eE eK
        have := run isDg h3
        have hk := itc eK
        exact ⟨hq.1, by omega, by omega, by omega, fun _ => by omega, fun hk1 => by omega⟩
      · rw [if_neg h3] at eE eK
        have hk := itc eK
        exact ⟨hq.1, by omega, by omega, by omega, fun _ => by omega, fun hk1 => by omega⟩
theorem ms_eq : ∀ k, k ≤ 4 → (ms k = 1 ↔ k = 1) ∧ (ms k = 2 ↔ k = 2) ∧ (ms k = 3 ↔ k = 3) ∧ (ms k = 4 ↔ k = 0) ∧ ms k ≤ 4 := by decide
/-- frames: of the class's reader, of the model's, and of the drafts -/
def GRx (M M' : eM) : Prop := (∀ c k, (c ≠ 3 ∨ k = 5 ∨ k ≤ 1) → M'.1 c k = M.1 c k) ∧ (∀ c k, c ≠ 3 → M'.2.1 c k = M.2.1 c k) ∧ M'.2.2 = M.2.2
def GRy (M M' : eM) : Prop := (∀ c k, (c ≠ 100 ∨ k < 3 ∨ 11 < k ∨ k = 8 ∨ k = 9) → M'.1 c k = M.1 c k) ∧ (∀ c k, c ≠ 100 → M'.2.1 c k = M.2.1 c k) ∧ M'.2.2 = M.2.2
def FDx (cc : Nat) (M M' : eM) : Prop := (∀ c k, (c ≠ 3 ∨ k ≤ 1) → (c < cc ∨ cc + 9 < c) → M'.1 c k = M.1 c k) ∧ M'.2.2 = M.2.2
def rgY (c k : Nat) : Prop := (c = 100 ∧ ((3 ≤ k ∧ k ≤ 11 ∧ k ≠ 8 ∧ k ≠ 9) ∨ k = 21)) ∨ (c = 102 ∧ 14 ≤ k) ∨ (c = 106 ∧ 30 ≤ k) ∨ (c = 107 ∧ 4 ≤ k) ∨ (c = 108 ∧ 96 ≤ k) ∨ (c = 109 ∧ 18 ≤ k)
def FDy (M M' : eM) : Prop := (∀ c k, ¬ rgY c k → M'.1 c k = M.1 c k) ∧ M'.2.2 = M.2.2
theorem FrA.g {M M' : eM} (h : FrA M M') : GRx M M' := ⟨fun c k p => h.1 c k (by omega), fun c k p => h.2.1 c k (by omega), h.2.2⟩
theorem FrS.g {M M' : eM} (h : FrS M M') : GRy M M' := ⟨fun c k p => h.1 c k (by omega), fun c k p => h.2.1 c k (by omega), h.2.2⟩
theorem GRx.rf (M : eM) : GRx M M := ⟨fun _ _ _ => rfl, fun _ _ _ => rfl, rfl⟩
theorem GRy.rf (M : eM) : GRy M M := ⟨fun _ _ _ => rfl, fun _ _ _ => rfl, rfl⟩
theorem GRx.trans {A B D : eM} (h : GRx A B) (g : GRx B D) : GRx A D := ⟨fun c k p => (g.1 c k p).trans (h.1 c k p), fun c k p => (g.2.1 c k p).trans (h.2.1 c k p), g.2.2.trans h.2.2⟩
theorem GRy.trans {A B D : eM} (h : GRy A B) (g : GRy B D) : GRy A D := ⟨fun c k p => (g.1 c k p).trans (h.1 c k p), fun c k p => (g.2.1 c k p).trans (h.2.1 c k p), g.2.2.trans h.2.2⟩
theorem GRx.pI {M M1 : eM} (h : GRx M M1) {k : Nat} {x : Int32} (hk : k ≠ 5 ∧ 2 ≤ k) : GRx M (ea_pI M1 3 k x) := ⟨fun c j p => by rw [ea_pI_ne (by omega)]; exact h.1 c j p, h.2.1, h.2.2⟩
theorem GRy.pI {M M1 : eM} (h : GRy M M1) {k : Nat} {x : Int32} (hk : 3 ≤ k ∧ k ≤ 11 ∧ k ≠ 8 ∧ k ≠ 9) : GRy M (ea_pI M1 100 k x) := ⟨fun c j p => by rw [ea_pI_ne (by omega)]; exact h.1 c j p, h.2.1, h.2.2⟩
theorem GRx.d {M M' : eM} {cc : Nat} (h : GRx M M') : FDx cc M M' := ⟨fun c k p _ => h.1 c k (by omega), h.2.2⟩
theorem GRy.d {M M' : eM} (h : GRy M M') : FDy M M' := ⟨fun c k p => h.1 c k (by unfold rgY at p; omega), h.2.2⟩
theorem FDx.rf (cc : Nat) (M : eM) : FDx cc M M := ⟨fun _ _ _ _ => rfl, rfl⟩
theorem FDy.rf (M : eM) : FDy M M := ⟨fun _ _ _ => rfl, rfl⟩
theorem FDx.trans {cc : Nat} {A B D : eM} (h : FDx cc A B) (g : FDx cc B D) : FDx cc A D := ⟨fun c k p q => (g.1 c k p q).trans (h.1 c k p q), g.2.trans h.2⟩
theorem FDy.trans {A B D : eM} (h : FDy A B) (g : FDy B D) : FDy A D := ⟨fun c k p => (g.1 c k p).trans (h.1 c k p), g.2.trans h.2⟩
theorem FDx.pI {cc : Nat} {M M1 : eM} (h : FDx cc M M1) {c k : Nat} {x : Int32} (hk : (c = 3 ∧ 2 ≤ k) ∨ (cc ≤ c ∧ c ≤ cc + 9)) : FDx cc M (ea_pI M1 c k x) := ⟨fun a j p q => by rw [ea_pI_ne (by omega)]; exact h.1 a j p q, h.2⟩
theorem FDy.pI {M M1 : eM} (h : FDy M M1) {c k : Nat} {x : Int32} (hk : rgY c k) : FDy M (ea_pI M1 c k x) := by
  refine ⟨fun a j p => ?_, h.2⟩
  have e : a ≠ c ∨ j ≠ k := by
    by_cases e1 : a = c
    · refine Or.inr (fun e2 => p ?_)
      rw [e1, e2]; exact hk
    · exact Or.inl e1
  rw [ea_pI_ne e]
  exact h.1 a j p
theorem FDx.pL {cc : Nat} {M M1 : eM} (h : FDx cc M M1) {c k : Nat} {x : Int64} : FDx cc M (ea_pL M1 c k x) := h
theorem FDy.pL {M M1 : eM} (h : FDy M M1) {c k : Nat} {x : Int64} : FDy M (ea_pL M1 c k x) := h
/-- frames of what is refused: the FAULT is told -/
def FWx (cc : Nat) (M M' : eM) : Prop := (∀ c k, c ≠ 3 → (c < cc ∨ cc + 9 < c) → M'.1 c k = M.1 c k) ∧ M'.2.2 = M.2.2
def rgW (c k : Nat) : Prop := (c = 100 ∧ ((3 ≤ k ∧ k ≤ 11) ∨ k = 21)) ∨ (c = 102 ∧ 14 ≤ k) ∨ (c = 106 ∧ 30 ≤ k) ∨ (c = 107 ∧ 4 ≤ k) ∨ (c = 108 ∧ 96 ≤ k) ∨ (c = 109 ∧ 18 ≤ k)
def FWy (M M' : eM) : Prop := (∀ c k, ¬ rgW c k → M'.1 c k = M.1 c k) ∧ M'.2.2 = M.2.2
def GWx (M M' : eM) : Prop := (∀ c k, c ≠ 3 → M'.1 c k = M.1 c k) ∧ M'.2.2 = M.2.2
def GWy (M M' : eM) : Prop := (∀ c k, (c ≠ 100 ∨ k < 3 ∨ 11 < k) → M'.1 c k = M.1 c k) ∧ M'.2.2 = M.2.2
theorem FWx.trans {cc : Nat} {A B D : eM} (h : FWx cc A B) (g : FWx cc B D) : FWx cc A D := ⟨fun c k p q => (g.1 c k p q).trans (h.1 c k p q), g.2.trans h.2⟩
theorem FWy.trans {A B D : eM} (h : FWy A B) (g : FWy B D) : FWy A D := ⟨fun c k p => (g.1 c k p).trans (h.1 c k p), g.2.trans h.2⟩
theorem GWx.trans {A B D : eM} (h : GWx A B) (g : GWx B D) : GWx A D := ⟨fun c k p => (g.1 c k p).trans (h.1 c k p), g.2.trans h.2⟩
theorem GWy.trans {A B D : eM} (h : GWy A B) (g : GWy B D) : GWy A D := ⟨fun c k p => (g.1 c k p).trans (h.1 c k p), g.2.trans h.2⟩
theorem GWx.d {M M' : eM} {cc : Nat} (h : GWx M M') : FWx cc M M' := ⟨fun c k p _ => h.1 c k p, h.2⟩
theorem GWy.d {M M' : eM} (h : GWy M M') : FWy M M' := ⟨fun c k p => h.1 c k (by unfold rgW at p; omega), h.2⟩
theorem GRx.w {M M' : eM} (h : GRx M M') : GWx M M' := ⟨fun c k p => h.1 c k (by omega), h.2.2⟩
theorem FDx.w {M M' : eM} {cc : Nat} (h : FDx cc M M') : FWx cc M M' := ⟨fun c k p q => h.1 c k (by omega) q, h.2⟩
theorem FDy.w {M M' : eM} (h : FDy M M') : FWy M M' := ⟨fun c k p => h.1 c k (fun q => p (by unfold rgY at q; unfold rgW; omega)), h.2⟩
/-- both readers stand before the TOKEN at p; the model has scanned it already -/
def SRx (MX : eM) (B : Nat → Nat) (len : Nat) : Prop := BY MX B len ∧ MX.1 1 1 = nI len
def SRy (MY : eM) (B : Nat → Nat) (len : Nat) : Prop := BY MY B len ∧ MY.1 100 2 = nI len
def Sy (MX MY : eM) (B : Nat → Nat) (len p : Nat) : Prop := p ≤ len ∧ SRx MX B len ∧ MX.1 3 4 = nI p ∧ SRy MY B len ∧ TY MY B len p
theorem BY.cg {M M' : eM} (h : BY M B len) (e1 : ∀ k, M'.1 101 k = M.1 101 k) (e2 : ∀ k, M'.1 2 k = M.1 2 k) : BY M' B len := ⟨h.1, fun k hk => by rw [e1, e2]; exact h.2 k hk⟩
theorem SRx.d {cc : Nat} (hc : pn_c cc) {M M' : eM} (h : SRx M B len) (f : FDx cc M M') : SRx M' B len := by
  have : cc = 10 ∨ cc = 20 := hc
  exact ⟨h.1.cg (fun k => f.1 _ _ (by omega) (by omega)) (fun k => f.1 _ _ (by omega) (by omega)), (f.1 1 1 (by omega) (by omega)).trans h.2⟩
theorem SRx.g {M M' : eM} (h : SRx M B len) (f : GRx M M') : SRx M' B len := ⟨h.1.cg (fun k => f.1 _ _ (by omega)) (fun k => f.1 _ _ (by omega)), (f.1 1 1 (by omega)).trans h.2⟩
theorem SRy.d {M M' : eM} (h : SRy M B len) (f : FDy M M') : SRy M' B len := ⟨h.1.cg (fun k => f.1 _ _ (by unfold rgY; omega)) (fun k => f.1 _ _ (by unfold rgY; omega)), (f.1 100 2 (by unfold rgY; omega)).trans h.2⟩
theorem SRy.g {M M' : eM} (h : SRy M B len) (f : GRy M M') : SRy M' B len := h.d f.d
/-- the FAULT is the same -/
def FT (MX MY : eM) : Prop := MX.1 3 0 = MY.1 100 8 ∧ MX.1 3 1 = MY.1 100 9
theorem jfail {MX MY : eM} {q : Nat} (x : Int32) (h7 : MX.1 3 7 = nI q) (h5 : MY.1 100 5 = nI q) : ∃ MX' MY', fX2_refuse x MX = some (0, MX') ∧ fX11_fails x MY = some (0, MY') ∧ FT MX' MY' ∧ GWx MX MX' ∧ GWy MY MY' := by
  refine ⟨_, _, rfl, rfl, ⟨?_, ?_⟩, ⟨fun c k h => by rw [ea_pI_ne (by omega), ea_pI_ne (by omega)], rfl⟩, ⟨fun c k h => by rw [ea_pI_ne (by omega), ea_pI_ne (by omega)], rfl⟩⟩
  · simp (disch := omega) only [ev_ck, ev_ci, ev_cv, ev_lt_, ↓reduceIte, ev_lens, ev_ix, ev_nz, ev_cl, ev_cll, ev_add, ev_addl, ev_ladd, ev_mul, ev_mull, ev_lmul, ev_sub, ev_subl, ev_lsub, ev_lt, ev_ltl, ev_llt, ev_le, ev_lel, ev_lle, ev_eq, ev_eql, ev_leq, ev_nm1, ev_nm5, ev_m1n, ev_neg1, ev_ltT, ev_ltF, ev_leT, ev_leF, ev_eqT, ev_eqF, ev_one0, ev_zero1, Nat.reduceAdd, Nat.reduceMul, Nat.reduceSub, ea_pI_eq, ev_pIn, ev_pIe, ea_pI_r, eq_self]
  · simp (disch := omega) only [ev_ck, ev_ci, ev_cv, ev_lt_, ↓reduceIte, ev_lens, ev_ix, ev_nz, ev_cl, ev_cll, ev_add, ev_addl, ev_ladd, ev_mul, ev_mull, ev_lmul, ev_sub, ev_subl, ev_lsub, ev_lt, ev_ltl, ev_llt, ev_le, ev_lel, ev_lle, ev_eq, ev_eql, ev_leq, ev_nm1, ev_nm5, ev_m1n, ev_neg1, ev_ltT, ev_ltF, ev_leT, ev_leF, ev_eqT, ev_eqF, ev_one0, ev_zero1, Nat.reduceAdd, Nat.reduceMul, Nat.reduceSub, ea_pI_eq, ev_pIn, ev_pIe, ea_pI_r, eq_self, h7, h5]
/-- two programs that end alike -/
def JO (cc : Nat) (px py : Option (Int32 × eM)) (MX MY : eM) (P : eM → eM → Prop) : Prop :=
  (∃ MX' MY', px = some (0, MX') ∧ py = some (0, MY') ∧ FT MX' MY' ∧ FWx cc MX MX' ∧ FWy MY MY') ∨ (∃ MX' MY', px = some (1, MX') ∧ py = some (1, MY') ∧ P MX' MY' ∧ FDx cc MX MX' ∧ FDy MY MY')
def nx0 (k : eM → Option (Int32 × eM)) (r : Int32) (M : eM) : Option (Int32 × eM) := if r = 0 then some (0, M) else k M
theorem JO.bind {cc : Nat} {px py : Option (Int32 × eM)} {MX MY : eM} {P Q : eM → eM → Prop} {kx ky : eM → Option (Int32 × eM)} (h : JO cc px py MX MY P) (g : ∀ MX' MY', P MX' MY' → FDx cc MX MX' → FDy MY MY' → JO cc (kx MX') (ky MY') MX' MY' Q) : JO cc (ea_ci px (nx0 kx)) (ea_ci py (nx0 ky)) MX MY Q := by
  rcases h with ⟨MX', MY', e1, e2, f1, f2, f3⟩ | ⟨MX', MY', e1, e2, f1, f2, f3⟩
  · refine Or.inl ⟨MX', MY', ?_, ?_, f1, f2, f3⟩
    · rw [e1, ev_ci]; exact if_pos rfl
    · rw [e2, ev_ci]; exact if_pos rfl
  · have e1' : ea_ci px (nx0 kx) = kx MX' := by rw [e1, ev_ci]; exact if_neg (by decide)
    have e2' : ea_ci py (nx0 ky) = ky MY' := by rw [e2, ev_ci]; exact if_neg (by decide)
    rw [e1', e2']
    rcases g MX' MY' f1 f2 f3 with ⟨A, C, a1, a2, a3, a4, a5⟩ | ⟨A, C, a1, a2, a3, a4, a5⟩
    · exact Or.inl ⟨A, C, a1, a2, a3, f2.w.trans a4, f3.w.trans a5⟩
    · exact Or.inr ⟨A, C, a1, a2, a3, f2.trans a4, f3.trans a5⟩
theorem JO.mv {cc : Nat} {px py : Option (Int32 × eM)} {MX MY MX1 MY1 : eM} {Q : eM → eM → Prop} (h : JO cc px py MX1 MY1 Q) (f : FDx cc MX MX1) (g : FDy MY MY1) : JO cc px py MX MY Q := by
  rcases h with ⟨A, C, a1, a2, a3, a4, a5⟩ | ⟨A, C, a1, a2, a3, a4, a5⟩
  · exact Or.inl ⟨A, C, a1, a2, a3, f.w.trans a4, g.w.trans a5⟩
  · exact Or.inr ⟨A, C, a1, a2, a3, f.trans a4, g.trans a5⟩
theorem JO.fail {cc : Nat} {MX MY : eM} {q : Nat} (x : Int32) (h7 : MX.1 3 7 = nI q) (h5 : MY.1 100 5 = nI q) {Q : eM → eM → Prop} : JO cc (fX2_refuse x MX) (fX11_fails x MY) MX MY Q := by
  obtain ⟨A, C, a1, a2, a3, a4, a5⟩ := jfail x h7 h5
  exact Or.inl ⟨A, C, a1, a2, a3, a4.d, a5.d⟩
theorem ck01 {p : Option (Int32 × eM)} (h : ∃ r M, p = some (r, M) ∧ (r = 0 ∨ r = 1)) : ea_ci p (fun r M => ea_ck (ea_01 r) (some (r, M))) = p := by
  obtain ⟨r, M, e, hr⟩ := h
  rw [e, ev_ci, show ea_01 r = true from decide_eq_true hr]
  rfl
theorem JO.ck {cc : Nat} {px py : Option (Int32 × eM)} {MX MY : eM} {Q : eM → eM → Prop} (h : JO cc px py MX MY Q) : ea_ci px (fun r M => ea_ck (ea_01 r) (some (r, M))) = px ∧ ea_ci py (fun r M => ea_ck (ea_01 r) (some (r, M))) = py := by
  rcases h with ⟨A, C, a1, a2, -⟩ | ⟨A, C, a1, a2, -⟩
  · exact ⟨ck01 ⟨_, _, a1, Or.inl rfl⟩, ck01 ⟨_, _, a2, Or.inl rfl⟩⟩
  · exact ⟨ck01 ⟨_, _, a1, Or.inr rfl⟩, ck01 ⟨_, _, a2, Or.inr rfl⟩⟩
theorem ckr (x : Int32) (M : eM) : ea_ci (fX2_refuse x M) (fun r M => ea_ck (ea_01 r) (some (r, M))) = fX2_refuse x M := ck01 ⟨_, _, rfl, Or.inl rfl⟩
theorem ckf (x : Int32) (M : eM) : ea_ci (fX11_fails x M) (fun r M => ea_ck (ea_01 r) (some (r, M))) = fX11_fails x M := ck01 ⟨_, _, rfl, Or.inl rfl⟩
/-- the class goes on by a TOKEN -/
theorem jadv {MX MY : eM} {p : Nat} (h : Sy MX MY B len p) : ∃ MX', fX2_advance MX = some MX' ∧ MX'.1 3 4 = nI (tE B len p) ∧ MX'.1 3 7 = nI (tS B len p) ∧ MX'.1 3 6 = nI (tK B len p) ∧ (tK B len p = 2 → MX'.1 3 8 = nI (nvl B (tS B len p) (tE B len p - tS B len p))) ∧ (tK B len p = 1 → (MX'.2.1 3 9).toInt = (wcd 27 B (tS B len p) (tE B len p - tS B len p) : Int)) ∧ FrA MX MX' := px_adv h.2.1.1 h.2.1.2 h.1 h.2.2.1
/-- the model goes on by a TOKEN, where the class has gone on -/
theorem jscan {MX MY : eM} {p : Nat} (hp : p ≤ len) (hX : SRx MX B len) (h4 : MX.1 3 4 = nI p) (hY : SRy MY B len) (h6 : MY.1 100 6 = nI p) : ∃ MY', fX11_scan MY = some MY' ∧ Sy MX MY' B len p ∧ FrS MY MY' := by
  obtain ⟨MY', r1, r2, r3⟩ := py_scan hY.1 hY.2 hp h6
  exact ⟨MY', r1, ⟨hp, hX, h4, hY.g r3.g, r2⟩, r3⟩
/-- one number, on both sides -/
theorem jnum {cc : Nat} {MX MY : eM} {p a b : Nat} {x y : Int32} (h : Sy MX MY B len p) (hx : x = nI a) (hy : y = nI b) (ha : a < 2 ^ 31) (hb : b < 2 ^ 31) : JO cc (fX2_readNumber x y MX) (fX11_readNumber x y MY) MX MY (fun MX' MY' => Sy MX' MY' B len (tE B len p) ∧ p < tE B len p ∧ GRx MX MX' ∧ GRy MY MY' ∧ ∃ z, a ≤ z ∧ z ≤ b ∧ MX'.1 3 8 = nI z ∧ MY'.1 100 11 = nI z) := by
  subst hx; subst hy
  obtain ⟨MX1, r1, r4, r7, r6, r8, -, rF⟩ := jadv h
  obtain ⟨hp, hX, -, hY, t6, t5, t3, t7, -⟩ := id h
  obtain ⟨b1, b2, b3, b4, b5, -⟩ := tE_b (B := B) hp
  have hm := ms_eq _ b4
  unfold fX2_readNumber fX2_readNumber_0 fX11_readNumber fX11_readNumber_0
  rw [r1, ev_cv, r6, t3]
  by_cases hk : tK B len p = 2
  · rw [if_pos (by rw [hk]; rfl), if_pos (by rw [hm.2.1.mpr hk]; rfl)]
    have v8 := r8 hk
    have v7 := t7 hk
    generalize nvl B (tS B len p) (tE B len p - tS B len p) = z0 at v8 v7
    -- whatever the int is, both ask the same of it
    unfold fX10_isWithin fX10_isWithin_0 fX11_in fX11_in_0
    rw [v8, v7]
    by_cases c1 : nI z0 < nI a
    · rw [if_pos c1, if_pos c1, ev_ci, ev_ci, if_pos rfl, if_pos rfl, ckf]
      obtain ⟨A, C, a1, a2, a3, a4, a5⟩ := jfail (MX := MX1) (MY := MY) 2 r7 t5
      exact Or.inl ⟨A, C, by rw [a1, ev_ci]; exact if_pos rfl, a2, a3, (rF.g.w.trans a4).d, a5.d⟩
    · by_cases c2 : nI b < nI z0
      · rw [if_neg c1, if_neg c1, if_pos c2, if_pos c2, ev_ci, ev_ci, if_pos rfl, if_pos rfl, ckf]
        obtain ⟨A, C, a1, a2, a3, a4, a5⟩ := jfail (MX := MX1) (MY := MY) 2 r7 t5
        exact Or.inl ⟨A, C, by rw [a1, ev_ci]; exact if_pos rfl, a2, a3, (rF.g.w.trans a4).d, a5.d⟩
      · rw [if_neg c1, if_neg c1, if_neg c2, if_neg c2, ev_ci, ev_ci, if_neg (by decide), if_neg (by decide)]
        have hY1 : SRy (ea_pI MY 100 11 (nI z0)) B len := hY.g ((GRy.rf MY).pI (by omega))
        obtain ⟨MY1, s1, s2, s3⟩ := jscan (p := tE B len p) b3 (hX.g rF.g) r4 hY1 (by simp (disch := omega) only [ev_ck, ev_ci, ev_cv, ev_lt_, ↓reduceIte, ev_lens, ev_ix, ev_nz, ev_cl, ev_cll, ev_add, ev_addl, ev_ladd, ev_mul, ev_mull, ev_lmul, ev_sub, ev_subl, ev_lsub, ev_lt, ev_ltl, ev_llt, ev_le, ev_lel, ev_lle, ev_eq, ev_eql, ev_leq, ev_nm1, ev_nm5, ev_m1n, ev_neg1, ev_ltT, ev_ltF, ev_leT, ev_leF, ev_eqT, ev_eqF, ev_one0, ev_zero1, Nat.reduceAdd, Nat.reduceMul, Nat.reduceSub, ea_pI_eq, ev_pIn, ev_pIe, ea_pI_r, eq_self]; exact t6)
        rw [v7, s1, ev_cv]
        obtain ⟨z, hz1, hz2, hz3⟩ : ∃ z : Nat, a ≤ z ∧ z ≤ b ∧ nI z0 = nI z := by
          have i1 : (nI a).toInt ≤ (nI z0).toInt := by
            have := Int32.not_lt.mp c1
            exact Int32.le_iff_toInt_le.mp this
          have i2 : (nI z0).toInt ≤ (nI b).toInt := by
            have := Int32.not_lt.mp c2
            exact Int32.le_iff_toInt_le.mp this
          rw [nI_toInt ha] at i1
          rw [nI_toInt hb] at i2
          refine ⟨(nI z0).toInt.toNat, by omega, by omega, ?_⟩
          apply Int32.toInt_inj.mp
          have e := nI_toInt (show (nI z0).toInt.toNat < 2 ^ 31 by omega)
          rw [e]
          omega
        refine Or.inr ⟨MX1, MY1, rfl, rfl, ⟨s2, by have := b5 (by omega); omega, rF.g, ((GRy.rf MY).pI (by omega)).trans s3.g, z, hz1, hz2, v8.trans hz3, ?_⟩, rF.g.d, (((GRy.rf MY).pI (by omega)).trans s3.g).d⟩
        rw [s3.1 100 11 (by omega), ea_pI_eq]
        exact hz3
  · rw [if_neg (by rw [show (2 : Int32) = nI 2 from rfl, pn_eqI (by omega) (by omega)]; exact hk), if_neg (by rw [show (2 : Int32) = nI 2 from rfl, pn_eqI (by omega) (by omega)]; exact fun e => hk (hm.2.1.mp e)), ckr, ckf]
    exact (JO.fail (MX := MX1) (MY := MY) 1 r7 t5).mv rF.g.d (FDy.rf MY)
/-- the ';' of a clause -/
def mcl (M : eM) : Option (Int32 × eM) := if (M.1 100 3) = (3 : Int32) then ea_cv (fX11_scan M) (fun M8 => some (1, M8)) else fX11_fails 1 M
theorem jclose {cc : Nat} {MX MY : eM} {p : Nat} (h : Sy MX MY B len p) : JO cc (fX2_closes MX) (mcl MY) MX MY (fun MX' MY' => Sy MX' MY' B len (tE B len p) ∧ p < tE B len p ∧ GRx MX MX' ∧ GRy MY MY') := by
  obtain ⟨MX1, r1, r4, r7, r6, -, -, rF⟩ := jadv h
  obtain ⟨hp, hX, -, hY, t6, t5, t3, -⟩ := id h
  obtain ⟨b1, b2, b3, b4, b5, -⟩ := tE_b (B := B) hp
  have hm := ms_eq _ b4
  unfold fX2_closes fX2_closes_0 mcl
  rw [r1, ev_cv, r6, t3]
  by_cases hk : tK B len p = 3
  · rw [if_pos (by rw [hk]; rfl), if_pos (by rw [hm.2.2.1.mpr hk]; rfl)]
    obtain ⟨MY1, s1, s2, s3⟩ := jscan (p := tE B len p) b3 (hX.g rF.g) r4 hY t6
    rw [s1, ev_cv]
    exact Or.inr ⟨MX1, MY1, rfl, rfl, ⟨s2, by have := b5 (by omega); omega, rF.g, s3.g⟩, rF.g.d, s3.g.d⟩
  · rw [if_neg (by rw [show (3 : Int32) = nI 3 from rfl, pn_eqI (by omega) (by omega)]; exact hk), if_neg (by rw [show (3 : Int32) = nI 3 from rfl, pn_eqI (by omega) (by omega)]; exact fun e => hk (hm.2.2.1.mp e))]
    obtain ⟨A, C, a1, a2, a3, a4, a5⟩ := jfail (MX := MX1) (MY := MY) 1 r7 t5
    exact Or.inl ⟨A, C, by rw [a1, ev_ci]; exact if_pos rfl, a2, a3, (rF.g.w.trans a4).d, a5.d⟩
end JT
