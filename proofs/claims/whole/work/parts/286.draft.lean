section DF
variable {B : Nat → Nat} {len cc : Nat}
def sl (i : Nat) : Nat := ([0, 0, 0, 0, 1, 1] : List Nat).getD i 0
def sh (i : Nat) : Nat := ([99, 99, 99, 1000, 999, 9999] : List Nat).getD i 0
def hgl (i : Nat) : Nat := ([1, 0, 0, 0] : List Nat).getD i 0
def hgh (i : Nat) : Nat := ([400, 99, 99, 100] : List Nat).getD i 0
/-- the drafts, as both hold them -/
def D0 (MX MY : eM) (cc : Nat) : Prop := ez MX cc 0 MY 102 14 1 8 ∧ ez MX cc 1 MY 102 15 1 6 ∧ ez MX cc 2 MY 102 16 0 20 ∧ ez MX cc 3 MY 102 17 1 2
def D1 (MX MY : eM) (cc : Nat) : Prop := ∀ k, k < 3 → ez MX (cc + 1) k MY 102 (22 + k) 0 200
def D2 (MX MY : eM) (cc : Nat) : Prop := ∃ me : Nat, me ≤ 3 ∧ MX.1 cc 6 = nI me ∧ MY.1 102 21 = nI me ∧ (∀ k, k < me → ez MX (cc + 2) k MY 102 (25 + k) 1 999) ∧ ∀ k, k + 1 < me → (MX.1 (cc + 2) k).toNatClampNeg < (MX.1 (cc + 2) (k + 1)).toNatClampNeg
def D3 (MX MY : eM) (cc : Nat) (B : Nat → Nat) : Prop := ∃ st : Nat, st ≤ 5 ∧ MX.1 cc 8 = nI st ∧ MY.1 102 18 = nI st ∧ NM MX (cc + 3) MY 103 B st ∧ ∀ f i, f < st → i < 6 → ez MX (cc + 4) (6 * f + i) MY 106 (30 + (6 * f + i)) (sl i) (sh i)
def D4 (MX MY : eM) (cc : Nat) (B : Nat → Nat) : Prop := ∃ tl : Nat, tl ≤ 4 ∧ MX.1 cc 11 = nI tl ∧ MY.1 102 19 = nI tl ∧ NM MX (cc + 5) MY 104 B tl ∧ ∀ s, s < tl → ∃ h : Nat, 1 ≤ h ∧ h ≤ 6 ∧ MX.1 (cc + 6) s = nI h ∧ MY.1 107 (4 + s) = nI h ∧ ∀ i j, i < h → j < 4 → ez MX (cc + 7) (4 * (6 * s + i) + j) MY 108 (96 + (4 * (6 * s + i) + j)) (hgl j) (hgh j)
def D5 (MX MY : eM) (cc : Nat) (B : Nat → Nat) : Prop := ∃ ey : Nat, ey ≤ 2 ∧ MX.1 cc 15 = nI ey ∧ MY.1 102 20 = nI ey ∧ NM MX (cc + 8) MY 105 B ey ∧ ∀ k, k < 9 * ey → ez MX (cc + 9) k MY 109 (18 + k) 0 9
def D6 (MX MY : eM) : Prop := ∃ m : Nat, m < 16 ∧ MX.1 3 5 = nI m ∧ MY.1 100 21 = nI (m % 4 + 8 * (m / 4))
theorem D0.cg {MX MY MX' MY' : eM} (h : D0 MX MY cc) (e1 : ∀ k, k < 4 → MX'.1 cc k = MX.1 cc k) (e2 : ∀ k, 14 ≤ k → k ≤ 17 → MY'.1 102 k = MY.1 102 k) : D0 MX' MY' cc :=
  ⟨h.1.cg (e1 _ (by omega)) (e2 _ (by omega) (by omega)), h.2.1.cg (e1 _ (by omega)) (e2 _ (by omega) (by omega)), h.2.2.1.cg (e1 _ (by omega)) (e2 _ (by omega) (by omega)), h.2.2.2.cg (e1 _ (by omega)) (e2 _ (by omega) (by omega))⟩
theorem D1.cg {MX MY MX' MY' : eM} (h : D1 MX MY cc) (e1 : ∀ k, MX'.1 (cc + 1) k = MX.1 (cc + 1) k) (e2 : ∀ k, k < 3 → MY'.1 102 (22 + k) = MY.1 102 (22 + k)) : D1 MX' MY' cc := fun k hk => (h k hk).cg (e1 k) (e2 k hk)
theorem D2.cg {MX MY MX' MY' : eM} (h : D2 MX MY cc) (e0 : MX'.1 cc 6 = MX.1 cc 6) (e1 : ∀ k, MX'.1 (cc + 2) k = MX.1 (cc + 2) k) (e2 : MY'.1 102 21 = MY.1 102 21) (e3 : ∀ k, k < 3 → MY'.1 102 (25 + k) = MY.1 102 (25 + k)) : D2 MX' MY' cc := by
  obtain ⟨me, h0, h1, h2, h3, h4⟩ := h
  exact ⟨me, h0, e0.trans h1, e2.trans h2, fun k hk => (h3 k hk).cg (e1 k) (e3 k (by omega)), fun k hk => by rw [e1, e1]; exact h4 k hk⟩
theorem D3.cg {MX MY MX' MY' : eM} (h : D3 MX MY cc B) (e0 : MX'.1 cc 8 = MX.1 cc 8) (e1 : ∀ k, MX'.1 (cc + 4) k = MX.1 (cc + 4) k) (e2 : MY'.1 102 18 = MY.1 102 18) (e3 : ∀ k, MY'.1 106 k = MY.1 106 k) (n1 : ∀ k, MX'.2.1 (cc + 3) k = MX.2.1 (cc + 3) k) (n2 : ∀ k, MY'.2.1 103 k = MY.2.1 103 k) : D3 MX' MY' cc B := by
  obtain ⟨me, h0, h1, h2, h3, h4⟩ := h
  exact ⟨me, h0, e0.trans h1, e2.trans h2, h3.cg n1 n2, fun f i hf hi => (h4 f i hf hi).cg (e1 _) (e3 _)⟩
theorem D4.cg {MX MY MX' MY' : eM} (h : D4 MX MY cc B) (e0 : MX'.1 cc 11 = MX.1 cc 11) (e1 : ∀ k, MX'.1 (cc + 6) k = MX.1 (cc + 6) k) (e4 : ∀ k, MX'.1 (cc + 7) k = MX.1 (cc + 7) k) (e2 : MY'.1 102 19 = MY.1 102 19) (e3 : ∀ k, MY'.1 107 k = MY.1 107 k) (e5 : ∀ k, MY'.1 108 k = MY.1 108 k) (n1 : ∀ k, MX'.2.1 (cc + 5) k = MX.2.1 (cc + 5) k) (n2 : ∀ k, MY'.2.1 104 k = MY.2.1 104 k) : D4 MX' MY' cc B := by
  obtain ⟨me, h0, h1, h2, h3, h4⟩ := h
  refine ⟨me, h0, e0.trans h1, e2.trans h2, h3.cg n1 n2, fun s hs => ?_⟩
  obtain ⟨hh, g1, g2, g3, g4, g5⟩ := h4 s hs
  exact ⟨hh, g1, g2, (e1 _).trans g3, (e3 _).trans g4, fun i j hi hj => (g5 i j hi hj).cg (e4 _) (e5 _)⟩
theorem D5.cg {MX MY MX' MY' : eM} (h : D5 MX MY cc B) (e0 : MX'.1 cc 15 = MX.1 cc 15) (e1 : ∀ k, MX'.1 (cc + 9) k = MX.1 (cc + 9) k) (e2 : MY'.1 102 20 = MY.1 102 20) (e3 : ∀ k, MY'.1 109 k = MY.1 109 k) (n1 : ∀ k, MX'.2.1 (cc + 8) k = MX.2.1 (cc + 8) k) (n2 : ∀ k, MY'.2.1 105 k = MY.2.1 105 k) : D5 MX' MY' cc B := by
  obtain ⟨me, h0, h1, h2, h3, h4⟩ := h
  exact ⟨me, h0, e0.trans h1, e2.trans h2, h3.cg n1 n2, fun k hk => (h4 k hk).cg (e1 _) (e3 _)⟩
theorem D6.cg {MX MY MX' MY' : eM} (h : D6 MX MY) (e1 : MX'.1 3 5 = MX.1 3 5) (e2 : MY'.1 100 21 = MY.1 100 21) : D6 MX' MY' := by
  unfold D6 at h ⊢
  rw [e1, e2]
  exact h
def DR (MX MY : eM) (cc : Nat) (B : Nat → Nat) : Prop := D0 MX MY cc ∧ D1 MX MY cc ∧ D2 MX MY cc ∧ D3 MX MY cc B ∧ D4 MX MY cc B ∧ D5 MX MY cc B ∧ D6 MX MY
theorem DR.d0 {MX MY : eM} (h : DR MX MY cc B) : D0 MX MY cc := h.1
theorem DR.d1 {MX MY : eM} (h : DR MX MY cc B) : D1 MX MY cc := h.2.1
theorem DR.d2 {MX MY : eM} (h : DR MX MY cc B) : D2 MX MY cc := h.2.2.1
theorem DR.d3 {MX MY : eM} (h : DR MX MY cc B) : D3 MX MY cc B := h.2.2.2.1
theorem DR.d4 {MX MY : eM} (h : DR MX MY cc B) : D4 MX MY cc B := h.2.2.2.2.1
theorem DR.d5 {MX MY : eM} (h : DR MX MY cc B) : D5 MX MY cc B := h.2.2.2.2.2.1
theorem DR.d6 {MX MY : eM} (h : DR MX MY cc B) : D6 MX MY := h.2.2.2.2.2.2
/-- nothing of the drafts changed -/
theorem DR.cg (hc : pn_c cc) {MX MY MX' MY' : eM} (h : DR MX MY cc B) (f : GRx MX MX') (g : GRy MY MY') : DR MX' MY' cc B := by
  have hcc : cc = 10 ∨ cc = 20 := hc
  have x : ∀ c k, c ≠ 3 → MX'.1 c k = MX.1 c k := fun c k h => f.1 c k (Or.inl h)
  have y : ∀ c k, c ≠ 100 → MY'.1 c k = MY.1 c k := fun c k h => g.1 c k (Or.inl h)
  have lx : ∀ c k, c ≠ 3 → MX'.2.1 c k = MX.2.1 c k := f.2.1
  have ly : ∀ c k, c ≠ 100 → MY'.2.1 c k = MY.2.1 c k := g.2.1
  exact ⟨h.d0.cg (fun k _ => x _ _ (by omega)) (fun k _ _ => y _ _ (by omega)), h.d1.cg (fun k => x _ _ (by omega)) (fun k _ => y _ _ (by omega)), h.d2.cg (x _ _ (by omega)) (fun k => x _ _ (by omega)) (y _ _ (by omega)) (fun k _ => y _ _ (by omega)),
    h.d3.cg (x _ _ (by omega)) (fun k => x _ _ (by omega)) (y _ _ (by omega)) (fun k => y _ _ (by omega)) (fun k => lx _ _ (by omega)) (fun k => ly _ _ (by omega)),
    h.d4.cg (x _ _ (by omega)) (fun k => x _ _ (by omega)) (fun k => x _ _ (by omega)) (y _ _ (by omega)) (fun k => y _ _ (by omega)) (fun k => y _ _ (by omega)) (fun k => lx _ _ (by omega)) (fun k => ly _ _ (by omega)),
    h.d5.cg (x _ _ (by omega)) (fun k => x _ _ (by omega)) (y _ _ (by omega)) (fun k => y _ _ (by omega)) (fun k => lx _ _ (by omega)) (fun k => ly _ _ (by omega)),
    h.d6.cg (f.1 3 5 (by omega)) (g.1 100 21 (by omega))⟩
/-- before the clause's own words: the class has gone past its first WORD, the model stands on it -/
def Sc (MX MY : eM) (B : Nat → Nat) (len p : Nat) : Prop := p ≤ len ∧ SRx MX B len ∧ (MX.1 3 4 = nI (tE B len p) ∧ MX.1 3 7 = nI (tS B len p) ∧ MX.1 3 6 = nI (tK B len p)) ∧ SRy MY B len ∧ TY MY B len p
/-- a clause read -/
def CL (p : Nat) (x4 : Int32) (cc : Nat) (B : Nat → Nat) (len : Nat) (MX' MY' : eM) : Prop := (∃ p', p < p' ∧ Sy MX' MY' B len p') ∧ DR MX' MY' cc B ∧ MX'.1 cc 4 = x4
def so1 (M : eM) : Option (Int32 × eM) := some (1, M)
theorem jend (hc : pn_c cc) {MX MY : eM} {p p2 : Nat} {x4 : Int32} (h : Sy MX MY B len p2) (hD : DR MX MY cc B) (hp : p ≤ p2) (h4 : MX.1 cc 4 = x4) : JO cc (ea_ci (fX2_closes MX) (nx0 so1)) (mcl MY) MX MY (CL p x4 cc B len) := by
  have hcc : cc = 10 ∨ cc = 20 := hc
  rcases jclose (cc := cc) h with ⟨A, C, a1, a2, a3, a4, a5⟩ | ⟨A, C, a1, a2, ⟨a3, a6, a7, a8⟩, a4, a5⟩
  · exact Or.inl ⟨A, C, by rw [a1, ev_ci]; exact if_pos rfl, a2, a3, a4, a5⟩
  · exact Or.inr ⟨A, C, by rw [a1, ev_ci]; exact if_neg (by decide), a2, ⟨⟨_, by omega, a3⟩, hD.cg hc a7 a8, (a7.1 _ _ (by omega)).trans h4⟩, a4, a5⟩
def bx (w : Nat) : Nat := ([1, 2, 0, 4, 8] : List Nat).getD w 0
def sX (m w : Nat) : Int32 := nI m &&& nI (bx w)
def sY (m w : Nat) : Int32 := (nI (m % 4 + 8 * (m / 4)) >>> (nI w &&& 31)) &&& 1
theorem seen1 : ∀ m, m < 16 → ∀ w, w < 5 → w ≠ 2 → (sX m w = 0 ↔ ¬ sY m w = 1) := by decide +kernel
def sX2 (m w : Nat) : Int32 := nI m ||| nI (bx w)
def sY2 (m w : Nat) : Int32 := nI (m % 4 + 8 * (m / 4)) ||| ((1 : Int32) <<< (nI w &&& 31))
theorem seen2 : ∀ m, m < 16 → ∀ w, w < 5 → w ≠ 2 → sX m w = 0 → (m + bx w < 16 ∧ sX2 m w = nI (m + bx w) ∧ sY2 m w = nI ((m + bx w) % 4 + 8 * ((m + bx w) / 4))) := by decide +kernel
theorem seenT (m : Nat) (hm : m < 16) (w : Nat) (hw : w < 5) (hw2 : w ≠ 2) : ((nI m &&& nI (bx w) = 0) ↔ ¬ ((nI (m % 4 + 8 * (m / 4)) >>> (nI w &&& 31)) &&& 1 = 1)) ∧ (nI m &&& nI (bx w) = 0 → m + bx w < 16 ∧ nI m ||| nI (bx w) = nI (m + bx w) ∧ nI (m % 4 + 8 * (m / 4)) ||| ((1 : Int32) <<< (nI w &&& 31)) = nI ((m + bx w) % 4 + 8 * ((m + bx w) / 4))) := ⟨seen1 m hm w hw hw2, seen2 m hm w hw hw2⟩
theorem ci_fail (x : Int32) (M : eM) (k : eM → Option (Int32 × eM)) : ea_ci (fX11_fails x M) (nx0 k) = fX11_fails x M := by
  unfold fX11_fails fX11_fails_0
  rw [ev_ci]
  exact if_pos rfl
theorem ci_cv {p : Option eM} {f : eM → Option (Int32 × eM)} {k : Int32 → eM → Option (Int32 × eM)} : ea_ci (ea_cv p f) k = ea_cv p (fun M => ea_ci (f M) k) := by
  cases p <;> rfl
theorem ci_ite {c : Prop} [Decidable c] {p q : Option (Int32 × eM)} {k : Int32 → eM → Option (Int32 × eM)} : ea_ci (if c then p else q) k = if c then ea_ci p k else ea_ci q k := by
  by_cases h : c
  · rw [if_pos h, if_pos h]
  · rw [if_neg h, if_neg h]
theorem jfirst (hc : pn_c cc) {w p : Nat} (hw : w < 5) (hw2 : w ≠ 2) {MX MY : eM} {KX KY : eM → Option (Int32 × eM)} {Q : eM → eM → Prop} (h : Sc MX MY B len p) (hD : DR MX MY cc B)
    (fin : ∀ MX' MY', Sy MX' MY' B len (tE B len p) → DR MX' MY' cc B → (∀ c k, c ≠ 3 → MX'.1 c k = MX.1 c k) → MX'.2.2 = MX.2.2 → JO cc (KX MX') (KY MY') MX' MY' Q) :
    JO cc (ea_ci (fX2_isFirst (nI (bx w)) MX) (nx0 KX)) (if (((MY.1 100 21) >>> (nI w &&& 31)) &&& (1 : Int32)) = (1 : Int32) then fX11_fails 3 MY else ea_cv (fX11_scan (ea_pI MY 100 21 ((MY.1 100 21) ||| ((1 : Int32) <<< (nI w &&& 31))))) KY) MX MY Q := by
  have hcc : cc = 10 ∨ cc = 20 := hc
  obtain ⟨hp, hX, ⟨x4, x7, x6⟩, hY, t6, t5, t⟩ := h
  obtain ⟨m, m1, m2, m3⟩ := hD.d6
  obtain ⟨-, -, b3, -⟩ := tE_b (B := B) hp
  obtain ⟨s1, s2⟩ := seenT m m1 w hw hw2
  unfold fX2_isFirst fX2_isFirst_0
  rw [m2, m3]
  by_cases hs : nI m &&& nI (bx w) = 0
  · obtain ⟨q1, q2, q3⟩ := s2 hs
    rw [if_pos hs, if_neg (s1.mp hs), q2, q3, ev_ci]
    show JO cc (nx0 KX 1 _) _ MX MY Q
    unfold nx0
    rw [if_neg (by decide)]
    have fx : FDx cc MX (ea_pI MX 3 5 (nI (m + bx w))) := (FDx.rf cc MX).pI (by omega)
    have fy : FDy MY (ea_pI MY 100 21 (nI ((m + bx w) % 4 + 8 * ((m + bx w) / 4)))) := (FDy.rf MY).pI (by unfold rgY; omega)
    obtain ⟨MY1, r1, r2, r3⟩ := jscan (MX := ea_pI MX 3 5 (nI (m + bx w))) (p := tE B len p) b3 (hX.d hc fx) (by rw [ea_pI_ne (by omega)]; exact x4) (hY.d fy) (by rw [ea_pI_ne (by omega)]; exact t6)
    rw [r1, ev_cv]
    have xx : ∀ c k, c ≠ 3 → (ea_pI MX 3 5 (nI (m + bx w))).1 c k = MX.1 c k := fun c k h => ea_pI_ne (by omega)
    have yy : ∀ c k, c ≠ 100 → MY1.1 c k = MY.1 c k := fun c k h => by rw [r3.1 c k (by omega), ea_pI_ne (by omega)]
    have ly : ∀ c k, c ≠ 100 → MY1.2.1 c k = MY.2.1 c k := r3.2.1
    refine (fin _ MY1 r2 ?_ xx rfl).mv fx (fy.trans r3.g.d)
    exact ⟨hD.d0.cg (fun k _ => xx _ _ (by omega)) (fun k _ _ => yy _ _ (by omega)), hD.d1.cg (fun k => xx _ _ (by omega)) (fun k _ => yy _ _ (by omega)), hD.d2.cg (xx _ _ (by omega)) (fun k => xx _ _ (by omega)) (yy _ _ (by omega)) (fun k _ => yy _ _ (by omega)),
      hD.d3.cg (xx _ _ (by omega)) (fun k => xx _ _ (by omega)) (yy _ _ (by omega)) (fun k => yy _ _ (by omega)) (fun k => rfl) (fun k => ly _ _ (by omega)),
      hD.d4.cg (xx _ _ (by omega)) (fun k => xx _ _ (by omega)) (fun k => xx _ _ (by omega)) (yy _ _ (by omega)) (fun k => yy _ _ (by omega)) (fun k => yy _ _ (by omega)) (fun k => rfl) (fun k => ly _ _ (by omega)),
      hD.d5.cg (xx _ _ (by omega)) (fun k => xx _ _ (by omega)) (yy _ _ (by omega)) (fun k => yy _ _ (by omega)) (fun k => rfl) (fun k => ly _ _ (by omega)),
      ⟨m + bx w, q1, ea_pI_eq, by rw [r3.1 100 21 (by omega), ea_pI_eq]⟩⟩
  · rw [if_neg hs, if_pos (Decidable.not_not.mp (fun e => hs (s1.mpr e))), ckr]
    obtain ⟨A, C, a1, a2, a3, a4, a5⟩ := jfail (MX := MX) (MY := MY) 3 x7 t5
    exact Or.inl ⟨A, C, by rw [a1, ev_ci]; exact if_pos rfl, a2, a3, a4.d, a5.d⟩
/-- one number told into the drafts -/
theorem DR.put0 (hc : pn_c cc) {MX MY : eM} (h : DR MX MY cc B) {i z : Nat} (hi4 : (i = 0 ∧ 1 ≤ z ∧ z ≤ 8) ∨ (i = 1 ∧ 1 ≤ z ∧ z ≤ 6) ∨ (i = 2 ∧ z ≤ 20) ∨ (i = 3 ∧ 1 ≤ z ∧ z ≤ 2)) : DR (ea_pI MX cc i (nI z)) (ea_pI MY 102 (14 + i) (nI z)) cc B := by
  have hcc : cc = 10 ∨ cc = 20 := hc
  have xx : ∀ c k, (c ≠ cc ∨ k ≠ i) → (ea_pI MX cc i (nI z)).1 c k = MX.1 c k := fun c k h => ea_pI_ne h
  have yy : ∀ c k, (c ≠ 102 ∨ k ≠ 14 + i) → (ea_pI MY 102 (14 + i) (nI z)).1 c k = MY.1 c k := fun c k h => ea_pI_ne h
  refine ⟨?_, h.d1.cg (fun k => xx _ _ (by omega)) (fun k _ => yy _ _ (by omega)), h.d2.cg (xx _ _ (by omega)) (fun k => xx _ _ (by omega)) (yy _ _ (by omega)) (fun k _ => yy _ _ (by omega)),
      h.d3.cg (xx _ _ (by omega)) (fun k => xx _ _ (by omega)) (yy _ _ (by omega)) (fun k => yy _ _ (by omega)) (fun k => rfl) (fun k => rfl),
      h.d4.cg (xx _ _ (by omega)) (fun k => xx _ _ (by omega)) (fun k => xx _ _ (by omega)) (yy _ _ (by omega)) (fun k => yy _ _ (by omega)) (fun k => yy _ _ (by omega)) (fun k => rfl) (fun k => rfl),
      h.d5.cg (xx _ _ (by omega)) (fun k => xx _ _ (by omega)) (yy _ _ (by omega)) (fun k => yy _ _ (by omega)) (fun k => rfl) (fun k => rfl),
      h.d6.cg (xx _ _ (by omega)) (yy _ _ (by omega))⟩
  have keep : ∀ j lo hi, j ≠ i → ez MX cc j MY 102 (14 + j) lo hi → ez (ea_pI MX cc i (nI z)) cc j (ea_pI MY 102 (14 + i) (nI z)) 102 (14 + j) lo hi := fun j lo hi hj hz => hz.cg (xx _ _ (by omega)) (yy _ _ (by omega))
  have new : ∀ lo hi, lo ≤ z → z ≤ hi → ez (ea_pI MX cc i (nI z)) cc i (ea_pI MY 102 (14 + i) (nI z)) 102 (14 + i) lo hi := fun lo hi h1 h2 => ⟨z, h1, h2, ea_pI_eq, ea_pI_eq⟩
  obtain ⟨q0, q1, q2, q3⟩ := h.d0
  rcases hi4 with ⟨e, e1, e2⟩ | ⟨e, e1, e2⟩ | ⟨e, e2⟩ | ⟨e, e1, e2⟩ <;> subst e
  · exact ⟨new 1 8 e1 e2, keep 1 _ _ (by decide) q1, keep 2 _ _ (by decide) q2, keep 3 _ _ (by decide) q3⟩
  · exact ⟨keep 0 _ _ (by decide) q0, new 1 6 e1 e2, keep 2 _ _ (by decide) q2, keep 3 _ _ (by decide) q3⟩
  · exact ⟨keep 0 _ _ (by decide) q0, keep 1 _ _ (by decide) q1, new 0 20 (Nat.zero_le _) e2, keep 3 _ _ (by decide) q3⟩
  · exact ⟨keep 0 _ _ (by decide) q0, keep 1 _ _ (by decide) q1, keep 2 _ _ (by decide) q2, new 1 2 e1 e2⟩
theorem Sy.put (hc : pn_c cc) {MX MY MX' MY' : eM} {p : Nat} (h : Sy MX MY B len p) (f : FDx cc MX MX') (e : MX'.1 3 4 = MX.1 3 4) (g : FDy MY MY') (e2 : ∀ k, MY'.1 100 k = MY.1 100 k) (e3 : MY'.2.1 100 10 = MY.2.1 100 10) : Sy MX' MY' B len p :=
  ⟨h.1, h.2.1.d hc f, e.trans h.2.2.1, h.2.2.2.1.d g, h.2.2.2.2.cg e2 e3⟩
end DF
