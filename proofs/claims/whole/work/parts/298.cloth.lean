section CLH
variable {B : Nat → Nat} {len cc : Nat}
theorem pn_X.cgc {M M' : eM} {c : Nat} {n : Nat → Nat} {v : Nat → Nat → Nat} (hs : ∀ a k, c ≤ a → a ≤ c + 9 → M'.1 a k = M.1 a k) (h : pn_X M c n v) : pn_X M' c n v := by
  have k0 : ∀ k, M'.1 c k = M.1 c k := fun k => hs _ _ (by omega) (by omega)
  have k1 : ∀ k, M'.1 (c + 1) k = M.1 (c + 1) k := fun k => hs _ _ (by omega) (by omega)
  have k2 : ∀ k, M'.1 (c + 2) k = M.1 (c + 2) k := fun k => hs _ _ (by omega) (by omega)
  have k4 : ∀ k, M'.1 (c + 4) k = M.1 (c + 4) k := fun k => hs _ _ (by omega) (by omega)
  have k6 : ∀ k, M'.1 (c + 6) k = M.1 (c + 6) k := fun k => hs _ _ (by omega) (by omega)
  have k7 : ∀ k, M'.1 (c + 7) k = M.1 (c + 7) k := fun k => hs _ _ (by omega) (by omega)
  have k9 : ∀ k, M'.1 (c + 9) k = M.1 (c + 9) k := fun k => hs _ _ (by omega) (by omega)
  unfold pn_X at h ⊢
  simp only [k0, k1, k2, k4, k6, k7, k9]
  exact h
theorem pn_Y.cgc {M M' : eM} {n : Nat → Nat} {v : Nat → Nat → Nat} (ok : pn_ok n v) (y2 : ∀ k, k < 14 → M'.1 102 k = M.1 102 k) (y6 : ∀ k, k < 30 → M'.1 106 k = M.1 106 k) (y7 : ∀ k, k < 4 → M'.1 107 k = M.1 107 k) (y8 : ∀ k, k < 96 → M'.1 108 k = M.1 108 k) (y9 : ∀ k, k < 18 → M'.1 109 k = M.1 109 k) (y20 : M'.1 100 20 = M.1 100 20) (h : pn_Y M n v) : pn_Y M' n v := by
  obtain ⟨⟨a0, a1, a2, a3, a4, a5, a6, a7, a8⟩, b1, b2, b3, b4, b5, b6⟩ := h
  obtain ⟨o0, o1, o2, o3, o4, o5, o6, o7, o8, ob, oy, om, ow, os, oe⟩ := ok
  refine ⟨⟨(y2 0 (by omega)).trans a0, (y2 1 (by omega)).trans a1, (y2 2 (by omega)).trans a2, (y2 3 (by omega)).trans a3, (y2 4 (by omega)).trans a4, (y2 5 (by omega)).trans a5, (y2 6 (by omega)).trans a6, (y2 7 (by omega)).trans a7, y20.trans a8⟩, fun k hk => (y2 _ (by omega)).trans (b1 k hk), fun k hk => (y2 _ (by omega)).trans (b2 k hk), fun k hk => (y6 _ (by omega)).trans (b3 k hk), fun k hk => (y7 _ (by omega)).trans (b4 k hk), fun s i j hs hi hj => ?_, fun k hk => (y9 _ (by omega)).trans (b6 k hk)⟩
  have := (os s hs).1.2
  exact (y8 _ (by omega)).trans (b5 s i j hs hi hj)
theorem ez.cl {MX MY : eM} {a i b j lo hi : Nat} (h : ez MX a i MY b j lo hi) (hh : hi < 2 ^ 31) : lo ≤ (MX.1 a i).toNatClampNeg ∧ (MX.1 a i).toNatClampNeg ≤ hi ∧ MX.1 a i = nI (MX.1 a i).toNatClampNeg ∧ MY.1 b j = nI (MX.1 a i).toNatClampNeg := by
  obtain ⟨x, h1, h2, h3, h4⟩ := h
  have e : (MX.1 a i).toNatClampNeg = x := by rw [h3]; exact nI_clamp (by omega)
  rw [e]
  exact ⟨h1, h2, h3, h4⟩
theorem mkOK (hc : pn_c cc) {MX0 MY0 MX' MY' : eM} {k' st mo : Nat} (hD : DR MX0 MY0 cc B) (hk : k' ≤ 900) (h4 : MX0.1 cc 4 = nI k') (h8 : MX0.1 cc 8 = nI st) (hs : st ≤ 5) (h3 : MX0.1 cc 3 = nI mo) (hm : mo ≤ 2) (fx : ∀ a k, cc ≤ a → a ≤ cc + 9 → MX'.1 a k = MX0.1 a k) (y2 : ∀ k, k < 14 → MY'.1 102 k = MY0.1 102 (14 + k)) (y6 : ∀ k, k < 30 → MY'.1 106 k = MY0.1 106 (30 + k)) (y7 : ∀ k, k < 4 → MY'.1 107 k = MY0.1 107 (4 + k)) (y8 : ∀ k, k < 96 → MY'.1 108 k = MY0.1 108 (96 + k)) (y9 : ∀ k, k < 18 → MY'.1 109 k = MY0.1 109 (18 + k)) (y20 : MY'.1 100 20 = nI k') : ∃ (n : Nat → Nat) (v : Nat → Nat → Nat), pn_ok n v ∧ pn_X MX' cc n v ∧ pn_Y MY' n v ∧ n 4 = st ∧ n 3 = mo := by
  obtain ⟨⟨a0, l0, u0, e0, f0⟩, ⟨a1, l1, u1, e1, f1⟩, ⟨a2, l2, u2, e2, f2⟩, ⟨a3, l3, u3, e3, f3⟩⟩ := hD.d0
  obtain ⟨me, q0, q1, q2, q3, q4⟩ := hD.d2
  obtain ⟨s1, r0, r1, r2, -, r4⟩ := hD.d3
  obtain ⟨tl, t0, t1', t2', -, t4⟩ := hD.d4
  obtain ⟨ey, w0, w1, w2, -, w4⟩ := hD.d5
  have es : s1 = st := (nI_eq (by omega) (by omega)).mp (r1.symm.trans h8)
  subst es
  have em : a3 = mo := (nI_eq (by omega) (by omega)).mp (e3.symm.trans h3)
  subst em
  obtain ⟨n, n0, n1, n2, n3, n4, n5, n6, n7, n8⟩ : ∃ n : Nat → Nat, n 0 = a0 ∧ n 1 = a1 ∧ n 2 = a2 ∧ n 3 = a3 ∧ n 4 = s1 ∧ n 5 = tl ∧ n 6 = ey ∧ n 7 = me ∧ n 8 = k' := ⟨fun i => ([a0, a1, a2, a3, s1, tl, ey, me, k'] : List Nat).getD i 0, rfl, rfl, rfl, rfl, rfl, rfl, rfl, rfl, rfl⟩
  obtain ⟨v, v0, v1, v2, v3, v4, v5⟩ : ∃ v : Nat → Nat → Nat, (∀ k, v 0 k = (MX0.1 (cc + 1) k).toNatClampNeg) ∧ (∀ k, v 1 k = (MX0.1 (cc + 2) k).toNatClampNeg) ∧ (∀ k, v 2 k = (MX0.1 (cc + 4) k).toNatClampNeg) ∧ (∀ k, v 3 k = (MX0.1 (cc + 6) k).toNatClampNeg) ∧ (∀ k, v 4 k = (MX0.1 (cc + 7) k).toNatClampNeg) ∧ (∀ k, v 5 k = (MX0.1 (cc + 9) k).toNatClampNeg) := ⟨fun i k => (MX0.1 (([cc + 1, cc + 2, cc + 4, cc + 6, cc + 7, cc + 9] : List Nat).getD i 0) k).toNatClampNeg, fun _ => rfl, fun _ => rfl, fun _ => rfl, fun _ => rfl, fun _ => rfl, fun _ => rfl⟩
  -- what the parts are
  have c1 := fun k (hk : k < 3) => (hD.d1 k hk).cl (by decide)
  have c2 := fun k (hk : k < me) => (q3 k hk).cl (by decide)
  have c5 := fun k (hk : k < 9 * ey) => (w4 k hk).cl (by decide)
  have shb : ∀ i, i < 6 → sh i < 2 ^ 31 := by decide
  have hgb : ∀ i, i < 4 → hgh i < 2 ^ 31 := by decide
  have c3 := fun f i (hf : f < s1) (hi : i < 6) => (r4 f i hf hi).cl (shb i hi)
  have c3k : ∀ k, k < 6 * s1 → MX0.1 (cc + 4) k = nI (v 2 k) ∧ MY0.1 106 (30 + k) = nI (v 2 k) := fun k hk => by
    have := c3 (k / 6) (k % 6) (by omega) (by omega)
    rw [show 6 * (k / 6) + k % 6 = k by omega] at this
    rw [v2]
    exact this.2.2
  have c4 : ∀ s, s < tl → (1 ≤ v 3 s ∧ v 3 s ≤ 6) ∧ MX0.1 (cc + 6) s = nI (v 3 s) ∧ MY0.1 107 (4 + s) = nI (v 3 s) ∧ ∀ i j, i < v 3 s → j < 4 → hgl j ≤ v 4 (4 * (6 * s + i) + j) ∧ v 4 (4 * (6 * s + i) + j) ≤ hgh j ∧ MX0.1 (cc + 7) (4 * (6 * s + i) + j) = nI (v 4 (4 * (6 * s + i) + j)) ∧ MY0.1 108 (96 + (4 * (6 * s + i) + j)) = nI (v 4 (4 * (6 * s + i) + j)) := fun s hs => by
    obtain ⟨h, g1, g2, g3, g4, g5⟩ := t4 s hs
    have eh : v 3 s = h := by rw [v3, g3]; exact nI_clamp (by omega)
    rw [eh]
    refine ⟨⟨g1, g2⟩, g3, g4, fun i j hi hj => ?_⟩
    rw [v4]
    exact (g5 i j hi hj).cl (hgb j hj)
  refine ⟨n, v, ?_, ?_, ?_, n4, n3⟩
  · unfold pn_ok
    rw [n0, n1, n2, n3, n4, n5, n6, n7, n8]
    refine ⟨⟨l0, u0⟩, ⟨l1, u1⟩, u2, ⟨l3, u3⟩, r0, t0, w0, q0, hk, fun k hk => ?_, fun k hk => ?_, fun k hk => ?_, fun f hf => ⟨fun j hj => ?_, ?_, ⟨?_, ?_⟩, ⟨?_, ?_⟩⟩, fun s hs => ⟨(c4 s hs).1, fun i hi => ⟨⟨?_, ?_⟩, ?_, ?_, ?_⟩⟩, fun k hk => ?_⟩
    · rw [v0]; exact (c1 k hk).2.1
    · rw [v1]; exact ⟨(c2 k hk).1, (c2 k hk).2.1⟩
    · rw [v1, v1]; exact q4 k hk
    · rw [v2]
      have := (c3 f j hf (by omega)).2.1
      rcases (show j = 0 ∨ j = 1 ∨ j = 2 by omega) with e | e | e <;> subst e <;> exact this
    · rw [v2]; exact (c3 f 3 hf (by omega)).2.1
    · rw [v2]; exact (c3 f 4 hf (by omega)).1
    · rw [v2]; exact (c3 f 4 hf (by omega)).2.1
    · rw [v2]; exact (c3 f 5 hf (by omega)).1
    · rw [v2]; exact (c3 f 5 hf (by omega)).2.1
    · exact ((c4 s hs).2.2.2 i 0 hi (by omega)).1
    · exact ((c4 s hs).2.2.2 i 0 hi (by omega)).2.1
    · exact ((c4 s hs).2.2.2 i 1 hi (by omega)).2.1
    · exact ((c4 s hs).2.2.2 i 2 hi (by omega)).2.1
    · exact ((c4 s hs).2.2.2 i 3 hi (by omega)).2.1
    · rw [v5]; exact (c5 k hk).2.1
  · unfold pn_X
    rw [n0, n1, n2, n3, n4, n5, n6, n7, n8]
    refine ⟨⟨?_, ?_, ?_, ?_, ?_, ?_, ?_, ?_, ?_⟩, fun k hk => ?_, fun k hk => ?_, fun k hk => ?_, fun k hk => ?_, fun s i j hs hi hj => ?_, fun k hk => ?_⟩
    · rw [fx _ _ (by omega) (by omega)]; exact e0
    · rw [fx _ _ (by omega) (by omega)]; exact e1
    · rw [fx _ _ (by omega) (by omega)]; exact e2
    · rw [fx _ _ (by omega) (by omega)]; exact e3
    · rw [fx _ _ (by omega) (by omega)]; exact r1
    · rw [fx _ _ (by omega) (by omega)]; exact t1'
    · rw [fx _ _ (by omega) (by omega)]; exact w1
    · rw [fx _ _ (by omega) (by omega)]; exact q1
    · rw [fx _ _ (by omega) (by omega)]; exact h4
    · rw [fx _ _ (by omega) (by omega), v0]; exact (c1 k hk).2.2.1
    · rw [fx _ _ (by omega) (by omega), v1]; exact (c2 k hk).2.2.1
    · rw [fx _ _ (by omega) (by omega)]; exact (c3k k hk).1
    · rw [fx _ _ (by omega) (by omega)]; exact (c4 k hk).2.1
    · rw [fx _ _ (by omega) (by omega)]; exact ((c4 s hs).2.2.2 i j hi hj).2.2.1
    · rw [fx _ _ (by omega) (by omega), v5]; exact (c5 k hk).2.2.1
  · unfold pn_Y
    rw [n0, n1, n2, n3, n4, n5, n6, n7, n8]
    refine ⟨⟨?_, ?_, ?_, ?_, ?_, ?_, ?_, ?_, y20⟩, fun k hk => ?_, fun k hk => ?_, fun k hk => ?_, fun k hk => ?_, fun s i j hs hi hj => ?_, fun k hk => ?_⟩
    · rw [y2 _ (by omega)]; exact f0
    · rw [y2 _ (by omega)]; exact f1
    · rw [y2 _ (by omega)]; exact f2
    · rw [y2 _ (by omega)]; exact f3
    · rw [y2 _ (by omega)]; exact r2
    · rw [y2 _ (by omega)]; exact t2'
    · rw [y2 _ (by omega)]; exact w2
    · rw [y2 _ (by omega)]; exact q2
    · rw [y2 _ (by omega), v0, show 14 + (8 + k) = 22 + k by omega]; exact (c1 k hk).2.2.2
    · rw [y2 _ (by omega), v1, show 14 + (11 + k) = 25 + k by omega]; exact (c2 k hk).2.2.2
    · rw [y6 _ (by omega)]; exact (c3k k hk).2
    · rw [y7 _ (by omega)]; exact (c4 k hk).2.2.1
    · have := (c4 s hs).1.2
      rw [y8 _ (by omega)]
      exact ((c4 s hs).2.2.2 i j hi hj).2.2.2
    · rw [y9 _ (by omega), v5]; exact (c5 k hk).2.2.2
/-- a text refused, on both sides -/
def CFail (cc c : Nat) (MX MY MX' MY' : eM) : Prop := MX'.1 1 1 = 0 ∧ MY'.1 100 1 = 0 ∧ FT MX' MY' ∧ (∀ a k, a ≠ 3 → (a < cc ∨ cc + 9 < a) → (a ≠ 1 ∨ k ≠ 1) → MX'.1 a k = MX.1 a k) ∧ MX'.2.2 4 0 = c ∧ MX'.2.2 0 3 = cc ∧ (∀ a k, ¬ rgW a k → (a ≠ 100 ∨ (k ≠ 1 ∧ k ≠ 2)) → MY'.1 a k = MY.1 a k) ∧ MY'.2.2 = MY.2.2
/-- a CLOTH told, on both sides -/
def CTold (cc c k' : Nat) (MX MY MX' MY' : eM) : Prop := (∃ (n : Nat → Nat) (v : Nat → Nat → Nat), pn_ok n v ∧ pn_X MX' cc n v ∧ pn_Y MY' n v ∧ tx MX' (tls (n 4) (n 3)) ∧ ty MY' (tls (n 4) (n 3))) ∧ (MX'.1 1 1 = 0 ∧ MY'.1 100 1 = 0 ∧ FT MX' MY') ∧ (MX'.1 30 3 = 0 ∧ MX'.1 30 4 = 0 ∧ MX'.1 30 5 = 0 ∧ MX'.1 30 6 = 0) ∧ (∀ j, j < 3 → MX'.1 (34 + 4 * j) 7 = 0 ∧ MY'.1 115 j = 0) ∧ (∀ k, k < 854 → MY'.1 114 k = 0) ∧ MX'.2.2 4 0 = cc ∧ MX'.2.2 0 3 = c ∧ (∀ a k, (a = 2 ∨ a = 52 ∨ a = 62 ∨ 100 ≤ a) → MX'.1 a k = MX.1 a k) ∧ (∀ a k, a < 100 → MY'.1 a k = MY.1 a k) ∧ MY'.2.2 = MY.2.2 ∧ k' ≤ 900
theorem jCloth (hc : pn_c cc) {c : Nat} (hc2 : pn_c c) {MX MY : eM} (hBX : BY MX B len) (h11 : MX.1 1 1 = nI len) (hBY : BY MY B len) (h1 : MY.1 100 1 = nI len) (r0 : MX.2.2 0 3 = cc) (r4 : MX.2.2 4 0 = c) : (∃ MX' MY', fX10_cloth MX = some (-1, MX') ∧ fX11_cloth MY = some (-1, MY') ∧ CFail cc c MX MY MX' MY') ∨ (∃ (MX' MY' : eM) (k' : Nat), fX10_cloth MX = some (nI k', MX') ∧ fX11_cloth MY = some (nI k', MY') ∧ CTold cc c k' MX MY MX' MY') := by
  have hcc : cc = 10 ∨ cc = 20 := hc
  have hl := hBX.1
  obtain ⟨MX1, MY1, s1, s2, s3, s4, s5, s6, s7, s8, ⟨z1, z2, z3, z4, z5⟩, sx, sy, sr⟩ := jStart hc hBX h11 hBY h1 r0
  rw [s1, s2]
  rcases jLoop hc len 0 0 ea_N ea_N MX1 MY1 rfl s3 s4 s5 s6 s8 (Nat.le_refl _) (by unfold ea_N; omega) (by unfold ea_N; omega) with ⟨X, Y, a1, a2, a3, a4, a5⟩ | ⟨X, Y, k', a1, a2, a3, a4, a5, a6, a7⟩
  · refine Or.inl ⟨_, Y, a1, a2, ea_pI_eq, ?_, ⟨?_, ?_⟩, fun a k p1 p2 p3 => ?_, ?_, ?_, fun a k p1 p2 => ?_, ?_⟩
    · rw [a5.1 _ _ (by unfold rgW; omega)]; exact z5
    · rw [ea_pI_ne (by omega)]; exact a3.1
    · rw [ea_pI_ne (by omega)]; exact a3.2
    · rw [ea_pI_ne (by omega), a4.1 _ _ p1 p2, sx _ _ p1 p2]
    · show X.2.2 4 0 = c
      rw [a4.2, s7]; exact r4
    · show X.2.2 0 3 = cc
      rw [a4.2]; exact s6
    · rw [a5.1 _ _ p1, sy _ _ p1 p2]
    · rw [a5.2, sr]
  · obtain ⟨mo, m1, m2, m3, m4⟩ := a5.d0.2.2.2
    obtain ⟨st, d1, d2, d3, -⟩ := a5.d3
    obtain ⟨MX', e1, e2, e3, e4, e5, e6, e7, e8⟩ := px_endc hc (M := X) (c := c) (st := st) (mo := mo) hc2 (by rw [a6.2]; exact s6) (by rw [a6.2, s7]; exact r4) d2 m3 d1 ⟨m1, m2⟩
    obtain ⟨MY2, f1, f2, y2, y6, y7, y8, y9, f3, f4, f5, f6⟩ := py_settle (M := Y) (st := st) (mo := mo) d3 m4 d1 ⟨m1, m2⟩
    have yf : ∀ a k, (a ≠ 100 ∨ k ≠ 20) → (ea_pI MY2 100 20 (nI k')).1 a k = MY2.1 a k := fun a k h => ea_pI_ne h
    refine Or.inr ⟨MX', ea_pI MY2 100 20 (nI k'), k', ?_, ?_, ?_, ⟨e5, ?_, ?_, ?_⟩, e6, fun j hj => ⟨e7 j hj, ?_⟩, fun k hk => ?_, e2, e3, fun a k p => ?_, fun a k p => ?_, ?_, a3⟩
    · rw [a1, e1, a4]
    · rw [a2]
      unfold fX11_cloth_81
      rw [f1, ev_cv]
    · obtain ⟨n, v, n1, n2, n3, n4, n5⟩ := mkOK hc (MX' := MX') (MY' := ea_pI MY2 100 20 (nI k')) a5 a3 a4 d2 d1 m3 m2 (fun a k p q => e8 _ _ (by omega) (by omega) (by omega) (by omega) (by omega) (by omega)) (fun k hk => by rw [yf _ _ (by omega)]; exact y2 k hk) (fun k hk => by rw [yf _ _ (by omega)]; exact y6 k hk) (fun k hk => by rw [yf _ _ (by omega)]; exact y7 k hk) (fun k hk => by rw [yf _ _ (by omega)]; exact y8 k hk) (fun k hk => by rw [yf _ _ (by omega)]; exact y9 k hk) ea_pI_eq
      refine ⟨n, v, n1, n2, n3, ?_, ?_⟩
      · rw [n4, n5]; exact e4
      · rw [n4, n5]
        obtain ⟨g1, g2⟩ := f2
        refine ⟨by rw [yf _ _ (by omega)]; exact g1, fun t ht => ?_⟩
        rw [yf _ _ (by omega), yf _ _ (by omega), yf _ _ (by omega), yf _ _ (by omega)]
        exact g2 t ht
    · rw [yf _ _ (by omega), f5 _ _ (by omega) (by omega), a7.1 _ _ (by unfold rgY; omega)]; exact z5
    · rw [e8 _ _ (by omega) (by omega) (by omega) (by omega) (by omega) (by omega), a6.1 _ _ (by omega) (by omega), z1, yf _ _ (by omega), f5 _ _ (by omega) (by omega), a7.1 _ _ (by unfold rgY; omega), z3]
    · rw [e8 _ _ (by omega) (by omega) (by omega) (by omega) (by omega) (by omega), a6.1 _ _ (by omega) (by omega), z2, yf _ _ (by omega), f5 _ _ (by omega) (by omega), a7.1 _ _ (by unfold rgY; omega), z4]
    · rw [yf _ _ (by omega)]; exact f4 j hj
    · rw [yf _ _ (by omega)]; exact f3 k hk
    · rw [e8 _ _ (by omega) (by omega) (by omega) (by omega) (by omega) (by omega), a6.1 _ _ (by omega) (by omega), sx _ _ (by omega) (by omega)]
    · rw [yf _ _ (by omega), f5 _ _ (by omega) (by omega), a7.1 _ _ (by unfold rgY; omega), sy _ _ (by unfold rgW; omega) (by omega)]
    · show MY2.2.2 = MY.2.2
      rw [f6, a7.2, sr]
/-- CLOTH -/
theorem sz_cloth : ea_st InvZ fX10_cloth fX11_cloth := by
  intro M hM
  obtain ⟨⟨c, n, v, th, o, w, len, q, l, t, r, h1, h2, h3, h4⟩, hZ⟩ := hM
  obtain ⟨hc2, r4, r0, ok, hX, hY, hTh, hTX, hTY⟩ := h1
  obtain ⟨p1, p2, p3, p4, p5, p6⟩ := h2
  have hc2' : c = 10 ∨ c = 20 := hc2
  have hc : pn_c (30 - c) := by
    rcases hc2' with e | e
    · rw [e]; exact Or.inr rfl
    · rw [e]; exact Or.inl rfl
  have hB : BY M (fun k => (M.1 2 k &&& 255).toNatClampNeg) len := ⟨p1, fun k hk => by
    obtain ⟨g1, g2⟩ := p4 k hk
    obtain ⟨u, u1, u2, u3, u4⟩ := byt8 g2
    have e : (M.1 2 k &&& 255).toNatClampNeg = u := by rw [u2]; exact nI_clamp (by omega)
    show (M.1 2 k &&& 255).toNatClampNeg < 256 ∧ M.1 101 k &&& 255 = nI (M.1 2 k &&& 255).toNatClampNeg ∧ ((M.1 2 k &&& 255).toNatClampNeg < 128 → M.1 2 k = nI (M.1 2 k &&& 255).toNatClampNeg) ∧ (128 ≤ (M.1 2 k &&& 255).toNatClampNeg → M.1 2 k < 0)
    rw [e, ← g1]
    exact ⟨u1, u2, u3, u4⟩⟩
  -- the class by itself
  obtain ⟨rr, M1, x1, xf⟩ : ∃ (rr : Int32) (M1 : eM), fX10_cloth M = some (rr, M1) ∧ ∀ a k, (a = 2 ∨ 100 ≤ a) → M1.1 a k = M.1 a k := by
    rcases jCloth hc hc2 hB p2 hB p3 r0 r4 with ⟨X, Y, a1, a2, a3⟩ | ⟨X, Y, k', a1, a2, a3⟩
    · exact ⟨_, X, a1, fun a k h => a3.2.2.2.1 _ _ (by omega) (by omega) (by omega)⟩
    · exact ⟨_, X, a1, fun a k h => a3.2.2.2.2.2.2.2.1 _ _ (by omega)⟩
  have hB1 : BY M1 (fun k => (M.1 2 k &&& 255).toNatClampNeg) len := hB.cg (fun k => xf _ _ (by omega)) (fun k => xf _ _ (by omega))
  rcases jCloth hc hc2 hB p2 hB1 (by rw [xf _ _ (by omega)]; exact p3) r0 r4 with ⟨X, Y, a1, a2, b1, b2, b3, b4, b5, b6, b7, b8⟩ | ⟨X, Y, k', a1, a2, ⟨n', v', n1, n2, n3, n4, n5⟩, ⟨b1, b2, b3⟩, ⟨e3, e4, e5, e6⟩, b7, b8, b9, b10, b11, b12, b13, b14⟩
  · rw [x1] at a1
    injection a1 with a1
    injection a1 with a0 a1
    subst a0
    subst a1
    have yx : ∀ a k, a < 100 → Y.1 a k = M1.1 a k := fun a k h => b7 _ _ (by unfold rgW; omega) (by omega)
    have yc : ∀ a k, a ≠ 3 → a < 100 → (a < 30 - c ∨ 30 - c + 9 < a) → (a ≠ 1 ∨ k ≠ 1) → Y.1 a k = M.1 a k := fun a k g1 g2 g3 g4 => by rw [yx _ _ g2, b4 _ _ g1 g3 g4]
    have ym : ∀ a k, 100 ≤ a → ¬ rgW a k → (a ≠ 100 ∨ (k ≠ 1 ∧ k ≠ 2)) → Y.1 a k = M.1 a k := fun a k g1 g2 g3 => by rw [b7 _ _ g2 g3, xf _ _ (Or.inr g1)]
    refine ⟨-1, M1, Y, x1, a2, ⟨c, n, v, th, o, w, 0, q, l, t, r, ⟨hc2, by rw [b8]; exact b5, by rw [b8]; exact b6, ok, hX.cgc (fun a k g1 g2 => yc _ _ (by omega) (by omega) (by omega) (by omega)), hY.cgc ok (fun k hk => ym _ _ (by omega) (by unfold rgW; omega) (by omega)) (fun k hk => ym _ _ (by omega) (by unfold rgW; omega) (by omega)) (fun k hk => ym _ _ (by omega) (by unfold rgW; omega) (by omega)) (fun k hk => ym _ _ (by omega) (by unfold rgW; omega) (by omega)) (fun k hk => ym _ _ (by omega) (by unfold rgW; omega) (by omega)) (ym _ _ (by omega) (by unfold rgW; omega) (by omega)), hTh, ?_, ?_⟩, ⟨by omega, ?_, b2, fun k hk => by omega, ?_, ?_⟩, ⟨h3.1, h3.2.1.fr (fun d k hd => yc _ _ (by omega) (by omega) (by omega) (by omega)), h3.2.2.1.fr h3.1 (fun k _ _ => ym _ _ (by omega) (by unfold rgW; omega) (by omega)), h3.2.2.2⟩, fun j hj => (h4 j hj).fr (fun d k hd => yc _ _ (by omega) (by omega) (by omega) (by omega)) (ym _ _ (by omega) (by unfold rgW; omega) (by omega)) (fun k _ _ => ym _ _ (by omega) (by unfold rgW; omega) (by omega))⟩, fun k hk => ?_⟩
    · obtain ⟨g1, g2⟩ := hTX
      refine ⟨by rw [yc _ _ (by omega) (by omega) (by omega) (by omega)]; exact g1, fun t ht => ?_⟩
      rw [yc _ _ (by omega) (by omega) (by omega) (by omega), yc _ _ (by omega) (by omega) (by omega) (by omega)]
      exact g2 t ht
    · obtain ⟨g1, g2⟩ := hTY
      refine ⟨by rw [ym _ _ (by omega) (by unfold rgW; omega) (by omega)]; exact g1, fun t ht => ?_⟩
      rw [ym 110 _ (by omega) (by unfold rgW; omega) (by omega), ym 111 _ (by omega) (by unfold rgW; omega) (by omega), ym 112 _ (by omega) (by unfold rgW; omega) (by omega), ym 113 _ (by omega) (by unfold rgW; omega) (by omega)]
      exact g2 t ht
    · rw [yx _ _ (by omega)]; exact b1
    · rw [yx _ _ (by omega)]; exact b3.1
    · rw [yx _ _ (by omega)]; exact b3.2
    · rw [yc _ _ (by omega) (by omega) (by omega) (by omega), yc _ _ (by omega) (by omega) (by omega) (by omega)]
      exact hZ k hk
  · rw [x1] at a1
    injection a1 with a1
    injection a1 with a0 a1
    subst a0
    subst a1
    have hn4 : n' 4 ≤ 5 := n1.2.2.2.2.1
    obtain ⟨qz, hqz⟩ : ∃ qz : Nat → Nat, ∀ i, qz i = 0 := ⟨fun _ => 0, fun _ => rfl⟩
    have z0 := hqz 0
    have z1 := hqz 1
    have z2 := hqz 2
    have z3 := hqz 3
    refine ⟨nI k', M1, Y, x1, a2, ⟨30 - c, n', v', (tls (n' 4) (n' 3)).length, lo1 (tls (n' 4) (n' 3)), lo2 (tls (n' 4) (n' 3)), 0, qz, fun _ _ => 0, fun _ _ => 0, fun _ _ => 0, ⟨hc, by rw [b13]; exact b9, by rw [b13, b10]; omega, n1, n2.cgc (fun a k g1 g2 => b12 _ _ (by omega)), n3, tls_th hn4, ?_, n5⟩, ⟨by omega, ?_, b2, fun k hk => by omega, ?_, ?_⟩, ⟨⟨by omega, by omega, by omega, by omega, fun i hi => by omega, fun i hi => by omega, fun i hi => by omega⟩, ⟨⟨?_, ?_, ?_, ?_⟩, fun i k hi => by omega, fun i k hi => by omega, fun i hi => by omega⟩, ⟨fun k hk => ?_, fun i k hi => by omega, fun i k hi => by omega, fun i k hi => by omega⟩, fun i hi => by omega, fun i hi => by omega, fun i hi => by omega⟩, fun j hj => Or.inl ⟨?_, (b7 j hj).2⟩⟩, fun k hk => ?_⟩
    · obtain ⟨g1, g2⟩ := n4
      refine ⟨by rw [b12 _ _ (by omega)]; exact g1, fun t ht => ?_⟩
      rw [b12 _ _ (by omega), b12 _ _ (by omega)]
      exact g2 t ht
    · rw [b12 _ _ (by omega)]; exact b1
    · rw [b12 _ _ (by omega)]; exact b3.1
    · rw [b12 _ _ (by omega)]; exact b3.2
    · rw [b12 _ _ (by omega), z0]; exact e3
    · rw [b12 _ _ (by omega), z1]; exact e4
    · rw [b12 _ _ (by omega), z2]; exact e5
    · rw [b12 _ _ (by omega), z3]; exact e6
    · rw [Nat.zero_add, hqz]; exact b8 k (by omega)
    · rw [b12 _ _ (by omega)]; exact (b7 j hj).1
    · rw [b12 _ _ (by omega), b12 _ _ (by omega), b11 _ _ (by omega), b11 _ _ (by omega)]
      exact hZ k hk
end CLH
