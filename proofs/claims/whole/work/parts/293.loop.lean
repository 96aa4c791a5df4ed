section LP
variable {B : Nat → Nat} {len cc : Nat}
/-- the model's clause and what follows it -/
def mst (g : Nat) (x1 : Int32) (M : eM) : Option (Int32 × eM) := ea_ci (fX11_readClause M) (fun r3 M4 => if r3 = 0 then (some ((-1 : Int32), M4)) else (if (M4.1 100 3) = (3 : Int32) then (ea_cv (fX11_scan M4) (fun M8 => fX11_cloth_38 fX11_cloth_63 fX11_cloth_81 g (x1 + (1 : Int32)) M8)) else (fX11_cloth_63 M4)))
theorem mst_0 {g : Nat} {x1 : Int32} {M M' : eM} (h : ea_ci (fX11_readClause M) (nx0 mcl) = some (0, M')) : mst g x1 M = some (-1, M') := by
  unfold mst
  cases e : fX11_readClause M with
  | none => rw [e] at h; cases h
  | some a =>
    obtain ⟨r, M4⟩ := a
    rw [e, ev_ci] at h
    rw [ev_ci]
    unfold nx0 at h
    by_cases hr : r = 0
    · rw [if_pos hr] at h
      injection h with h
      injection h with h1 h2
      rw [if_pos hr, h2]
    · rw [if_neg hr] at h
      rw [if_neg hr]
      unfold mcl at h
      by_cases h3 : M4.1 100 3 = 3
      · rw [if_pos h3] at h
        cases es : fX11_scan M4 with
        | none => rw [es] at h; cases h
        | some M8 =>
          rw [es, ev_cv] at h
          injection h with h
          injection h with h1 h2
          exact absurd h1 (by decide)
      · rw [if_neg h3] at h
        rw [if_neg h3]
        unfold fX11_cloth_63
        rw [h, ev_ci]
theorem mst_1 {g : Nat} {x1 : Int32} {M M' : eM} (h : ea_ci (fX11_readClause M) (nx0 mcl) = some (1, M')) : mst g x1 M = fX11_cloth_38 fX11_cloth_63 fX11_cloth_81 g (x1 + 1) M' := by
  unfold mst
  cases e : fX11_readClause M with
  | none => rw [e] at h; cases h
  | some a =>
    obtain ⟨r, M4⟩ := a
    rw [e, ev_ci] at h
    rw [ev_ci]
    unfold nx0 at h
    by_cases hr : r = 0
    · rw [if_pos hr] at h
      injection h with h
      injection h with h1 h2
      exact absurd h1 (by decide)
    · rw [if_neg hr] at h
      rw [if_neg hr]
      unfold mcl at h
      by_cases h3 : M4.1 100 3 = 3
      · rw [if_pos h3] at h
        rw [if_pos h3]
        cases es : fX11_scan M4 with
        | none => rw [es] at h; cases h
        | some M8 =>
          rw [es, ev_cv] at h
          injection h with h
          injection h with h1 h2
          rw [ev_cv, h2]
      · rw [if_neg h3] at h
        obtain ⟨C, c1⟩ : ∃ C, fX11_fails 1 M4 = some (0, C) := ⟨_, rfl⟩
        rw [c1] at h
        injection h with h
        injection h with h1 h2
        exact absurd h1 (by decide)
theorem DR.cnt (hc : pn_c cc) {MX MY : eM} (h : DR MX MY cc B) (x : Int32) : DR (ea_pI MX cc 4 x) MY cc B := by
  have hcc : cc = 10 ∨ cc = 20 := hc
  have xx : ∀ c k, (c ≠ cc ∨ k ≠ 4) → (ea_pI MX cc 4 x).1 c k = MX.1 c k := fun c k h => ea_pI_ne h
  exact ⟨h.d0.cg (fun k _ => xx _ _ (by omega)) (fun k _ _ => rfl), h.d1.cg (fun k => xx _ _ (by omega)) (fun k _ => rfl), h.d2.cg (xx _ _ (by omega)) (fun k => xx _ _ (by omega)) rfl (fun k _ => rfl),
    h.d3.cg (xx _ _ (by omega)) (fun k => xx _ _ (by omega)) rfl (fun k => rfl) (fun k => rfl) (fun k => rfl),
    h.d4.cg (xx _ _ (by omega)) (fun k => xx _ _ (by omega)) (fun k => xx _ _ (by omega)) rfl (fun k => rfl) (fun k => rfl) (fun k => rfl) (fun k => rfl),
    h.d5.cg (xx _ _ (by omega)) (fun k => xx _ _ (by omega)) rfl (fun k => rfl) (fun k => rfl) (fun k => rfl),
    h.d6.cg (xx _ _ (by omega)) rfl⟩
/-- how the text ends, on both sides -/
def EN (cc : Nat) (B : Nat → Nat) (f g : Nat) (x1 : Int32) (MX MY : eM) : Prop :=
  (∃ MX' MY', fX10_cloth_13 fX10_cloth_64 f 1 MX = some (-1, ea_pI MX' 1 1 0) ∧ fX11_cloth_38 fX11_cloth_63 fX11_cloth_81 g x1 MY = some (-1, MY') ∧ FT MX' MY' ∧ FWx cc MX MX' ∧ FWy MY MY') ∨
  (∃ (MX' MY' : eM) (k' : Nat), fX10_cloth_13 fX10_cloth_64 f 1 MX = fX10_cloth_64 1 MX' ∧ fX11_cloth_38 fX11_cloth_63 fX11_cloth_81 g x1 MY = fX11_cloth_81 (nI k') MY' ∧ k' ≤ 900 ∧ MX'.1 cc 4 = nI k' ∧ DR MX' MY' cc B ∧ FDx cc MX MX' ∧ FDy MY MY')
theorem jLoop (hc : pn_c cc) : ∀ (d p k f g : Nat) (MX MY : eM), len - p = d → Sy MX MY B len p → DR MX MY cc B → MX.2.2 3 3 = cc → MX.2.2 0 3 = cc → MX.1 cc 4 = nI k → k ≤ p → d + 1 < f → d < g → EN cc B f g (nI k) MX MY := by
  have hcc : cc = 10 ∨ cc = 20 := hc
  intro d
  induction d using Nat.strongRecOn with
  | _ d ih =>
    intro p k f g MX MY hd hS hD r3 r0 h4 hk hf hg
    obtain ⟨f, rfl⟩ : ∃ f', f = f' + 1 := ⟨f - 1, by omega⟩
    obtain ⟨g, rfl⟩ : ∃ g', g = g' + 1 := ⟨g - 1, by omega⟩
    obtain ⟨b1, b2, b3, b4, b5, -⟩ := tE_b (B := B) hS.1
    have hm := ms_eq _ b4
    have hl : len ≤ 900 := hS.2.1.1.1
    have hp : p ≤ len := hS.1
    have t3 : MY.1 100 3 = nI (ms (tK B len p)) := hS.2.2.2.2.2.2.1
    obtain ⟨MX1, a1, c1, g1⟩ := hS.adv
    have k6 : MX1.1 3 6 = nI (tK B len p) := c1.2.2.1.2.2
    unfold EN
    rw [fX10_cloth_13, if_neg (show ¬ (1 : Int32) = 0 by decide), r0, pn_is hc, ev_ck, h4, fX11_cloth_38, t3]
    by_cases hK : tK B len p = 0
    · rw [if_pos (show nI (ms (tK B len p)) = (4 : Int32) by rw [hm.2.2.2.1.mpr hK]; rfl)]
      by_cases h9 : (900 : Int32) ≤ nI k
      · rw [if_pos h9]
        exact Or.inr ⟨MX, MY, k, rfl, rfl, by omega, h4, hD, FDx.rf cc MX, FDy.rf MY⟩
      · rw [if_neg h9]
        have em : fX2_hasMore MX = some (0, MX1) := by
          unfold fX2_hasMore fX2_hasMore_0
          rw [a1, ev_cv, k6, if_pos (by rw [hK]; rfl)]
        rw [em, ev_ci, if_pos rfl]
        exact Or.inr ⟨MX1, MY, k, rfl, rfl, by omega, by rw [g1.1 _ _ (by omega)]; exact h4, hD.cg hc g1 (GRy.rf MY), g1.d, FDy.rf MY⟩
    · have b6 := b5 hK
      rw [if_neg (show ¬ nI (ms (tK B len p)) = (4 : Int32) by rw [show (4 : Int32) = nI 4 from rfl, pn_eqI (by omega) (by omega)]; exact fun e => hK (hm.2.2.2.1.mp e)), if_neg (show ¬ (900 : Int32) ≤ nI k by rw [show (900 : Int32) = nI 900 from rfl, pn_leI (by omega) (by omega)]; omega)]
      have em : fX2_hasMore MX = some (1, MX1) := by
        unfold fX2_hasMore fX2_hasMore_0
        rw [a1, ev_cv, k6, if_neg (by rw [show (0 : Int32) = nI 0 from rfl, pn_eqI (by omega) (by omega)]; exact hK)]
      rw [em, ev_ci, if_neg (show ¬ (1 : Int32) = 0 by decide)]
      have h41 : MX1.1 cc 4 = nI k := by rw [g1.1 _ _ (by omega)]; exact h4
      have r31 : MX1.2.2 3 3 = cc := by rw [g1.2.2]; exact r3
      have r01 : MX1.2.2 0 3 = cc := by rw [g1.2.2]; exact r0
      have jc := jClause hc c1 (hD.cg hc g1 (GRy.rf MY)) r31
      show (∃ MX' MY', _ = some (-1, ea_pI MX' 1 1 0) ∧ mst g (nI k) MY = some (-1, MY') ∧ FT MX' MY' ∧ FWx cc MX MX' ∧ FWy MY MY') ∨ (∃ (MX' MY' : eM) (k' : Nat), _ = fX10_cloth_64 1 MX' ∧ mst g (nI k) MY = fX11_cloth_81 (nI k') MY' ∧ k' ≤ 900 ∧ MX'.1 cc 4 = nI k' ∧ DR MX' MY' cc B ∧ FDx cc MX MX' ∧ FDy MY MY')
      rcases jc with ⟨A, C, e1, e2, e3, e4, e5⟩ | ⟨A, C, e1, e2, ⟨⟨p', hp', s'⟩, D', x4⟩, e4, e5⟩
      · have rA : A.2.2 0 3 = cc := by rw [e4.2]; exact r01
        obtain ⟨f, rfl⟩ : ∃ f', f = f' + 1 := ⟨f - 1, by omega⟩
        rw [e1, ev_ci, rA, pn_is hc, ev_ck, fX10_cloth_13, if_pos rfl, mst_0 e2]
        refine Or.inl ⟨ea_pI A cc 4 (A.1 cc 4 + 1), C, ?_, rfl, ⟨?_, ?_⟩, ?_, e5⟩
        · unfold fX10_cloth_64
          exact if_pos rfl
        · rw [ea_pI_ne (by omega)]; exact e3.1
        · rw [ea_pI_ne (by omega)]; exact e3.2
        · exact ⟨fun c k h1 h2 => by rw [ea_pI_ne (by omega), e4.1 c k h1 h2, g1.1 c k (by omega)], by
            show A.2.2 = MX.2.2
            rw [e4.2, g1.2.2]⟩
      · have rA : A.2.2 0 3 = cc := by rw [e4.2]; exact r01
        have r3A : A.2.2 3 3 = cc := by rw [e4.2]; exact r31
        rw [e1, ev_ci, rA, pn_is hc, ev_ck, mst_1 e2, x4, h41, show nI k + 1 = nI (k + 1) from nI_add k 1]
        have fx : FDx cc A (ea_pI A cc 4 (nI (k + 1))) := (FDx.rf cc A).pI (by omega)
        have hp2 : p' ≤ len := s'.1
        have nxt := ih (len - p') (by omega) p' (k + 1) f g (ea_pI A cc 4 (nI (k + 1))) C rfl (s'.put hc fx (ea_pI_ne (by omega)) (FDy.rf C) (fun _ => rfl) rfl) (D'.cnt hc _) r3A rA ea_pI_eq (by omega) (by omega) (by omega)
        have fxx : FDx cc MX (ea_pI A cc 4 (nI (k + 1))) := (g1.d.trans e4).trans fx
        rcases nxt with ⟨X', Y', n1, n2, n3, n4, n5⟩ | ⟨X', Y', k', n1, n2, n3, n4, n5, n6, n7⟩
        · exact Or.inl ⟨X', Y', n1, n2, n3, fxx.w.trans n4, e5.w.trans n5⟩
        · exact Or.inr ⟨X', Y', k', n1, n2, n3, n4, n5, fxx.trans n6, e5.trans n7⟩
end LP
