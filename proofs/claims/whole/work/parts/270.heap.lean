/-- how often a number stands in a row -/
def muA (A : Nat → Nat) (N z : Nat) : Nat := cnt (fun i => decide (A i = z)) N
theorem muA_s (A : Nat → Nat) (N z : Nat) : muA A (N + 1) z = muA A N z + (if A N = z then 1 else 0) := by
  unfold muA
  rw [cnt_s]
  by_cases h : A N = z
  · rw [if_pos h, if_pos (decide_eq_true h)]
  · rw [if_neg h, if_neg (by rw [decide_eq_false h]; exact Bool.false_ne_true)]
theorem muA_congr {A B : Nat → Nat} {N : Nat} (h : ∀ i, i < N → A i = B i) (z : Nat) : muA A N z = muA B N z := cnt_congr N (fun i hi => by rw [h i hi])
theorem cnt_pt {p p' : Nat → Bool} {a : Nat} : ∀ N, (∀ i, i < N → i ≠ a → p' i = p i) → cnt p' N + (if a < N ∧ p a = true then 1 else 0) = cnt p N + (if a < N ∧ p' a = true then 1 else 0)
  | 0, _ => by rw [if_neg (by omega), if_neg (by omega)]; rfl
  | N + 1, h => by
    have ih := cnt_pt (p := p) (p' := p') (a := a) N (fun i hi => h i (by omega))
    rw [cnt_s, cnt_s]
    by_cases e : a = N
    · subst e
      rw [if_neg (fun q => Nat.lt_irrefl _ q.1), if_neg (fun q => Nat.lt_irrefl _ q.1)] at ih
      by_cases c1 : p a = true
      · by_cases c2 : p' a = true
        · rw [if_pos c1, if_pos c2, if_pos ⟨Nat.lt_succ_self a, c1⟩, if_pos ⟨Nat.lt_succ_self a, c2⟩]; omega
        · rw [if_pos c1, if_neg c2, if_pos ⟨Nat.lt_succ_self a, c1⟩, if_neg (fun q => c2 q.2)]; omega
      · by_cases c2 : p' a = true
        · rw [if_neg c1, if_pos c2, if_neg (fun q => c1 q.2), if_pos ⟨Nat.lt_succ_self a, c2⟩]; omega
        · rw [if_neg c1, if_neg c2, if_neg (fun q => c1 q.2), if_neg (fun q => c2 q.2)]; omega
    · rw [h N (Nat.lt_succ_self N) (fun q => e q.symm)]
      have e1 : (a < N + 1 ∧ p a = true) ↔ (a < N ∧ p a = true) := by
        constructor
        · intro q; exact ⟨by have := q.1; omega, q.2⟩
        · intro q; exact ⟨by have := q.1; omega, q.2⟩
      have e2 : (a < N + 1 ∧ p' a = true) ↔ (a < N ∧ p' a = true) := by
        constructor
        · intro q; exact ⟨by have := q.1; omega, q.2⟩
        · intro q; exact ⟨by have := q.1; omega, q.2⟩
      simp only [e1, e2]
      omega
def swp (A : Nat → Nat) (a b : Nat) : Nat → Nat := fun i => if i = a then A b else if i = b then A a else A i
theorem muA_swp (A : Nat → Nat) {a b N : Nat} (ha : a < N) (hb : b < N) (z : Nat) : muA (swp A a b) N z = muA A N z := by
  by_cases hab : a = b
  · refine muA_congr (fun i _ => ?_) z
    unfold swp
    by_cases e : i = a
    · rw [if_pos e, e, hab]
    · rw [if_neg e]
      by_cases e2 : i = b
      · rw [if_pos e2, e2, hab]
      · rw [if_neg e2]
  · have h1 := cnt_pt (p := fun i => decide (A i = z)) (p' := fun i => decide ((if i = a then A b else A i) = z)) (a := a) N (fun i _ hi => by rw [if_neg hi])
    have h2 := cnt_pt (p := fun i => decide ((if i = a then A b else A i) = z)) (p' := fun i => decide (swp A a b i = z)) (a := b) N (fun i _ hi => by unfold swp; by_cases e : i = a <;> simp [e, hi])
    have e1 : (if a = a then A b else A a) = A b := if_pos rfl
    have e2 : (if b = a then A b else A b) = A b := by by_cases e : b = a <;> simp [e]
    have e3 : swp A a b b = A a := by unfold swp; rw [if_neg (fun q => hab q.symm), if_pos rfl]
    have h1 : cnt (fun i => decide ((if i = a then A b else A i) = z)) N + (if a < N ∧ decide (A a = z) = true then 1 else 0) = cnt (fun i => decide (A i = z)) N + (if a < N ∧ decide ((if a = a then A b else A a) = z) = true then 1 else 0) := h1
    have h2 : cnt (fun i => decide (swp A a b i = z)) N + (if b < N ∧ decide ((if b = a then A b else A b) = z) = true then 1 else 0) = cnt (fun i => decide ((if i = a then A b else A i) = z)) N + (if b < N ∧ decide (swp A a b b = z) = true then 1 else 0) := h2
    rw [e1] at h1
    rw [e2, e3] at h2
    simp only [ha, hb, true_and, decide_eq_true_eq] at h1 h2
    unfold muA
    omega
/-- the class's row of hairs -/
def ARR (M : eM) (N : Nat) (A : Nat → Nat) : Prop := M.1 70 1 = nI N ∧ ∀ i, i < N → M.1 71 i = nI (A i) ∧ A i < 1000000
/-- a heap but for one place -/
def HPx (E : Nat → Nat) (sz lo at0 : Nat) : Prop := ∀ i, lo ≤ i → i ≠ at0 → ∀ c, (c = 2 * i + 1 ∨ c = 2 * i + 2) → c < sz → E c ≤ E i
def HPg (E : Nat → Nat) (sz lo at0 : Nat) : Prop := ∀ c, (c = 2 * at0 + 1 ∨ c = 2 * at0 + 2) → c < sz → ∀ p, lo ≤ p → (at0 = 2 * p + 1 ∨ at0 = 2 * p + 2) → E c ≤ E p
def HPa (E : Nat → Nat) (sz lo : Nat) : Prop := ∀ i, lo ≤ i → ∀ c, (c = 2 * i + 1 ∨ c = 2 * i + 2) → c < sz → E c ≤ E i
theorem hp_step {E : Nat → Nat} {sz lo a c : Nat} (hlo : lo ≤ a) (hc : c = 2 * a + 1 ∨ c = 2 * a + 2) (hcs : c < sz) (hmax : ∀ d, (d = 2 * a + 1 ∨ d = 2 * a + 2) → d < sz → E d ≤ E c) (hgt : E a < E c) (h1 : HPx E sz lo a) (h2 : HPg E sz lo a) : HPx (swp E a c) sz lo c ∧ HPg (swp E a c) sz lo c := by
  have sa : swp E a c a = E c := if_pos rfl
  have sc : swp E a c c = E a := by unfold swp; rw [if_neg (by omega), if_pos rfl]
  have so : ∀ i, i ≠ a → i ≠ c → swp E a c i = E i := fun i h h' => by unfold swp; rw [if_neg h, if_neg h']
  refine ⟨fun i hi hic d hd hds => ?_, fun d hd hds p hp hpc => ?_⟩
  · by_cases e : i = a
    · subst e
      rw [sa]
      by_cases e2 : d = c
      · rw [e2, sc]; omega
      · rw [so d (by omega) e2]; exact hmax d hd hds
    · rw [so i e hic]
      by_cases e2 : d = a
      · rw [e2, sa]
        exact h2 c hc hcs i hi (by omega)
      · rw [so d e2 (by omega)]
        exact h1 i hi e d hd hds
  · have e : p = a := by omega
    subst e
    rw [sa, so d (by omega) (by omega)]
    exact h1 c (by omega) (by omega) d hd hds
section SK
variable {M : eM} {N : Nat}
/-- one number sinks to its place -/
theorem px_sink {A : Nat → Nat} (hN : N ≤ 3420) (hA : ARR M N A) {top sz : Nat} (hts : top < sz) (hsz : sz ≤ N) (hH : HPa A sz (top + 1)) : ∃ M' B, fX4_sink (nI top) (nI sz) M = some M' ∧ ARR M' N B ∧ HPa B sz top ∧ (∀ i, sz ≤ i → B i = A i) ∧ (∀ z, muA B N z = muA A N z) ∧ (∀ X, (∀ j, j < sz → A j ≤ X) → ∀ j, j < sz → B j ≤ X) ∧ (∀ c k, c ≠ 71 → M'.1 c k = M.1 c k) ∧ M'.2.2 = M.2.2 := by
  have lp : ∀ (d f at0 lv : Nat) (M1 : eM) (E : Nat → Nat), 24 - lv = d → lv ≤ 24 → d < f → 2 ^ lv ≤ at0 + 1 → top ≤ at0 → at0 < sz → (∀ i, i < N → E i < 1000000) → (∀ i, i < N → i ≠ at0 → M1.1 71 i = nI (E i)) → HPx E sz top at0 → HPg E sz top at0 → (∀ i, sz ≤ i → E i = A i) → (∀ z, muA E N z = muA A N z) → (∀ X, (∀ j, j < sz → A j ≤ X) → ∀ j, j < sz → E j ≤ X) → (∀ c k, c ≠ 71 → M1.1 c k = M.1 c k) → M1.2.2 = M.2.2 → ∃ M' B, fX4_sink_13 fX4_sink_78 fX4_sink_103 f (nI sz) (nI at0) (nI (E at0)) (nI lv) M1 = some M' ∧ ARR M' N B ∧ HPa B sz top ∧ (∀ i, sz ≤ i → B i = A i) ∧ (∀ z, muA B N z = muA A N z) ∧ (∀ X, (∀ j, j < sz → A j ≤ X) → ∀ j, j < sz → B j ≤ X) ∧ (∀ c k, c ≠ 71 → M'.1 c k = M.1 c k) ∧ M'.2.2 = M.2.2 := by
    intro d
    induction d with
    | zero =>
      intro f at0 lv M1 E hd hlv hf hp hta hat hE hM hx hg ho hm hX hF hR
      have e : lv = 24 := by omega
      rw [e] at hp
      have : (2 : Nat) ^ 24 = 16777216 := by decide
      omega
    | succ d ih =>
      intro f at0 lv M1 E hd hlv hf hp hta hat hE hM hx hg ho hm hX hF hR
      obtain ⟨f, rfl⟩ : ∃ f', f = f' + 1 := ⟨f - 1, by omega⟩
      have hEa := hE at0 (by omega)
      -- the end: held comes to its place
      have fin : (∀ c, (c = 2 * at0 + 1 ∨ c = 2 * at0 + 2) → c < sz → E c ≤ E at0) → ∃ M' B, fX4_sink_103 (nI at0) (nI (E at0)) M1 = some M' ∧ ARR M' N B ∧ HPa B sz top ∧ (∀ i, sz ≤ i → B i = A i) ∧ (∀ z, muA B N z = muA A N z) ∧ (∀ X, (∀ j, j < sz → A j ≤ X) → ∀ j, j < sz → B j ≤ X) ∧ (∀ c k, c ≠ 71 → M'.1 c k = M.1 c k) ∧ M'.2.2 = M.2.2 := by
        intro hend
        refine ⟨ea_pI M1 71 at0 (nI (E at0)), E, ?_, ⟨?_, fun i hi => ⟨?_, hE i hi⟩⟩, fun i hi c hc hcs => ?_, ho, hm, hX, fun c k hc => ?_, hR⟩
        · unfold fX4_sink_103
          simp (disch := omega) only [ev_ck, ev_ci, ev_cv, ev_lt_, ↓reduceIte, ev_lens, ev_ix, ev_nz, ev_cl, ev_cll, ev_add, ev_addl, ev_ladd, ev_mul, ev_mull, ev_lmul, ev_sub, ev_subl, ev_lsub, ev_lt, ev_ltl, ev_llt, ev_le, ev_lel, ev_lle, ev_eq, ev_eql, ev_leq, ev_nm1, ev_nm5, ev_m1n, ev_neg1, ev_ltT, ev_ltF, ev_leT, ev_leF, ev_eqT, ev_eqF, ev_one0, ev_zero1, Nat.reduceAdd, Nat.reduceMul, Nat.reduceSub, ea_pI_eq, ev_pIn, ev_pIe, ea_pI_r, eq_self]
        · rw [ea_pI_ne (by omega), hF _ _ (by omega)]; exact hA.1
        · by_cases e : i = at0
          · rw [e, ea_pI_eq]
          · rw [ea_pI_ne (by omega)]; exact hM i hi e
        · by_cases e : i = at0
          · rw [e]; exact hend c (by omega) hcs
          · exact hx i hi e c hc hcs
        · rw [ea_pI_ne (by omega)]; exact hF c k hc
      rw [fX4_sink_13]
      by_cases hch : sz ≤ 2 * at0 + 1
      · obtain ⟨M', B, r1, r2⟩ := fin (fun c hc hcs => by omega)
        refine ⟨M', B, ?_, r2⟩
        simp (disch := omega) only [ev_ck, ev_ci, ev_cv, ev_lt_, ↓reduceIte, ev_lens, ev_ix, ev_nz, ev_cl, ev_cll, ev_add, ev_addl, ev_ladd, ev_mul, ev_mull, ev_lmul, ev_sub, ev_subl, ev_lsub, ev_lt, ev_ltl, ev_llt, ev_le, ev_lel, ev_lle, ev_eq, ev_eql, ev_leq, ev_nm1, ev_nm5, ev_m1n, ev_neg1, ev_ltT, ev_ltF, ev_leT, ev_leF, ev_eqT, ev_eqF, ev_one0, ev_zero1, Nat.reduceAdd, Nat.reduceMul, Nat.reduceSub, ea_pI_eq, ev_pIn, ev_pIe, ea_pI_r, eq_self]
        exact r1
      · have g1 := hM (2 * at0 + 1) (by omega) (by omega)
        have b1 := hE (2 * at0 + 1) (by omega)
        -- a child that is the greater
        have go : ∀ c, (c = 2 * at0 + 1 ∨ c = 2 * at0 + 2) → c < sz → (∀ d, (d = 2 * at0 + 1 ∨ d = 2 * at0 + 2) → d < sz → E d ≤ E c) → ∃ M' B, fX4_sink_66 (fX4_sink_13 fX4_sink_78 fX4_sink_103 f) fX4_sink_78 (nI sz) (nI at0) (nI (E at0)) (nI lv) (nI c) M1 = some M' ∧ ARR M' N B ∧ HPa B sz top ∧ (∀ i, sz ≤ i → B i = A i) ∧ (∀ z, muA B N z = muA A N z) ∧ (∀ X, (∀ j, j < sz → A j ≤ X) → ∀ j, j < sz → B j ≤ X) ∧ (∀ c k, c ≠ 71 → M'.1 c k = M.1 c k) ∧ M'.2.2 = M.2.2 := by
          intro c hc hcs hmax
          have gc := hM c (by omega) (by omega)
          have bc := hE c (by omega)
          by_cases hgt : E at0 < E c
          · obtain ⟨n1, n2⟩ := hp_step hta hc hcs hmax hgt hx hg
            have sc : swp E at0 c c = E at0 := by unfold swp; rw [if_neg (by omega), if_pos rfl]
            obtain ⟨M', B, r1, r2⟩ := ih f c (lv + 1) (ea_pI M1 71 at0 (nI (E c))) (swp E at0 c) (by omega) (by omega) (by omega) (by rw [Nat.pow_succ]; omega) (by omega) hcs (fun i hi => by
              unfold swp
              by_cases e : i = at0
              · rw [if_pos e]; exact bc
              · rw [if_neg e]
                by_cases e2 : i = c
                · rw [if_pos e2]; exact hEa
                · rw [if_neg e2]; exact hE i hi) (fun i hi hic => by
              unfold swp
              by_cases e : i = at0
              · rw [if_pos e, e, ea_pI_eq]
              · rw [if_neg e, if_neg hic, ea_pI_ne (by omega)]; exact hM i hi e) n1 n2 (fun i hi => by
              unfold swp
              rw [if_neg (by omega), if_neg (by omega)]; exact ho i hi) (fun z => by rw [muA_swp E (by omega) (by omega)]; exact hm z) (fun X hXA j hj => by
              have hb := hX X hXA
              unfold swp
              by_cases e : j = at0
              · rw [if_pos e]; exact hb c hcs
              · rw [if_neg e]
                by_cases e2 : j = c
                · rw [if_pos e2]; exact hb at0 hat
                · rw [if_neg e2]; exact hb j hj) (fun c k hc => by rw [ea_pI_ne (by omega)]; exact hF c k hc) hR
            rw [sc] at r1
            refine ⟨M', B, ?_, r2⟩
            simp (disch := omega) only [ev_ck, ev_ci, ev_cv, ev_lt_, ↓reduceIte, ev_lens, ev_ix, ev_nz, ev_cl, ev_cll, ev_add, ev_addl, ev_ladd, ev_mul, ev_mull, ev_lmul, ev_sub, ev_subl, ev_lsub, ev_lt, ev_ltl, ev_llt, ev_le, ev_lel, ev_lle, ev_eq, ev_eql, ev_leq, ev_nm1, ev_nm5, ev_m1n, ev_neg1, ev_ltT, ev_ltF, ev_leT, ev_leF, ev_eqT, ev_eqF, ev_one0, ev_zero1, Nat.reduceAdd, Nat.reduceMul, Nat.reduceSub, ea_pI_eq, ev_pIn, ev_pIe, ea_pI_r, eq_self, fX4_sink_66, gc]
            exact r1
          · obtain ⟨M', B, r1, r2⟩ := fin (fun d hd hds => by have := hmax d hd hds; omega)
            refine ⟨M', B, ?_, r2⟩
            simp (disch := omega) only [ev_ck, ev_ci, ev_cv, ev_lt_, ↓reduceIte, ev_lens, ev_ix, ev_nz, ev_cl, ev_cll, ev_add, ev_addl, ev_ladd, ev_mul, ev_mull, ev_lmul, ev_sub, ev_subl, ev_lsub, ev_lt, ev_ltl, ev_llt, ev_le, ev_lel, ev_lle, ev_eq, ev_eql, ev_leq, ev_nm1, ev_nm5, ev_m1n, ev_neg1, ev_ltT, ev_ltF, ev_leT, ev_leF, ev_eqT, ev_eqF, ev_one0, ev_zero1, Nat.reduceAdd, Nat.reduceMul, Nat.reduceSub, ea_pI_eq, ev_pIn, ev_pIe, ea_pI_r, eq_self, fX4_sink_66, gc, fX4_sink_78]
            exact r1
        by_cases hs2 : sz ≤ 2 * at0 + 1 + 1
        · obtain ⟨M', B, r1, r2⟩ := go (2 * at0 + 1) (Or.inl rfl) (by omega) (fun d hd hds => by rw [show d = 2 * at0 + 1 by omega]; exact Nat.le_refl _)
          refine ⟨M', B, ?_, r2⟩
          simp (disch := omega) only [ev_ck, ev_ci, ev_cv, ev_lt_, ↓reduceIte, ev_lens, ev_ix, ev_nz, ev_cl, ev_cll, ev_add, ev_addl, ev_ladd, ev_mul, ev_mull, ev_lmul, ev_sub, ev_subl, ev_lsub, ev_lt, ev_ltl, ev_llt, ev_le, ev_lel, ev_lle, ev_eq, ev_eql, ev_leq, ev_nm1, ev_nm5, ev_m1n, ev_neg1, ev_ltT, ev_ltF, ev_leT, ev_leF, ev_eqT, ev_eqF, ev_one0, ev_zero1, Nat.reduceAdd, Nat.reduceMul, Nat.reduceSub, ea_pI_eq, ev_pIn, ev_pIe, ea_pI_r, eq_self]
          exact r1
        · have g2 := hM (2 * at0 + 1 + 1) (by omega) (by omega)
          have b2 := hE (2 * at0 + 1 + 1) (by omega)
          by_cases hle : E (2 * at0 + 1 + 1) ≤ E (2 * at0 + 1)
          · obtain ⟨M', B, r1, r2⟩ := go (2 * at0 + 1) (Or.inl rfl) (by omega) (fun d hd hds => by
              rcases hd with e | e
              · rw [e]; exact Nat.le_refl _
              · rw [e]; exact hle)
            refine ⟨M', B, ?_, r2⟩
            simp (disch := omega) only [ev_ck, ev_ci, ev_cv, ev_lt_, ↓reduceIte, ev_lens, ev_ix, ev_nz, ev_cl, ev_cll, ev_add, ev_addl, ev_ladd, ev_mul, ev_mull, ev_lmul, ev_sub, ev_subl, ev_lsub, ev_lt, ev_ltl, ev_llt, ev_le, ev_lel, ev_lle, ev_eq, ev_eql, ev_leq, ev_nm1, ev_nm5, ev_m1n, ev_neg1, ev_ltT, ev_ltF, ev_leT, ev_leF, ev_eqT, ev_eqF, ev_one0, ev_zero1, Nat.reduceAdd, Nat.reduceMul, Nat.reduceSub, ea_pI_eq, ev_pIn, ev_pIe, ea_pI_r, eq_self, g1, g2]
            exact r1
          · obtain ⟨M', B, r1, r2⟩ := go (2 * at0 + 1 + 1) (Or.inr rfl) (by omega) (fun d hd hds => by
              rcases hd with e | e
              · rw [e]; omega
              · rw [e]; exact Nat.le_refl _)
            refine ⟨M', B, ?_, r2⟩
            simp (disch := omega) only [ev_ck, ev_ci, ev_cv, ev_lt_, ↓reduceIte, ev_lens, ev_ix, ev_nz, ev_cl, ev_cll, ev_add, ev_addl, ev_ladd, ev_mul, ev_mull, ev_lmul, ev_sub, ev_subl, ev_lsub, ev_lt, ev_ltl, ev_llt, ev_le, ev_lel, ev_lle, ev_eq, ev_eql, ev_leq, ev_nm1, ev_nm5, ev_m1n, ev_neg1, ev_ltT, ev_ltF, ev_leT, ev_leF, ev_eqT, ev_eqF, ev_one0, ev_zero1, Nat.reduceAdd, Nat.reduceMul, Nat.reduceSub, ea_pI_eq, ev_pIn, ev_pIe, ea_pI_r, eq_self, g1, g2]
            exact r1
  have gt := (hA.2 top (by omega)).1
  obtain ⟨M', B, r1, r2⟩ := lp 24 ea_N top 0 M A (by omega) (by omega) (by unfold ea_N; omega) (by omega) (Nat.le_refl _) hts (fun i hi => (hA.2 i hi).2) (fun i hi _ => (hA.2 i hi).1) (fun i hi hit c hc hcs => hH i (by omega) c hc hcs) (fun c hc hcs p hp hpt => by omega) (fun _ _ => rfl) (fun _ => rfl) (fun X h => h) (fun _ _ _ => rfl) rfl
  refine ⟨M', B, ?_, r2⟩
  unfold fX4_sink fX4_sink_0
  simp (disch := omega) only [ev_ck, ev_ci, ev_cv, ev_lt_, ↓reduceIte, ev_lens, ev_ix, ev_nz, ev_cl, ev_cll, ev_add, ev_addl, ev_ladd, ev_mul, ev_mull, ev_lmul, ev_sub, ev_subl, ev_lsub, ev_lt, ev_ltl, ev_llt, ev_le, ev_lel, ev_lle, ev_eq, ev_eql, ev_leq, ev_nm1, ev_nm5, ev_m1n, ev_neg1, ev_ltT, ev_ltF, ev_leT, ev_leF, ev_eqT, ev_eqF, ev_one0, ev_zero1, Nat.reduceAdd, Nat.reduceMul, Nat.reduceSub, ea_pI_eq, ev_pIn, ev_pIe, ea_pI_r, eq_self, gt]
  exact r1
theorem heap_top {A : Nat → Nat} {sz : Nat} (h : HPa A sz 0) : ∀ j, j < sz → A j ≤ A 0 := by
  intro j
  induction j using Nat.strongRecOn with
  | _ j ih =>
    intro hj
    rcases Nat.eq_zero_or_pos j with h0 | h0
    · rw [h0]; exact Nat.le_refl _
    · have h1 := h ((j - 1) / 2) (Nat.zero_le _) j (by omega) hj
      have h2 := ih ((j - 1) / 2) (by omega) (by omega)
      omega
theorem px_sort {A : Nat → Nat} (hN : N ≤ 3420) (hA : ARR M N A) : ∃ M' B, fX4_sort M = some M' ∧ ARR M' N B ∧ (∀ i, i + 1 < N → B i ≤ B (i + 1)) ∧ (∀ z, muA B N z = muA A N z) ∧ (∀ c k, c ≠ 71 → M'.1 c k = M.1 c k) ∧ M'.2.2 = M.2.2 := by
  have ph2 : ∀ (x f : Nat) (M1 : eM) (E : Nat → Nat), x < f → x < N → ARR M1 N E → HPa E (x + 1) 0 → (∀ i, x < i → i + 1 < N → E i ≤ E (i + 1)) → (x + 1 < N → ∀ j, j < x + 1 → E j ≤ E (x + 1)) → (∀ z, muA E N z = muA A N z) → (∀ c k, c ≠ 71 → M1.1 c k = M.1 c k) → M1.2.2 = M.2.2 → ∃ M' B, fX4_sort_35 f (nI x) M1 = some M' ∧ ARR M' N B ∧ (∀ i, i + 1 < N → B i ≤ B (i + 1)) ∧ (∀ z, muA B N z = muA A N z) ∧ (∀ c k, c ≠ 71 → M'.1 c k = M.1 c k) ∧ M'.2.2 = M.2.2 := by
    intro x
    induction x with
    | zero =>
      intro f M1 E hf hx hE hH hs hb hm hF hR
      obtain ⟨f, rfl⟩ : ∃ f', f = f' + 1 := ⟨f - 1, by omega⟩
      refine ⟨M1, E, ?_, hE, fun i hi => ?_, hm, hF, hR⟩
      · simp (disch := omega) only [ev_ck, ev_ci, ev_cv, ev_lt_, ↓reduceIte, ev_lens, ev_ix, ev_nz, ev_cl, ev_cll, ev_add, ev_addl, ev_ladd, ev_mul, ev_mull, ev_lmul, ev_sub, ev_subl, ev_lsub, ev_lt, ev_ltl, ev_llt, ev_le, ev_lel, ev_lle, ev_eq, ev_eql, ev_leq, ev_nm1, ev_nm5, ev_m1n, ev_neg1, ev_ltT, ev_ltF, ev_leT, ev_leF, ev_eqT, ev_eqF, ev_one0, ev_zero1, Nat.reduceAdd, Nat.reduceMul, Nat.reduceSub, ea_pI_eq, ev_pIn, ev_pIe, ea_pI_r, eq_self, fX4_sort_35]
      · rcases Nat.eq_zero_or_pos i with h0 | h0
        · rw [h0]; exact hb (by omega) 0 (by omega)
        · exact hs i h0 hi
    | succ x ih =>
      intro f M1 E hf hx hE hH hs hb hm hF hR
      obtain ⟨f, rfl⟩ : ∃ f', f = f' + 1 := ⟨f - 1, by omega⟩
      have g0 := hE.2 0 (by omega)
      have gx := hE.2 (x + 1) hx
      have top := heap_top hH
      -- the greatest goes behind
      have hE2 : ARR (ea_pI (ea_pI M1 71 0 (nI (E (x + 1)))) 71 (x + 1) (nI (E 0))) N (swp E 0 (x + 1)) := by
        refine ⟨by simp (disch := omega) only [ev_ck, ev_ci, ev_cv, ev_lt_, ↓reduceIte, ev_lens, ev_ix, ev_nz, ev_cl, ev_cll, ev_add, ev_addl, ev_ladd, ev_mul, ev_mull, ev_lmul, ev_sub, ev_subl, ev_lsub, ev_lt, ev_ltl, ev_llt, ev_le, ev_lel, ev_lle, ev_eq, ev_eql, ev_leq, ev_nm1, ev_nm5, ev_m1n, ev_neg1, ev_ltT, ev_ltF, ev_leT, ev_leF, ev_eqT, ev_eqF, ev_one0, ev_zero1, Nat.reduceAdd, Nat.reduceMul, Nat.reduceSub, ea_pI_eq, ev_pIn, ev_pIe, ea_pI_r, eq_self]; exact hE.1, fun i hi => ?_⟩
        unfold swp
        by_cases e : i = 0
        · rw [if_pos e, e]; exact ⟨by simp (disch := omega) only [ev_ck, ev_ci, ev_cv, ev_lt_, ↓reduceIte, ev_lens, ev_ix, ev_nz, ev_cl, ev_cll, ev_add, ev_addl, ev_ladd, ev_mul, ev_mull, ev_lmul, ev_sub, ev_subl, ev_lsub, ev_lt, ev_ltl, ev_llt, ev_le, ev_lel, ev_lle, ev_eq, ev_eql, ev_leq, ev_nm1, ev_nm5, ev_m1n, ev_neg1, ev_ltT, ev_ltF, ev_leT, ev_leF, ev_eqT, ev_eqF, ev_one0, ev_zero1, Nat.reduceAdd, Nat.reduceMul, Nat.reduceSub, ea_pI_eq, ev_pIn, ev_pIe, ea_pI_r, eq_self], gx.2⟩
        · rw [if_neg e]
          by_cases e2 : i = x + 1
          · rw [if_pos e2, e2]; exact ⟨by simp (disch := omega) only [ev_ck, ev_ci, ev_cv, ev_lt_, ↓reduceIte, ev_lens, ev_ix, ev_nz, ev_cl, ev_cll, ev_add, ev_addl, ev_ladd, ev_mul, ev_mull, ev_lmul, ev_sub, ev_subl, ev_lsub, ev_lt, ev_ltl, ev_llt, ev_le, ev_lel, ev_lle, ev_eq, ev_eql, ev_leq, ev_nm1, ev_nm5, ev_m1n, ev_neg1, ev_ltT, ev_ltF, ev_leT, ev_leF, ev_eqT, ev_eqF, ev_one0, ev_zero1, Nat.reduceAdd, Nat.reduceMul, Nat.reduceSub, ea_pI_eq, ev_pIn, ev_pIe, ea_pI_r, eq_self], g0.2⟩
          · rw [if_neg e2]; exact ⟨by simp (disch := omega) only [ev_ck, ev_ci, ev_cv, ev_lt_, ↓reduceIte, ev_lens, ev_ix, ev_nz, ev_cl, ev_cll, ev_add, ev_addl, ev_ladd, ev_mul, ev_mull, ev_lmul, ev_sub, ev_subl, ev_lsub, ev_lt, ev_ltl, ev_llt, ev_le, ev_lel, ev_lle, ev_eq, ev_eql, ev_leq, ev_nm1, ev_nm5, ev_m1n, ev_neg1, ev_ltT, ev_ltF, ev_leT, ev_leF, ev_eqT, ev_eqF, ev_one0, ev_zero1, Nat.reduceAdd, Nat.reduceMul, Nat.reduceSub, ea_pI_eq, ev_pIn, ev_pIe, ea_pI_r, eq_self]; exact (hE.2 i hi).1, (hE.2 i hi).2⟩
      have so : ∀ i, i ≠ 0 → i ≠ x + 1 → swp E 0 (x + 1) i = E i := fun i h h' => by unfold swp; rw [if_neg h, if_neg h']
      have sx : swp E 0 (x + 1) (x + 1) = E 0 := by unfold swp; rw [if_neg (by omega), if_pos rfl]
      obtain ⟨M2, B, k1, k2, k3, k4, k5, k6, k7, k8⟩ := px_sink hN hE2 (top := 0) (sz := x + 1) (by omega) (by omega) (fun i hi c hc hcs => by
        rw [so c (by omega) (by omega), so i (by omega) (by omega)]
        exact hH i (by omega) c hc (by omega))
      have bnd := k6 (E 0) (fun j hj => by
        unfold swp
        by_cases e : j = 0
        · rw [if_pos e]; exact top (x + 1) (by omega)
        · rw [if_neg e, if_neg (by omega)]; exact top j (by omega))
      obtain ⟨M3, D, r1, r2⟩ := ih f M2 B (by omega) (by omega) k2 k3 (fun i hi hi2 => by
        rw [k4 i (by omega), k4 (i + 1) (by omega)]
        by_cases e : i = x + 1
        · rw [e, sx, so (x + 1 + 1) (by omega) (by omega)]
          exact hb (by omega) 0 (by omega)
        · rw [so i (by omega) e, so (i + 1) (by omega) (by omega)]
          exact hs i (by omega) hi2) (fun _ j hj => by rw [k4 (x + 1) (by omega), sx]; exact bnd j hj) (fun z => by rw [k5 z, muA_swp E (by omega) (by omega)]; exact hm z) (fun c k hc => by rw [k7 c k hc, ea_pI_ne (by omega), ea_pI_ne (by omega)]; exact hF c k hc) (by rw [k8]; exact hR)
      refine ⟨M3, D, ?_, r2⟩
      have k1 : fX4_sink 0 (nI (x + 1)) _ = some M2 := k1
      simp (disch := omega) only [ev_ck, ev_ci, ev_cv, ev_lt_, ↓reduceIte, ev_lens, ev_ix, ev_nz, ev_cl, ev_cll, ev_add, ev_addl, ev_ladd, ev_mul, ev_mull, ev_lmul, ev_sub, ev_subl, ev_lsub, ev_lt, ev_ltl, ev_llt, ev_le, ev_lel, ev_lle, ev_eq, ev_eql, ev_leq, ev_nm1, ev_nm5, ev_m1n, ev_neg1, ev_ltT, ev_ltF, ev_leT, ev_leF, ev_eqT, ev_eqF, ev_one0, ev_zero1, Nat.reduceAdd, Nat.reduceMul, Nat.reduceSub, ea_pI_eq, ev_pIn, ev_pIe, ea_pI_r, eq_self, fX4_sort_35, g0.1, gx.1, k1]
      rw [pz_m1, show nI (x + 1) - 1 = nI (x + 1 - 1) from ev_sub (b := 1) (by omega), Nat.add_sub_cancel]
      exact r1
  have ph1 : ∀ (x f : Nat) (M1 : eM) (E : Nat → Nat), x < f → x ≤ N / 2 → ARR M1 N E → HPa E N x → (∀ z, muA E N z = muA A N z) → (∀ c k, c ≠ 71 → M1.1 c k = M.1 c k) → M1.2.2 = M.2.2 → ∃ M' E', fX4_sort_9 fX4_sort_28 f (nI x - 1) M1 = fX4_sort_28 M' ∧ ARR M' N E' ∧ HPa E' N 0 ∧ (∀ z, muA E' N z = muA A N z) ∧ (∀ c k, c ≠ 71 → M'.1 c k = M.1 c k) ∧ M'.2.2 = M.2.2 := by
    intro x
    induction x with
    | zero =>
      intro f M1 E hf hx hE hH hm hF hR
      obtain ⟨f, rfl⟩ : ∃ f', f = f' + 1 := ⟨f - 1, by omega⟩
      refine ⟨M1, E, ?_, hE, hH, hm, hF, hR⟩
      rw [fX4_sort_9, if_pos (by decide)]
    | succ x ih =>
      intro f M1 E hf hx hE hH hm hF hR
      obtain ⟨f, rfl⟩ : ∃ f', f = f' + 1 := ⟨f - 1, by omega⟩
      obtain ⟨M2, B, k1, k2, k3, k4, k5, k6, k7, k8⟩ := px_sink hN hE (top := x) (sz := N) (by omega) (Nat.le_refl _) hH
      obtain ⟨M3, D, r1, r2⟩ := ih f M2 B (by omega) (by omega) k2 k3 (fun z => by rw [k5 z]; exact hm z) (fun c k hc => by rw [k7 c k hc]; exact hF c k hc) (by rw [k8]; exact hR)
      refine ⟨M3, D, ?_, r2⟩
      have e70 := hE.1
      rw [show nI (x + 1) - 1 = nI (x + 1 - 1) from ev_sub (b := 1) (by omega), Nat.add_sub_cancel, fX4_sort_9, if_neg (pn_0le (by omega)), e70, k1, ev_cv, pz_m1]
      exact r1
  obtain ⟨M1, E, r1, r2, r3, r4, r5, r6⟩ := ph1 (N / 2) ea_N M A (by unfold ea_N; omega) (Nat.le_refl _) hA (fun i hi c hc hcs => by omega) (fun _ => rfl) (fun _ _ _ => rfl) rfl
  have start : fX4_sort M = fX4_sort_28 M1 := by
    unfold fX4_sort fX4_sort_0
    rw [hA.1, ev_lt_, show nI N / (2 : Int32) = nI (N / 2) from ev_div (b := 2) (by omega) (by omega) (by omega)]
    exact r1
  rw [start]
  unfold fX4_sort_28
  rw [r2.1]
  rcases Nat.eq_zero_or_pos N with h0 | h0
  · refine ⟨M1, E, ?_, r2, fun i hi => by omega, r4, r5, r6⟩
    rw [h0]
    show fX4_sort_35 (99999 + 1) (nI 0 - 1) M1 = _
    rw [fX4_sort_35, if_pos (by decide)]
  · rw [show nI N - 1 = nI (N - 1) from ev_sub (b := 1) (by omega)]
    exact ph2 (N - 1) ea_N M1 E (by unfold ea_N; omega) (by omega) r2 (by rw [show N - 1 + 1 = N by omega]; exact r3) (fun i hi hi2 => by omega) (fun h => by omega) r4 r5 r6
end SK
