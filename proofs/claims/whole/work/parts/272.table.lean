theorem MXT_s {A : Nat → Nat} {i L : Nat} (hL : MXT (muA A i) L) : MXT (muA A (i + 1)) (mx2 L (muA A (i + 1) (A i))) := by
  refine ⟨fun z => ?_, ?_⟩
  · by_cases e : A i = z
    · rw [← e]; exact mx2_r
    · rw [muA_s, if_neg e]
      exact Nat.le_trans (hL.1 z) mx2_l
  · right
    have hs := muA_s A i (A i)
    rw [if_pos rfl] at hs
    unfold mx2
    by_cases hle : muA A (i + 1) (A i) ≤ L
    · rw [if_pos hle]
      rcases hL.2 with hl | ⟨z, hz⟩
      · exact ⟨A i, by omega⟩
      · refine ⟨z, ?_⟩
        by_cases e : A i = z
        · rw [← e] at hz
          omega
        · rw [muA_s, if_neg e]; exact hz
    · rw [if_neg hle]
      exact ⟨A i, rfl⟩
def hm0 (z : Nat) : Nat := z * 31 % 8192
def slt (z e : Nat) : Nat := (hm0 z + e) % 8192
/-- the model's table -/
def TBL (M : eM) (A : Nat → Nat) (i : Nat) (C Y : Nat → Nat) : Prop :=
  (∀ k, k < 8192 → M.1 126 k = nI (Y k) ∧ Y k ≤ i) ∧
  (∀ k, k < 8192 → 0 < Y k → M.1 125 k = nI (C k) ∧ C k < 1000000 ∧ Y k = muA A i (C k) ∧ ∃ d, d < 8192 ∧ k = slt (C k) d ∧ ∀ e, e < d → 0 < Y (slt (C k) e) ∧ C (slt (C k) e) ≠ C k) ∧
  (∀ z, 0 < muA A i z → ∃ k, k < 8192 ∧ 0 < Y k ∧ C k = z) ∧
  cnt (fun k => decide (0 < Y k)) 8192 ≤ i
theorem slt_lt {z e : Nat} : slt z e < 8192 := Nat.mod_lt _ (by decide)
theorem slt_s {z e : Nat} : (slt z e + 1) % 8192 = slt z (e + 1) := by unfold slt; omega
section HT
variable {M : eM} {A : Nat → Nat} {C Y : Nat → Nat} {i : Nat}
theorem tb_empty (h : TBL M A i C Y) (hi : i < 8192) (z : Nat) : ∃ e, e < 8192 ∧ Y (slt z e) = 0 := by
  have hz : hm0 z < 8192 := Nat.mod_lt _ (by decide)
  by_cases hx : ∀ k, k < 8192 → decide (0 < Y k) = true
  · have := cnt_all (p := fun k => decide (0 < Y k)) 8192 hx
    have := h.2.2.2
    omega
  · have : ∃ k, k < 8192 ∧ Y k = 0 := Classical.byContradiction (fun q => hx (fun k hk => decide_eq_true (Nat.pos_of_ne_zero (fun e => q ⟨k, hk, e⟩))))
    obtain ⟨k, hk, e0⟩ := this
    refine ⟨(k + 8192 - hm0 z) % 8192, Nat.mod_lt _ (by decide), ?_⟩
    have : slt z ((k + 8192 - hm0 z) % 8192) = k := by unfold slt; omega
    rw [this]; exact e0
theorem py_probe (h : TBL M A i C Y) (hi : i < 8192) {w : Nat} (hw : w < 1000000) {x1 x2 x3 x4 x5 : Int32} (k157 : Int32 → Int32 → Int32 → Int32 → Int32 → Int32 → Int32 → eM → Option (Int32 × eM)) {e0 : Nat} (he0 : e0 < 8192) (hY0 : Y (slt w e0) = 0) : ∀ (d f e : Nat), e0 - e = d → e ≤ e0 → d < f → (∀ e', e' < e → 0 < Y (slt w e') ∧ C (slt w e') ≠ w) → ∃ e1, e1 ≤ e0 ∧ (Y (slt w e1) = 0 ∨ (0 < Y (slt w e1) ∧ C (slt w e1) = w)) ∧ (∀ e', e' < e1 → 0 < Y (slt w e') ∧ C (slt w e') ≠ w) ∧ fX11_mostAlike_122 k157 f x1 x2 x3 x4 x5 (nI w) (nI (slt w e)) M = k157 x1 x2 x3 x4 x5 (nI w) (nI (slt w e1)) M := by
  intro d
  induction d with
  | zero =>
    intro f e hd he hf hp
    obtain ⟨f, rfl⟩ : ∃ f', f = f' + 1 := ⟨f - 1, by omega⟩
    have ee : e = e0 := by omega
    rw [ee] at hp ⊢
    have g := (h.1 (slt w e0) slt_lt).1
    have sl : slt w e0 < 8192 := slt_lt
    refine ⟨e0, Nat.le_refl _, Or.inl hY0, hp, ?_⟩
    simp (disch := omega) only [ev_ck, ev_ci, ev_cv, ev_lt_, ↓reduceIte, ev_lens, ev_ix, ev_nz, ev_cl, ev_cll, ev_add, ev_addl, ev_ladd, ev_mul, ev_mull, ev_lmul, ev_sub, ev_subl, ev_lsub, ev_lt, ev_ltl, ev_llt, ev_le, ev_lel, ev_lle, ev_eq, ev_eql, ev_leq, ev_nm1, ev_nm5, ev_m1n, ev_neg1, ev_ltT, ev_ltF, ev_leT, ev_leF, ev_eqT, ev_eqF, ev_one0, ev_zero1, Nat.reduceAdd, Nat.reduceMul, Nat.reduceSub, ea_pI_eq, ev_pIn, ev_pIe, ea_pI_r, eq_self, fX11_mostAlike_122, g]
  | succ d ih =>
    intro f e hd he hf hp
    obtain ⟨f, rfl⟩ : ∃ f', f = f' + 1 := ⟨f - 1, by omega⟩
    have g := h.1 (slt w e) slt_lt
    have sl : slt w e < 8192 := slt_lt
    by_cases hz : Y (slt w e) = 0
    · refine ⟨e, he, Or.inl hz, hp, ?_⟩
      simp (disch := omega) only [ev_ck, ev_ci, ev_cv, ev_lt_, ↓reduceIte, ev_lens, ev_ix, ev_nz, ev_cl, ev_cll, ev_add, ev_addl, ev_ladd, ev_mul, ev_mull, ev_lmul, ev_sub, ev_subl, ev_lsub, ev_lt, ev_ltl, ev_llt, ev_le, ev_lel, ev_lle, ev_eq, ev_eql, ev_leq, ev_nm1, ev_nm5, ev_m1n, ev_neg1, ev_ltT, ev_ltF, ev_leT, ev_leF, ev_eqT, ev_eqF, ev_one0, ev_zero1, Nat.reduceAdd, Nat.reduceMul, Nat.reduceSub, ea_pI_eq, ev_pIn, ev_pIe, ea_pI_r, eq_self, fX11_mostAlike_122, g.1]
    · obtain ⟨c1, c2, -⟩ := h.2.1 (slt w e) slt_lt (by omega)
      have yb := g.2
      by_cases hc : C (slt w e) = w
      · refine ⟨e, he, Or.inr ⟨by omega, hc⟩, hp, ?_⟩
        simp (disch := omega) only [ev_ck, ev_ci, ev_cv, ev_lt_, ↓reduceIte, ev_lens, ev_ix, ev_nz, ev_cl, ev_cll, ev_add, ev_addl, ev_ladd, ev_mul, ev_mull, ev_lmul, ev_sub, ev_subl, ev_lsub, ev_lt, ev_ltl, ev_llt, ev_le, ev_lel, ev_lle, ev_eq, ev_eql, ev_leq, ev_nm1, ev_nm5, ev_m1n, ev_neg1, ev_ltT, ev_ltF, ev_leT, ev_leF, ev_eqT, ev_eqF, ev_one0, ev_zero1, Nat.reduceAdd, Nat.reduceMul, Nat.reduceSub, ea_pI_eq, ev_pIn, ev_pIe, ea_pI_r, eq_self, fX11_mostAlike_122, g.1, c1]
      · obtain ⟨e1, r1, r2, r3, r4⟩ := ih f (e + 1) (by omega) (by omega) (by omega) (fun e' he' => by
          by_cases q : e' = e
          · rw [q]; exact ⟨by omega, hc⟩
          · exact hp e' (by omega))
        refine ⟨e1, r1, r2, r3, ?_⟩
        have rem : nI (slt w e + 1) - nI (slt w e + 1) / (8192 : Int32) * (8192 : Int32) = nI (slt w (e + 1)) := by
          rw [← slt_s]
          exact ev_rem (b := 8192) (by omega) (by decide) (by decide)
        simp (disch := omega) only [ev_ck, ev_ci, ev_cv, ev_lt_, ↓reduceIte, ev_lens, ev_ix, ev_nz, ev_cl, ev_cll, ev_add, ev_addl, ev_ladd, ev_mul, ev_lmul, ev_subl, ev_lsub, ev_lt, ev_ltl, ev_llt, ev_le, ev_lel, ev_lle, ev_eq, ev_eql, ev_leq, ev_nm1, ev_nm5, ev_m1n, ev_neg1, ev_ltT, ev_ltF, ev_leT, ev_leF, ev_eqT, ev_eqF, ev_one0, ev_zero1, Nat.reduceAdd, Nat.reduceMul, Nat.reduceSub, ea_pI_eq, ev_pIn, ev_pIe, ea_pI_r, eq_self, fX11_mostAlike_122, g.1, c1]
        rw [rem]
        exact r4
theorem tb_ins (h : TBL M A i C Y) (hi : i < 8192) {e1 : Nat} (hA : A i < 1000000) (he : e1 < 8192) (hs : Y (slt (A i) e1) = 0 ∨ (0 < Y (slt (A i) e1) ∧ C (slt (A i) e1) = A i)) (hp : ∀ e', e' < e1 → 0 < Y (slt (A i) e') ∧ C (slt (A i) e') ≠ A i) : Y (slt (A i) e1) = muA A i (A i) ∧ TBL (ea_pI (ea_pI M 125 (slt (A i) e1) (nI (A i))) 126 (slt (A i) e1) (nI (muA A (i + 1) (A i)))) A (i + 1) (fun k => if k = slt (A i) e1 then A i else C k) (fun k => if k = slt (A i) e1 then muA A (i + 1) (A i) else Y k) := by
  have ms := muA_s A i (A i)
  rw [if_pos rfl] at ms
  have mo : ∀ z, z ≠ A i → muA A (i + 1) z = muA A i z := fun z hz => by rw [muA_s, if_neg (fun e => hz e.symm)]; rfl
  have mb : muA A i (A i) ≤ i := cnt_le _ _
  -- no other place bears the code
  have uq : ∀ k, k < 8192 → 0 < Y k → C k = A i → k = slt (A i) e1 := by
    intro k hk hy hc
    obtain ⟨-, -, -, d, d1, d2, d3⟩ := h.2.1 k hk hy
    rw [hc] at d2 d3
    rcases Nat.lt_or_ge d e1 with q | q
    · have := (hp d q).2
      rw [← d2, hc] at this
      exact absurd rfl this
    · rcases Nat.lt_or_ge e1 d with q2 | q2
      · have := d3 e1 q2
        rcases hs with z | z
        · omega
        · exact absurd z.2 this.2
      · have e : d = e1 := by omega
        rw [e] at d2
        exact d2
  have ys : Y (slt (A i) e1) = muA A i (A i) := by
    rcases hs with z | z
    · rw [z]
      rcases Nat.eq_zero_or_pos (muA A i (A i)) with q | q
      · exact q.symm
      · obtain ⟨k, k1, k2, k3⟩ := h.2.2.1 _ q
        have := uq k k1 k2 k3
        rw [this] at k2
        omega
    · have := (h.2.1 _ slt_lt z.1).2.2.1
      rw [z.2] at this
      exact this
  refine ⟨ys, ?_⟩
  generalize hsl : slt (A i) e1 = s at *
  have hs8 : s < 8192 := by rw [← hsl]; exact slt_lt
  refine ⟨fun k hk => ?_, fun k hk hy => ?_, fun z hz => ?_, ?_⟩
  · show (ea_pI (ea_pI M 125 s (nI (A i))) 126 s (nI (muA A (i + 1) (A i)))).1 126 k = nI (if k = s then muA A (i + 1) (A i) else Y k) ∧ (if k = s then muA A (i + 1) (A i) else Y k) ≤ i + 1
    by_cases e : k = s
    · rw [if_pos e, e]
      exact ⟨by simp (disch := omega) only [ev_ck, ev_ci, ev_cv, ev_lt_, ↓reduceIte, ev_lens, ev_ix, ev_nz, ev_cl, ev_cll, ev_add, ev_addl, ev_ladd, ev_mul, ev_mull, ev_lmul, ev_sub, ev_subl, ev_lsub, ev_lt, ev_ltl, ev_llt, ev_le, ev_lel, ev_lle, ev_eq, ev_eql, ev_leq, ev_nm1, ev_nm5, ev_m1n, ev_neg1, ev_ltT, ev_ltF, ev_leT, ev_leF, ev_eqT, ev_eqF, ev_one0, ev_zero1, Nat.reduceAdd, Nat.reduceMul, Nat.reduceSub, ea_pI_eq, ev_pIn, ev_pIe, ea_pI_r, eq_self], by omega⟩
    · rw [if_neg e]
      have := h.1 k hk
      exact ⟨by simp (disch := omega) only [ev_ck, ev_ci, ev_cv, ev_lt_, ↓reduceIte, ev_lens, ev_ix, ev_nz, ev_cl, ev_cll, ev_add, ev_addl, ev_ladd, ev_mul, ev_mull, ev_lmul, ev_sub, ev_subl, ev_lsub, ev_lt, ev_ltl, ev_llt, ev_le, ev_lel, ev_lle, ev_eq, ev_eql, ev_leq, ev_nm1, ev_nm5, ev_m1n, ev_neg1, ev_ltT, ev_ltF, ev_leT, ev_leF, ev_eqT, ev_eqF, ev_one0, ev_zero1, Nat.reduceAdd, Nat.reduceMul, Nat.reduceSub, ea_pI_eq, ev_pIn, ev_pIe, ea_pI_r, eq_self]; exact this.1, by omega⟩
  · have hy : 0 < (if k = s then muA A (i + 1) (A i) else Y k) := hy
    show (ea_pI (ea_pI M 125 s (nI (A i))) 126 s (nI (muA A (i + 1) (A i)))).1 125 k = nI (if k = s then A i else C k) ∧ (if k = s then A i else C k) < 1000000 ∧ (if k = s then muA A (i + 1) (A i) else Y k) = muA A (i + 1) (if k = s then A i else C k) ∧ ∃ d, d < 8192 ∧ k = slt (if k = s then A i else C k) d ∧ ∀ e, e < d → 0 < (if slt (if k = s then A i else C k) e = s then muA A (i + 1) (A i) else Y (slt (if k = s then A i else C k) e)) ∧ (if slt (if k = s then A i else C k) e = s then A i else C (slt (if k = s then A i else C k) e)) ≠ (if k = s then A i else C k)
    by_cases e : k = s
    · simp only [if_pos e]
      refine ⟨by rw [e]; simp (disch := omega) only [ev_ck, ev_ci, ev_cv, ev_lt_, ↓reduceIte, ev_lens, ev_ix, ev_nz, ev_cl, ev_cll, ev_add, ev_addl, ev_ladd, ev_mul, ev_mull, ev_lmul, ev_sub, ev_subl, ev_lsub, ev_lt, ev_ltl, ev_llt, ev_le, ev_lel, ev_lle, ev_eq, ev_eql, ev_leq, ev_nm1, ev_nm5, ev_m1n, ev_neg1, ev_ltT, ev_ltF, ev_leT, ev_leF, ev_eqT, ev_eqF, ev_one0, ev_zero1, Nat.reduceAdd, Nat.reduceMul, Nat.reduceSub, ea_pI_eq, ev_pIn, ev_pIe, ea_pI_r, eq_self], hA, trivial, e1, he, by rw [e]; exact hsl.symm, fun e' he' => ?_⟩
      obtain ⟨p1, p2⟩ := hp e' he'
      have hne : slt (A i) e' ≠ s := by
        intro q
        rw [q] at p1 p2
        rcases hs with z | z
        · omega
        · exact p2 z.2
      rw [if_neg hne, if_neg hne]
      exact ⟨p1, p2⟩
    · simp only [if_neg e] at hy ⊢
      obtain ⟨c1, c2, c3, d, d1, d2, d3⟩ := h.2.1 k hk hy
      have hck : C k ≠ A i := fun q => e (uq k hk hy q)
      refine ⟨by simp (disch := omega) only [ev_ck, ev_ci, ev_cv, ev_lt_, ↓reduceIte, ev_lens, ev_ix, ev_nz, ev_cl, ev_cll, ev_add, ev_addl, ev_ladd, ev_mul, ev_mull, ev_lmul, ev_sub, ev_subl, ev_lsub, ev_lt, ev_ltl, ev_llt, ev_le, ev_lel, ev_lle, ev_eq, ev_eql, ev_leq, ev_nm1, ev_nm5, ev_m1n, ev_neg1, ev_ltT, ev_ltF, ev_leT, ev_leF, ev_eqT, ev_eqF, ev_one0, ev_zero1, Nat.reduceAdd, Nat.reduceMul, Nat.reduceSub, ea_pI_eq, ev_pIn, ev_pIe, ea_pI_r, eq_self]; exact c1, c2, by rw [mo _ hck]; exact c3, d, d1, d2, fun e' he' => ?_⟩
      obtain ⟨p1, p2⟩ := d3 e' he'
      by_cases q : slt (C k) e' = s
      · rw [if_pos q, if_pos q]
        exact ⟨by omega, fun q2 => hck q2.symm⟩
      · rw [if_neg q, if_neg q]
        exact ⟨p1, p2⟩
  · by_cases e : z = A i
    · refine ⟨s, hs8, ?_, ?_⟩
      · show 0 < (if s = s then muA A (i + 1) (A i) else Y s)
        rw [if_pos rfl]; omega
      · show (if s = s then A i else C s) = z
        rw [if_pos rfl]; exact e.symm
    · rw [mo z e] at hz
      obtain ⟨k, k1, k2, k3⟩ := h.2.2.1 z hz
      have hks : k ≠ s := by
        intro q
        rw [q] at k2 k3
        rcases hs with z0 | z0
        · omega
        · exact e (k3.symm.trans z0.2)
      refine ⟨k, k1, ?_, ?_⟩
      · show 0 < (if k = s then muA A (i + 1) (A i) else Y k)
        rw [if_neg hks]; exact k2
      · show (if k = s then A i else C k) = z
        rw [if_neg hks]; exact k3
  · have cp := cnt_pt (p := fun k => decide (0 < Y k)) (p' := fun k => decide (0 < (if k = s then muA A (i + 1) (A i) else Y k))) (a := s) 8192 (fun k _ hk => by rw [if_neg hk])
    have h4 := h.2.2.2
    have b1 : (if s < 8192 ∧ decide (0 < (if s = s then muA A (i + 1) (A i) else Y s)) = true then 1 else 0 : Nat) ≤ 1 := by
      by_cases q : s < 8192 ∧ decide (0 < (if s = s then muA A (i + 1) (A i) else Y s)) = true
      · rw [if_pos q]; exact Nat.le_refl _
      · rw [if_neg q]; exact Nat.zero_le _
    show cnt (fun k => decide (0 < (if k = s then muA A (i + 1) (A i) else Y k))) 8192 ≤ i + 1
    have cp : cnt (fun k => decide (0 < (if k = s then muA A (i + 1) (A i) else Y k))) 8192 + (if s < 8192 ∧ decide (0 < Y s) = true then 1 else 0) = cnt (fun k => decide (0 < Y k)) 8192 + (if s < 8192 ∧ decide (0 < (if s = s then muA A (i + 1) (A i) else Y s)) = true then 1 else 0) := cp
    omega
end HT
/-- numbers of a list -/
def lcn (F : Nat × Nat → Nat) (z : Nat) : List (Nat × Nat) → Nat
  | [] => 0
  | e :: L => (if F e = z then 1 else 0) + lcn F z L
theorem lcn_app (F : Nat × Nat → Nat) (z : Nat) : ∀ A B, lcn F z (A ++ B) = lcn F z A + lcn F z B
  | [], B => (Nat.zero_add _).symm
  | e :: A, B => by
    show (if F e = z then 1 else 0) + lcn F z (A ++ B) = (if F e = z then 1 else 0) + lcn F z A + lcn F z B
    rw [lcn_app F z A B, Nat.add_assoc]
theorem muA_take (F : Nat × Nat → Nat) (L : List (Nat × Nat)) (z : Nat) : ∀ i, i ≤ L.length → muA (fun i => F (L.getD i (0, 0))) i z = lcn F z (L.take i)
  | 0, _ => rfl
  | i + 1, hi => by
    rw [muA_s, muA_take F L z i (by omega), take_s (by omega), lcn_app]
    rfl
theorem lcn_plk (F : Nat × Nat → Nat) (z : Nat) (f : Nat → Bool) (x : Nat) : ∀ k, lcn F z (plk f x k) = sumN (fun p => ind (f p) (F (x, p)) z) k
  | 0 => rfl
  | k + 1 => by
    rw [plk_s, lcn_app, lcn_plk F z f x k, sumN_s]
    unfold ind
    by_cases h : f k = true
    · rw [if_pos h, if_pos h]; rfl
    · rw [if_neg h, if_neg h]; rfl
theorem lcn_pl (F : Nat × Nat → Nat) (z : Nat) (g : Nat → Nat → Bool) (pc : Nat) : ∀ j, lcn F z (pl g pc j) = sumN (fun x => sumN (fun p => ind (g x p) (F (x, p)) z) pc) j
  | 0 => rfl
  | j + 1 => by rw [pl_s, lcn_app, lcn_pl F z g pc j, lcn_plk, sumN_s]
theorem sumN_z : ∀ k, sumN (fun _ => 0) k = 0
  | 0 => rfl
  | k + 1 => by rw [sumN_s, sumN_z k]
theorem sumN_add (a b : Nat → Nat) : ∀ k, sumN (fun x => a x + b x) k = sumN a k + sumN b k
  | 0 => rfl
  | k + 1 => by rw [sumN_s, sumN_s, sumN_s, sumN_add a b k]; omega
theorem sumN_swap (b : Nat → Nat → Nat) (th : Nat) : ∀ pc, sumN (fun p => sumN (fun x => b x p) th) pc = sumN (fun x => sumN (fun p => b x p) pc) th
  | 0 => (sumN_z th).symm
  | pc + 1 => by
    rw [sumN_s, sumN_swap b th pc, ← sumN_add]
    rfl
theorem Tot_sum {n : Nat → Nat} {v : Nat → Nat → Nat} {o w : Nat → Nat} {th : Nat} {g : Nat → Nat → Bool} {s col hr z : Nat} : ∀ pc, Tot n v o w th g s col hr z pc = sumN (fun p => sumN (fun x => ind (g x p) (cdv v o w x (sp_hours n v s col (yrP v p) 0 + hr)) z) th) pc
  | 0 => rfl
  | pc + 1 => by
    show Tot n v o w th g s col hr z pc + _ = _
    rw [Tot_sum pc, sumN_s]
