/-- the words, in the model's order, and where each begins in its text -/
def wdl (w : Nat) : List Nat := ([[99, 108, 111, 116, 104], [115, 108, 97, 99, 107], [109, 101, 110, 100, 101, 100], [109, 111, 115, 116], [98, 114, 105, 103, 104, 116], [115, 116, 117, 102, 102], [115, 116, 111, 114, 121], [101, 121, 101], [104, 97, 110, 103], [115, 101, 101, 115]] : List (List Nat)).getD w []
def wst (w : Nat) : Nat := ([0, 6, 12, 19, 24, 31, 37, 43, 47, 52, 57] : List Nat).getD w 57
def cwx (a : Nat) : Nat := ([0, 1, 2, 3, 4, 5, 7, 9, 6, 8] : List Nat).getD a 0
def eqw (B : Nat → Nat) (q d w : Nat) : Bool := decide (d = (wdl w).length) && fkN (fun i => decide (B (q + i) = (wdl w).getD i 0)) d
theorem fkN_t {ok : Nat → Bool} : ∀ k, fkN ok k = true ↔ ∀ i, i < k → ok i = true
  | 0 => ⟨fun _ i hi => absurd hi (Nat.not_lt_zero _), fun _ => rfl⟩
  | k + 1 => by
    rw [fkN_s, Bool.and_eq_true, fkN_t k]
    constructor
    · intro h i hi
      by_cases e : i = k
      · rw [e]; exact h.2
      · exact h.1 i (by omega)
    · intro h
      exact ⟨fun i hi => h i (by omega), h k (Nat.lt_succ_self k)⟩
theorem eqw_t {B : Nat → Nat} {q d w : Nat} : eqw B q d w = true ↔ d = (wdl w).length ∧ ∀ i, i < d → B (q + i) = (wdl w).getD i 0 := by
  unfold eqw
  rw [Bool.and_eq_true, decide_eq_true_eq, fkN_t]
  constructor
  · intro h; exact ⟨h.1, fun i hi => of_decide_eq_true (h.2 i hi)⟩
  · intro h; exact ⟨h.1, fun i hi => decide_eq_true (h.2 i hi)⟩
theorem wdl_uq : ∀ w, w < 10 → ∀ w', w' < 10 → (wdl w).length = (wdl w').length → (∀ i, i < (wdl w).length → (wdl w).getD i 0 = (wdl w').getD i 0) → w = w' := by decide +kernel
theorem eqw_uq {B : Nat → Nat} {q d w w' : Nat} (hw : w < 10) (hw' : w' < 10) (h : eqw B q d w = true) (h' : eqw B q d w' = true) : w = w' := by
  obtain ⟨a1, a2⟩ := eqw_t.mp h
  obtain ⟨b1, b2⟩ := eqw_t.mp h'
  exact wdl_uq w hw w' hw' (by omega) (fun i hi => by rw [← a2 i (by omega), ← b2 i (by omega)])
theorem txt_a : ∀ a, a < 10 → ea_tlen a = nI (wdl (cwx a)).length ∧ (wdl (cwx a)).length ≤ 6 ∧ cwx a < 10 ∧ ∀ i, i < (wdl (cwx a)).length → ea_tck a (nI i) = true ∧ ea_tch a (nI i) = nI ((wdl (cwx a)).getD i 0) ∧ (wdl (cwx a)).getD i 0 < 128 ∧ 97 ≤ (wdl (cwx a)).getD i 0 := by decide +kernel
theorem txt_w : ∀ w, w < 10 → wst (w + 1) = wst w + (wdl w).length + 1 ∧ wst (w + 1) ≤ 57 ∧ ea_tck 10 (nI (wst w + (wdl w).length)) = true ∧ ea_tch 10 (nI (wst w + (wdl w).length)) = 32 ∧ ∀ i, i < (wdl w).length → ea_tck 10 (nI (wst w + i)) = true ∧ ea_tch 10 (nI (wst w + i)) = nI ((wdl w).getD i 0) ∧ (wdl w).getD i 0 < 128 ∧ 97 ≤ (wdl w).getD i 0 := by decide +kernel
theorem txt_l : ea_tlen 10 = nI 57 ∧ wst 0 = 0 ∧ wst 10 = 57 := by decide +kernel
section SY
variable {M : eM} {B : Nat → Nat} {len : Nat}
theorem px_says (hB : BY M B len) {q e kd a : Nat} (ha : a < 10) (h4 : M.1 3 4 = nI e) (h7 : M.1 3 7 = nI q) (h6 : M.1 3 6 = nI kd) (hqe : q ≤ e) (he : e ≤ len) (hkd : kd ≤ 4) : fX2_says a M = some (if (decide (kd = 1) && eqw B q (e - q) (cwx a)) = true then 1 else 0, M) := by
  have hl := hB.1
  obtain ⟨t1, t2, t3, t4⟩ := txt_a a ha
  unfold fX2_says fX2_says_0
  rw [h6, h4, h7, ev_sub hqe, t1]
  by_cases hk : kd = 1
  · rw [if_pos (by rw [hk]; rfl), decide_eq_true hk, Bool.true_and]
    by_cases hd : e - q = (wdl (cwx a)).length
    · rw [if_pos (by rw [hd])]
      have lp : ∀ (d f i : Nat), (wdl (cwx a)).length - i = d → i ≤ (wdl (cwx a)).length → d < f → fkN (fun i => decide (B (q + i) = (wdl (cwx a)).getD i 0)) i = true → fX2_says_28 a f (nI i) M = some (if eqw B q (e - q) (cwx a) = true then 1 else 0, M) := by
        intro d
        induction d with
        | zero =>
          intro f i hd2 hi hf hp
          obtain ⟨f, rfl⟩ : ∃ f', f = f' + 1 := ⟨f - 1, by omega⟩
          have ei : i = (wdl (cwx a)).length := by omega
          rw [if_pos (by unfold eqw; rw [decide_eq_true hd, hd, ← ei, hp]; rfl), fX2_says_28, t1, if_pos (by rw [pn_leI (by omega) (by omega)]; omega)]
        | succ d ih =>
          intro f i hd2 hi hf hp
          obtain ⟨f, rfl⟩ : ∃ f', f = f' + 1 := ⟨f - 1, by omega⟩
          obtain ⟨c1, c2, c3, c4⟩ := t4 i (by omega)
          obtain ⟨b1, -, b3, b4⟩ := hB.2 (q + i) (by omega)
          have nx := ih f (i + 1) (by omega) (by omega) (by omega)
          have sm : (M.1 2 (q + i) = nI ((wdl (cwx a)).getD i 0)) ↔ B (q + i) = (wdl (cwx a)).getD i 0 := by
            constructor
            · intro h
              by_cases hb : B (q + i) < 128
              · rw [b3 hb] at h
                exact (nI_eq (by omega) (by omega)).mp h
              · have := b4 (by omega)
                rw [h] at this
                exact absurd this (pn_0le (by omega))
            · intro h
              rw [b3 (by omega), h]
          rw [fX2_says_28, t1, if_neg (by rw [pn_leI (by omega) (by omega)]; omega), h7, ev_add]
          simp (disch := omega) only [ev_ck, ev_ci, ev_cv, ev_lt_, ↓reduceIte, ev_lens, ev_ix, ev_nz, ev_cl, ev_cll, ev_add, ev_addl, ev_ladd, ev_mul, ev_mull, ev_lmul, ev_sub, ev_subl, ev_lsub, ev_lt, ev_ltl, ev_llt, ev_le, ev_lel, ev_lle, ev_eq, ev_eql, ev_leq, ev_nm1, ev_nm5, ev_m1n, ev_neg1, ev_ltT, ev_ltF, ev_leT, ev_leF, ev_eqT, ev_eqF, ev_one0, ev_zero1, Nat.reduceAdd, Nat.reduceMul, Nat.reduceSub, ea_pI_eq, ev_pIn, ev_pIe, ea_pI_r, eq_self, c1, c2]
          by_cases heq : B (q + i) = (wdl (cwx a)).getD i 0
          · rw [if_pos (sm.mpr heq)]
            exact nx (by rw [fkN_s, hp, decide_eq_true heq]; rfl)
          · rw [if_neg (fun h => heq (sm.mp h)), if_neg (fun h => heq ((eqw_t.mp h).2 i (by omega)))]
      exact lp (wdl (cwx a)).length ea_N 0 (by omega) (by omega) (by unfold ea_N; omega) rfl
    · rw [if_neg (by rw [pn_eqI (by omega) (by omega)]; exact hd), if_neg (fun h => hd (eqw_t.mp h).1)]
  · rw [if_neg (by rw [show (1 : Int32) = nI 1 from rfl, pn_eqI (by omega) (by omega)]; exact hk), decide_eq_false hk, Bool.false_and, if_neg Bool.false_ne_true]
/-- the model's word among its words -/
theorem py_key (hB : BY M B len) (h2 : M.1 100 2 = nI len) {q d : Nat} (hd : 0 < d) (hd8 : d ≤ 8) (hq : q + d ≤ len) : fX11_keyAt (nI q) (nI d) M = some (enc id (fsx (eqw B q d) 10), M) := by
  have hl := hB.1
  obtain ⟨z1, z2, z3⟩ := txt_l
  -- one word held against the bytes
  have inn : ∀ (k97 : Int32 → Int32 → Int32 → Int32 → Int32 → eM → Option (Int32 × eM)) (w : Nat) (x5 : Int32), w < 10 → (wdl w).length = d → ∀ (dd f i : Nat), d - i = dd → i ≤ d → dd < f → fX11_keyAt_52 k97 f (nI q) (nI d) (nI w) (nI (wst w)) x5 (if fkN (fun i => decide (B (q + i) = (wdl w).getD i 0)) i = true then 1 else 0) (nI i) M = k97 (nI q) (nI d) (nI w) x5 (if eqw B q d w = true then 1 else 0) M := by
    intro k97 w x5 hw hwd dd
    obtain ⟨-, -, -, -, t5⟩ := txt_w w hw
    induction dd with
    | zero =>
      intro f i h1 hi hf
      obtain ⟨f, rfl⟩ : ∃ f', f = f' + 1 := ⟨f - 1, by omega⟩
      have ei : i = d := by omega
      have ee : eqw B q d w = fkN (fun i => decide (B (q + i) = (wdl w).getD i 0)) i := by unfold eqw; rw [decide_eq_true hwd.symm, Bool.true_and, ei]
      rw [ee, fX11_keyAt_52, if_pos (by rw [pn_leI (by omega) (by omega)]; omega)]
    | succ dd ih =>
      intro f i h1 hi hf
      obtain ⟨f, rfl⟩ : ∃ f', f = f' + 1 := ⟨f - 1, by omega⟩
      obtain ⟨c1, c2, c3, c4⟩ := t5 i (by omega)
      have nx := ih f (i + 1) (by omega) (by omega) (by omega)
      have hb := (hB.2 (q + i) (by omega)).1
      have by1 := py_byte hB h2 (k := q + i) (by omega)
      rw [if_pos (show q + i < len by omega)] at by1
      rw [fX11_keyAt_52, if_neg (by rw [pn_leI (by omega) (by omega)]; omega)]
      cases hp : fkN (fun i => decide (B (q + i) = (wdl w).getD i 0)) i with
      | false =>
        have hf2 : eqw B q d w = false := by
          have := fkN_le (i := i) (N := d) hp (by omega)
          unfold eqw
          rw [this, Bool.and_false]
        rw [hf2, if_neg Bool.false_ne_true, if_pos rfl]
      | true =>
        rw [fkN_s, hp, Bool.true_and] at nx
        rw [if_pos (rfl : true = true), if_neg (by decide), ev_add, ea_ck_t c1, ev_add, by1, ev_ci, c2]
        unfold fX11_keyAt_89
        rw [show nI i + 1 = nI (i + 1) from nI_add i 1]
        by_cases heq : B (q + i) = (wdl w).getD i 0
        · rw [decide_eq_true heq, if_pos (rfl : true = true)] at nx
          rw [if_pos (by rw [heq])]
          exact nx
        · rw [decide_eq_false heq, if_neg Bool.false_ne_true] at nx
          rw [if_neg (by rw [pn_eqI (by omega) (by omega)]; exact fun h => heq h.symm)]
          exact nx
  have lp : ∀ (dw : Nat) (f w j : Nat), w < 10 → j ≤ (wdl w).length → 57 - (wst w + j) = dw → dw < f → fsx (eqw B q d) w = none → fX11_keyAt_8 f (nI q) (nI d) (nI w) (nI (wst w)) (nI (wst w + j)) M = some (enc id (fsx (eqw B q d) 10), M) := by
    intro dw
    induction dw using Nat.strongRecOn with
    | _ dw ih =>
      intro f w j hw hj hdw hf hn
      obtain ⟨f, rfl⟩ : ∃ f', f = f' + 1 := ⟨f - 1, by omega⟩
      obtain ⟨t1, t2, t3, t4, t5⟩ := txt_w w hw
      rw [fX11_keyAt_8, z1, if_neg (by rw [pn_leI (by omega) (by omega)]; omega)]
      by_cases hjl : j < (wdl w).length
      · obtain ⟨c1, c2, c3, c4⟩ := t5 j hjl
        rw [ea_ck_t c1, c2, if_neg (by rw [show (32 : Int32) = nI 32 from rfl, pn_eqI (by omega) (by omega)]; omega)]
        unfold fX11_keyAt_113
        rw [show nI (wst w + j) + 1 = nI (wst w + (j + 1)) from nI_add _ 1]
        exact ih (57 - (wst w + (j + 1))) (by omega) f w (j + 1) hw (by omega) rfl (by omega) hn
      · have ej : j = (wdl w).length := by omega
        rw [ej, ea_ck_t t3, t4, if_pos rfl, ev_sub (Nat.le_add_right _ _), Nat.add_sub_cancel_left]
        -- behind the word
        have aft : fX11_keyAt_97 (fX11_keyAt_8 f) (nI q) (nI d) (nI w) (nI (wst w + (wdl w).length)) (if eqw B q d w = true then 1 else 0) M = some (enc id (fsx (eqw B q d) 10), M) := by
          unfold fX11_keyAt_97
          cases hb : eqw B q d w with
          | true =>
            rw [if_pos (rfl : true = true), if_neg (by decide)]
            have := fsx_at (p := eqw B q d) (i := w) (fun j hj => by
              cases hq2 : eqw B q d j with
              | false => rfl
              | true => exact absurd (eqw_uq (by omega) hw hq2 hb) (by omega)) hb (10 - (w + 1))
            rw [show w + 1 + (10 - (w + 1)) = 10 by omega] at this
            rw [this]
            rfl
          | false =>
            rw [if_neg Bool.false_ne_true, if_pos rfl]
            have hn1 : fsx (eqw B q d) (w + 1) = none := by rw [fsx_s, hn, hb]; rfl
            unfold fX11_keyAt_113
            rw [show nI w + 1 = nI (w + 1) from nI_add w 1, show nI (wst w + (wdl w).length) + 1 = nI (wst (w + 1)) from by rw [t1]; exact nI_add _ 1]
            by_cases hw9 : w + 1 < 10
            · exact ih (57 - (wst (w + 1) + 0)) (by omega) f (w + 1) 0 hw9 (Nat.zero_le _) rfl (by omega) hn1
            · have e10 : w + 1 = 10 := by omega
              obtain ⟨f, rfl⟩ : ∃ f', f = f' + 1 := ⟨f - 1, by omega⟩
              rw [e10, z3, fX11_keyAt_8, z1, if_pos (by rw [pn_leI (by omega) (by omega)]; omega)]
              rw [e10] at hn1
              rw [hn1]
              rfl
        unfold fX11_keyAt_47
        by_cases hld : (wdl w).length = d
        · rw [if_pos (by rw [hld])]
          exact (inn (fX11_keyAt_97 (fX11_keyAt_8 f)) w (nI (wst w + (wdl w).length)) hw hld d ea_N 0 (by omega) (by omega) (by unfold ea_N; omega)).trans aft
        · have hlb : (wdl w).length ≤ 57 := by omega
          rw [if_neg (by rw [pn_eqI (by omega) (by omega)]; exact hld)]
          have hf0 : eqw B q d w = false := by
            cases hb : eqw B q d w with
            | false => rfl
            | true => exact absurd (eqw_t.mp hb).1.symm hld
          rw [hf0, if_neg Bool.false_ne_true] at aft
          show fX11_keyAt_52 _ (99999 + 1) (nI q) (nI d) (nI w) (nI (wst w)) (nI (wst w + (wdl w).length)) 0 (nI 0) M = _
          rw [fX11_keyAt_52, if_neg (by rw [pn_leI (by omega) (by omega)]; omega), if_pos rfl]
          exact aft
  have := lp 57 ea_N 0 0 (by decide) (Nat.zero_le _) (by rw [z2]) (by unfold ea_N; omega) rfl
  rw [z2] at this
  exact this
end SY
