section STL
variable {st : Nat}
theorem py_comes {a n : Nat} (hl : ea_len a = 2 * n) (hn : n ≤ 1000) (M : eM) : ∃ M', fX11_comes a (nI n) M = some M' ∧ (∀ k, k < n → M'.1 a k = M.1 a (n + k)) ∧ (∀ c k, (c ≠ a ∨ n ≤ k) → M'.1 c k = M.1 c k) ∧ M'.2 = M.2 := by
  have lp : ∀ (d f i : Nat) (M1 : eM), n - i = d → i ≤ n → d < f → (∀ k, k < i → M1.1 a k = M.1 a (n + k)) → (∀ c k, (c ≠ a ∨ n ≤ k) → M1.1 c k = M.1 c k) → M1.2 = M.2 → ∃ M', fX11_comes_2 a f (nI n) (nI i) M1 = some M' ∧ (∀ k, k < n → M'.1 a k = M.1 a (n + k)) ∧ (∀ c k, (c ≠ a ∨ n ≤ k) → M'.1 c k = M.1 c k) ∧ M'.2 = M.2 := by
    intro d
    induction d with
    | zero =>
      intro f i M1 hd hi hf h1 h2 h3
      obtain ⟨f, rfl⟩ : ∃ f', f = f' + 1 := ⟨f - 1, by omega⟩
      have e : i = n := by omega
      subst e
      exact ⟨M1, by rw [fX11_comes_2, if_pos (by rw [pn_leI (by omega) (by omega)]; omega)], h1, h2, h3⟩
    | succ d ih =>
      intro f i M1 hd hi hf h1 h2 h3
      obtain ⟨f, rfl⟩ : ∃ f', f = f' + 1 := ⟨f - 1, by omega⟩
      obtain ⟨M', r⟩ := ih f (i + 1) (ea_pI M1 a i (M1.1 a (n + i))) (by omega) (by omega) (by omega) (fun k hk => by
        by_cases e : k = i
        · rw [e, ea_pI_eq]
          exact h2 _ _ (by omega)
        · rw [ea_pI_ne (by omega)]
          exact h1 k (by omega)) (fun c k h => by rw [ea_pI_ne (by omega)]; exact h2 c k h) h3
      refine ⟨M', ?_, r.2⟩
      rw [fX11_comes_2, if_neg (by rw [pn_leI (by omega) (by omega)]; omega), ev_add, hl, ev_ix (by omega) (by omega), ev_ck, ev_ix (by omega) (by omega), ev_ck, ev_cl (by omega), ev_cl (by omega), show nI i + 1 = nI (i + 1) from nI_add i 1]
      exact r.1
  exact lp n ea_N 0 M (by omega) (Nat.zero_le _) (by unfold ea_N; omega) (fun k hk => by omega) (fun _ _ _ => rfl) rfl
theorem py_s46 (k66 : eM → Option eM) : ∀ (d f i : Nat) (M : eM), 854 - i = d → i ≤ 854 → d < f → ∃ M', fX11_settle_46 k66 f (nI i) M = k66 M' ∧ (∀ k, i ≤ k → k < 854 → M'.1 114 k = 0) ∧ (∀ c k, (c ≠ 114 ∨ k < i ∨ 854 ≤ k) → M'.1 c k = M.1 c k) ∧ M'.2 = M.2 := by
  intro d
  induction d with
  | zero =>
    intro f i M hd hi hf
    obtain ⟨f, rfl⟩ : ∃ f', f = f' + 1 := ⟨f - 1, by omega⟩
    refine ⟨M, ?_, fun k h1 h2 => by omega, fun _ _ _ => rfl, rfl⟩
    rw [fX11_settle_46, if_pos (by rw [show (854 : Int32) = nI 854 from rfl, pn_leI (by omega) (by omega)]; omega)]
  | succ d ih =>
    intro f i M hd hi hf
    obtain ⟨f, rfl⟩ : ∃ f', f = f' + 1 := ⟨f - 1, by omega⟩
    obtain ⟨M', r1, r2, r3, r4⟩ := ih f (i + 1) (ea_pI M 114 i 0) (by omega) (by omega) (by omega)
    refine ⟨M', ?_, fun k h1 h2 => ?_, fun c k h => ?_, r4⟩
    · rw [fX11_settle_46, if_neg (by rw [show (854 : Int32) = nI 854 from rfl, pn_leI (by omega) (by omega)]; omega), show ea_len 114 = 3416 from rfl, ev_ix (by omega) (by omega), ev_ck, ev_cl (by omega), show nI i + 1 = nI (i + 1) from nI_add i 1]
      exact r1
    · by_cases e : k = i
      · rw [r3 _ _ (by omega), e, ea_pI_eq]
      · exact r2 k (by omega) h2
    · rw [r3 _ _ (by omega), ea_pI_ne (by omega)]
theorem py_s68 (k86 : eM → Option eM) : ∀ (d f i : Nat) (M : eM), 3 - i = d → i ≤ 3 → d < f → ∃ M', fX11_settle_68 k86 f (nI i) M = k86 M' ∧ (∀ k, i ≤ k → k < 3 → M'.1 115 k = 0) ∧ (∀ c k, (c ≠ 115 ∨ k < i) → M'.1 c k = M.1 c k) ∧ M'.2 = M.2 := by
  intro d
  induction d with
  | zero =>
    intro f i M hd hi hf
    obtain ⟨f, rfl⟩ : ∃ f', f = f' + 1 := ⟨f - 1, by omega⟩
    refine ⟨M, ?_, fun k h1 h2 => by omega, fun _ _ _ => rfl, rfl⟩
    rw [fX11_settle_68, if_pos (by rw [show (3 : Int32) = nI 3 from rfl, pn_leI (by omega) (by omega)]; omega)]
  | succ d ih =>
    intro f i M hd hi hf
    obtain ⟨f, rfl⟩ : ∃ f', f = f' + 1 := ⟨f - 1, by omega⟩
    obtain ⟨M', r1, r2, r3, r4⟩ := ih f (i + 1) (ea_pI M 115 i 0) (by omega) (by omega) (by omega)
    refine ⟨M', ?_, fun k h1 h2 => ?_, fun c k h => ?_, r4⟩
    · rw [fX11_settle_68, if_neg (by rw [show (3 : Int32) = nI 3 from rfl, pn_leI (by omega) (by omega)]; omega), show ea_len 115 = 3 from rfl, ev_ix (by omega) (by omega), ev_ck, ev_cl (by omega), vp_nb0, show nI i + 1 = nI (i + 1) from nI_add i 1]
      exact r1
    · by_cases e : k = i
      · rw [r3 _ _ (by omega), e, ea_pI_eq]
      · exact r2 k (by omega) h2
    · rw [r3 _ _ (by omega), ea_pI_ne (by omega)]
theorem py_s105 (k125 : Int32 → eM → Option eM) {s : Nat} (hs : s < 5) : ∀ (d f a : Nat) (M : eM), 10 - a = d → 1 ≤ a → a ≤ 10 → d < f → ty M (t1 (9 * s + (a - 1))) → ∃ M', fX11_settle_105 k125 f (nI s) (nI a) M = k125 (nI s) M' ∧ ty M' (t1 (9 * s + 9)) ∧ FrQ M M' := by
  intro d
  induction d with
  | zero =>
    intro f a M hd h1 ha hf ht
    obtain ⟨f, rfl⟩ : ∃ f', f = f' + 1 := ⟨f - 1, by omega⟩
    have e : a = 10 := by omega
    subst e
    exact ⟨M, by rw [fX11_settle_105, if_pos (by decide)], ht, FrQ.rf M⟩
  | succ d ih =>
    intro f a M hd h1 ha hf ht
    obtain ⟨f, rfl⟩ : ∃ f', f = f' + 1 := ⟨f - 1, by omega⟩
    obtain ⟨M1, a1, a2, a3⟩ := py_addt (x1 := nI s) (x2 := nI a) (x3 := -1) (x4 := 0) (9 * s + (a - 1)) 45 (by rw [show (9 * s + (a - 1)) / 9 = s by omega]) (by rw [show (9 * s + (a - 1)) % 9 + 1 = a by omega]) (fun _ => rfl) (fun h => absurd rfl h) ht (by rw [t1_l]; omega)
    have a2 : ty M1 (t1 (9 * s + (a - 1) + 1)) := a2
    rw [show 9 * s + (a - 1) + 1 = 9 * s + (a + 1 - 1) by omega] at a2
    obtain ⟨M2, c1, c2, c3⟩ := ih f (a + 1) M1 (by omega) (by omega) (by omega) (by omega) a2
    refine ⟨M2, ?_, c2, a3.trans c3⟩
    rw [fX11_settle_105, if_neg (by rw [show (10 : Int32) = nI 10 from rfl, pn_leI (by omega) (by omega)]; omega), a1, ev_cv, show nI a + 1 = nI (a + 1) from nI_add a 1]
    exact c1
theorem py_s93 (k131 : eM → Option eM) (hst : st ≤ 5) : ∀ (d f s : Nat) (M : eM), st - s = d → s ≤ st → d < f → M.1 102 4 = nI st → ty M (t1 (9 * s)) → ∃ M', fX11_settle_93 k131 f (nI s) M = k131 M' ∧ ty M' (t1 (9 * st)) ∧ FrQ M M' := by
  intro d
  induction d with
  | zero =>
    intro f s M hd hs hf h4 ht
    obtain ⟨f, rfl⟩ : ∃ f', f = f' + 1 := ⟨f - 1, by omega⟩
    have e : s = st := by omega
    subst e
    exact ⟨M, by rw [fX11_settle_93, ev_cll (k := 4) (by decide), h4, if_pos (by rw [pn_leI (by omega) (by omega)]; omega)], ht, FrQ.rf M⟩
  | succ d ih =>
    intro f s M hd hs hf h4 ht
    obtain ⟨f, rfl⟩ : ∃ f', f = f' + 1 := ⟨f - 1, by omega⟩
    obtain ⟨M1, a1, a2, a3⟩ := py_s105 (fX11_settle_125 (fX11_settle_93 k131 f)) (s := s) (by omega) 9 ea_N 1 M rfl (by omega) (by omega) (by unfold ea_N; omega) ht
    have a1 : fX11_settle_105 (fX11_settle_125 (fX11_settle_93 k131 f)) ea_N (nI s) 1 M = _ := a1
    obtain ⟨M2, c1, c2, c3⟩ := ih f (s + 1) M1 (by omega) (by omega) (by omega) (by rw [a3.1 _ _ (by omega) (by omega)]; exact h4) a2
    refine ⟨M2, ?_, c2, a3.trans c3⟩
    rw [fX11_settle_93, ev_cll (k := 4) (by decide), h4, if_neg (by rw [pn_leI (by omega) (by omega)]; omega), a1]
    unfold fX11_settle_125
    rw [show nI s + 1 = nI (s + 1) from nI_add s 1]
    exact c1
theorem py_s178 (k200 : Int32 → Int32 → Int32 → eM → Option eM) {pre : List (Nat × Nat)} {s a x bb s' : Nat} (hst : st ≤ 5) (ha : 1 ≤ a ∧ a ≤ 9) (hx : x = 9 * s + (a - 1)) (hb : bb = 9 * (s + 1)) (hs : s < s') (hs' : s' < st) (hl : pre.length + (9 * st - bb) ≤ 855) : ∀ (d f b : Nat) (M : eM), 10 - b = d → 1 ≤ b → b ≤ 10 → d < f → ty M (pre ++ trw x bb (9 * s' + (b - 1) - bb)) → ∃ M', fX11_settle_178 k200 f (nI s) (nI a) (nI s') (nI b) M = k200 (nI s) (nI a) (nI s') M' ∧ ty M' (pre ++ trw x bb (9 * s' + 9 - bb)) ∧ FrQ M M' := by
  intro d
  induction d with
  | zero =>
    intro f b M hd h1 hb2 hf ht
    obtain ⟨f, rfl⟩ : ∃ f', f = f' + 1 := ⟨f - 1, by omega⟩
    have e : b = 10 := by omega
    subst e
    exact ⟨M, by rw [fX11_settle_178, if_pos (by decide)], ht, FrQ.rf M⟩
  | succ d ih =>
    intro f b M hd h1 hb2 hf ht
    obtain ⟨f, rfl⟩ : ∃ f', f = f' + 1 := ⟨f - 1, by omega⟩
    obtain ⟨M1, a1, a2, a3⟩ := py_addt (x1 := nI s) (x2 := nI a) (x3 := nI s') (x4 := nI b) x (9 * s' + (b - 1)) (by rw [show x / 9 = s by omega]) (by rw [show x % 9 + 1 = a by omega]) (fun h => by omega) (fun h => ⟨by rw [show (9 * s' + (b - 1)) / 9 = s' by omega], by rw [show (9 * s' + (b - 1)) % 9 + 1 = b by omega]⟩) ht (by rw [List.length_append, trw_l]; omega)
    rw [← trw_s (by omega), show 9 * s' + (b - 1) + 1 - bb = 9 * s' + (b + 1 - 1) - bb by omega] at a2
    obtain ⟨M2, c1, c2, c3⟩ := ih f (b + 1) M1 (by omega) (by omega) (by omega) (by omega) a2
    refine ⟨M2, ?_, c2, a3.trans c3⟩
    rw [fX11_settle_178, if_neg (by rw [show (10 : Int32) = nI 10 from rfl, pn_leI (by omega) (by omega)]; omega), a1, ev_cv, show nI b + 1 = nI (b + 1) from nI_add b 1]
    exact c1
theorem py_s165 (k206 : Int32 → Int32 → eM → Option eM) {pre : List (Nat × Nat)} {s a x bb : Nat} (hst : st ≤ 5) (ha : 1 ≤ a ∧ a ≤ 9) (hx : x = 9 * s + (a - 1)) (hb : bb = 9 * (s + 1)) (hl : pre.length + (9 * st - bb) ≤ 855) : ∀ (d f s' : Nat) (M : eM), st - s' = d → s < s' → s' ≤ st → d < f → M.1 102 4 = nI st → ty M (pre ++ trw x bb (9 * s' - bb)) → ∃ M', fX11_settle_165 k206 f (nI s) (nI a) (nI s') M = k206 (nI s) (nI a) M' ∧ ty M' (pre ++ trw x bb (9 * st - bb)) ∧ FrQ M M' := by
  intro d
  induction d with
  | zero =>
    intro f s' M hd h1 hs' hf h4 ht
    obtain ⟨f, rfl⟩ : ∃ f', f = f' + 1 := ⟨f - 1, by omega⟩
    have e : s' = st := by omega
    subst e
    exact ⟨M, by rw [fX11_settle_165, ev_cll (k := 4) (by decide), h4, if_pos (by rw [pn_leI (by omega) (by omega)]; omega)], ht, FrQ.rf M⟩
  | succ d ih =>
    intro f s' M hd h1 hs' hf h4 ht
    obtain ⟨f, rfl⟩ : ∃ f', f = f' + 1 := ⟨f - 1, by omega⟩
    obtain ⟨M1, a1, a2, a3⟩ := py_s178 (fX11_settle_200 (fX11_settle_165 k206 f)) (st := st) (s' := s') hst ha hx hb h1 (by omega) hl 9 ea_N 1 M rfl (by omega) (by omega) (by unfold ea_N; omega) ht
    have a1 : fX11_settle_178 (fX11_settle_200 (fX11_settle_165 k206 f)) ea_N (nI s) (nI a) (nI s') 1 M = _ := a1
    obtain ⟨M2, c1, c2, c3⟩ := ih f (s' + 1) M1 (by omega) (by omega) (by omega) (by omega) (by rw [a3.1 _ _ (by omega) (by omega)]; exact h4) a2
    refine ⟨M2, ?_, c2, a3.trans c3⟩
    rw [fX11_settle_165, ev_cll (k := 4) (by decide), h4, if_neg (by rw [pn_leI (by omega) (by omega)]; omega), a1]
    unfold fX11_settle_200
    rw [show nI s' + 1 = nI (s' + 1) from nI_add s' 1]
    exact c1
theorem py_s155 (k212 : Int32 → eM → Option eM) {s : Nat} (hst : st ≤ 5) (hs : s < st) : ∀ (d f a : Nat) (M : eM), 10 - a = d → 1 ≤ a → a ≤ 10 → d < f → M.1 102 4 = nI st → ty M (t2 (9 * st) (9 * s + (a - 1))) → ∃ M', fX11_settle_155 k212 f (nI s) (nI a) M = k212 (nI s) M' ∧ ty M' (t2 (9 * st) (9 * s + 9)) ∧ FrQ M M' := by
  intro d
  induction d with
  | zero =>
    intro f a M hd h1 ha hf h4 ht
    obtain ⟨f, rfl⟩ : ∃ f', f = f' + 1 := ⟨f - 1, by omega⟩
    have e : a = 10 := by omega
    subst e
    exact ⟨M, by rw [fX11_settle_155, if_pos (by decide)], ht, FrQ.rf M⟩
  | succ d ih =>
    intro f a M hd h1 ha hf h4 ht
    obtain ⟨f, rfl⟩ : ∃ f', f = f' + 1 := ⟨f - 1, by omega⟩
    have eb : ((9 * s + (a - 1)) / 9 + 1) * 9 = 9 * (s + 1) := by omega
    have hl : (t2 (9 * st) (9 * s + (a - 1))).length + (9 * st - 9 * (s + 1)) ≤ 855 := by
      have := tql_b st (by omega) (9 * s + (a - 1) + 1) (by omega)
      have e : tql (9 * st) (9 * s + (a - 1) + 1) = tql (9 * st) (9 * s + (a - 1)) + (9 * st - ((9 * s + (a - 1)) / 9 + 1) * 9) := rfl
      rw [e, eb] at this
      rw [t2_l]
      exact this
    obtain ⟨M1, a1, a2, a3⟩ := py_s165 (fX11_settle_206 (fX11_settle_155 k212 f)) (st := st) (pre := t2 (9 * st) (9 * s + (a - 1))) (s := s) (a := a) (x := 9 * s + (a - 1)) (bb := 9 * (s + 1)) hst ⟨h1, by omega⟩ rfl rfl hl (st - (s + 1)) ea_N (s + 1) M rfl (by omega) (by omega) (by unfold ea_N; omega) h4 (by rw [Nat.sub_self]; show ty M (t2 (9 * st) (9 * s + (a - 1)) ++ []); rw [List.append_nil]; exact ht)
    have e2 : t2 (9 * st) (9 * s + (a + 1 - 1)) = t2 (9 * st) (9 * s + (a - 1)) ++ trw (9 * s + (a - 1)) (9 * (s + 1)) (9 * st - 9 * (s + 1)) := by
      rw [show 9 * s + (a + 1 - 1) = 9 * s + (a - 1) + 1 by omega]
      show t2 (9 * st) (9 * s + (a - 1)) ++ trw (9 * s + (a - 1)) (((9 * s + (a - 1)) / 9 + 1) * 9) (9 * st - ((9 * s + (a - 1)) / 9 + 1) * 9) = _
      rw [eb]
    rw [← e2] at a2
    obtain ⟨M2, c1, c2, c3⟩ := ih f (a + 1) M1 (by omega) (by omega) (by omega) (by omega) (by rw [a3.1 _ _ (by omega) (by omega)]; exact h4) a2
    refine ⟨M2, ?_, c2, a3.trans c3⟩
    rw [fX11_settle_155, if_neg (by rw [show (10 : Int32) = nI 10 from rfl, pn_leI (by omega) (by omega)]; omega), show nI s + 1 = nI (s + 1) from nI_add s 1, a1]
    unfold fX11_settle_206
    rw [show nI a + 1 = nI (a + 1) from nI_add a 1]
    exact c1
theorem py_s133 (hst : st ≤ 5) : ∀ (d f s : Nat) (M : eM), st - s = d → s ≤ st → d < f → M.1 102 4 = nI st → M.1 102 3 = 2 → ty M (t2 (9 * st) (9 * s)) → ∃ M', fX11_settle_133 f (nI s) M = some M' ∧ ty M' (t2 (9 * st) (9 * st)) ∧ FrQ M M' := by
  intro d
  induction d with
  | zero =>
    intro f s M hd hs hf h4 h3 ht
    obtain ⟨f, rfl⟩ : ∃ f', f = f' + 1 := ⟨f - 1, by omega⟩
    have e : s = st := by omega
    subst e
    exact ⟨M, by rw [fX11_settle_133, ev_cll (k := 4) (by decide), h4, if_pos (by rw [pn_leI (by omega) (by omega)]; omega)], ht, FrQ.rf M⟩
  | succ d ih =>
    intro f s M hd hs hf h4 h3 ht
    obtain ⟨f, rfl⟩ : ∃ f', f = f' + 1 := ⟨f - 1, by omega⟩
    obtain ⟨M1, a1, a2, a3⟩ := py_s155 (fX11_settle_212 (fX11_settle_133 f)) (st := st) (s := s) hst (by omega) 9 ea_N 1 M rfl (by omega) (by omega) (by unfold ea_N; omega) h4 ht
    have a1 : fX11_settle_155 (fX11_settle_212 (fX11_settle_133 f)) ea_N (nI s) 1 M = _ := a1
    obtain ⟨M2, c1, c2, c3⟩ := ih f (s + 1) M1 (by omega) (by omega) (by omega) (by rw [a3.1 _ _ (by omega) (by omega)]; exact h4) (by rw [a3.1 _ _ (by omega) (by omega)]; exact h3) a2
    refine ⟨M2, ?_, c2, a3.trans c3⟩
    rw [fX11_settle_133, ev_cll (k := 4) (by decide), ev_cll (k := 3) (by decide), h4, h3, if_neg (by rw [pn_leI (by omega) (by omega)]; omega), if_pos rfl, a1]
    unfold fX11_settle_212
    rw [show nI s + 1 = nI (s + 1) from nI_add s 1]
    exact c1
/-- the model settles the CLOTH that was told -/
theorem py_settle {M : eM} {mo : Nat} (h18 : M.1 102 18 = nI st) (h17 : M.1 102 17 = nI mo) (hst : st ≤ 5) (hm : 1 ≤ mo ∧ mo ≤ 2) : ∃ M', fX11_settle M = some M' ∧ ty M' (tls st mo) ∧ (∀ k, k < 14 → M'.1 102 k = M.1 102 (14 + k)) ∧ (∀ k, k < 30 → M'.1 106 k = M.1 106 (30 + k)) ∧ (∀ k, k < 4 → M'.1 107 k = M.1 107 (4 + k)) ∧ (∀ k, k < 96 → M'.1 108 k = M.1 108 (96 + k)) ∧ (∀ k, k < 18 → M'.1 109 k = M.1 109 (18 + k)) ∧ (∀ k, k < 854 → M'.1 114 k = 0) ∧ (∀ k, k < 3 → M'.1 115 k = 0) ∧ (∀ c k, (c < 102 ∨ 115 < c) → (c ≠ 100 ∨ k ≠ 22) → M'.1 c k = M.1 c k) ∧ M'.2 = M.2 := by
  obtain ⟨A, a1, a2, a3, a4⟩ := py_comes (a := 102) (n := 14) rfl (by omega) M
  obtain ⟨C, c1, c2, c3, c4⟩ := py_comes (a := 106) (n := 30) rfl (by omega) A
  obtain ⟨D, d1, d2, d3, d4⟩ := py_comes (a := 107) (n := 4) rfl (by omega) C
  obtain ⟨E, e1, e2, e3, e4⟩ := py_comes (a := 108) (n := 96) rfl (by omega) D
  obtain ⟨F, f1, f2, f3, f4⟩ := py_comes (a := 109) (n := 18) rfl (by omega) E
  obtain ⟨G, g1, g2, g3, g4⟩ := py_s46 fX11_settle_66 854 ea_N 0 F rfl (by omega) (by unfold ea_N; omega)
  obtain ⟨H, h1, h2, h3, h4⟩ := py_s68 fX11_settle_86 3 ea_N 0 G rfl (by omega) (by unfold ea_N; omega)
  have k2 : ∀ k, k < 14 → (ea_pI H 100 22 0).1 102 k = M.1 102 (14 + k) := fun k hk => by rw [ea_pI_ne (by omega), h3 _ _ (by omega), g3 _ _ (by omega), f3 _ _ (by omega), e3 _ _ (by omega), d3 _ _ (by omega), c3 _ _ (by omega)]; exact a2 k hk
  have w4 : (ea_pI H 100 22 0).1 102 4 = nI st := by rw [k2 4 (by omega)]; exact h18
  have w3 : (ea_pI H 100 22 0).1 102 3 = nI mo := by rw [k2 3 (by omega)]; exact h17
  obtain ⟨I, i1, i2, i3⟩ := py_s93 fX11_settle_131 hst st ea_N 0 (ea_pI H 100 22 0) rfl (by omega) (by unfold ea_N; omega) w4 ⟨ea_pI_eq, fun t ht => absurd ht (Nat.not_lt_zero _)⟩
  obtain ⟨J, j1, j2, j3⟩ : ∃ J, fX11_settle_131 I = some J ∧ ty J (tls st mo) ∧ FrQ I J := by
    unfold fX11_settle_131 tls
    have v4 : I.1 102 4 = nI st := by rw [i3.1 _ _ (by omega) (by omega)]; exact w4
    have v3 : I.1 102 3 = nI mo := by rw [i3.1 _ _ (by omega) (by omega)]; exact w3
    by_cases hm2 : mo = 2
    · rw [if_pos hm2]
      exact py_s133 hst st ea_N 0 I rfl (by omega) (by unfold ea_N; omega) v4 (by rw [v3, hm2]; rfl) i2
    · rw [if_neg hm2]
      refine ⟨I, ?_, i2, FrQ.rf I⟩
      show fX11_settle_133 (99999 + 1) (nI 0) I = some I
      rw [fX11_settle_133, ev_cll (k := 4) (by decide), ev_cll (k := 3) (by decide), v4, v3]
      by_cases h0 : nI st ≤ nI 0
      · rw [if_pos h0]
      · rw [if_neg h0, if_neg (show ¬ nI mo = (2 : Int32) by rw [show (2 : Int32) = nI 2 from rfl, pn_eqI (by omega) (by omega)]; exact hm2)]
  have ij : ∀ c k, (c < 110 ∨ 113 < c) → (c ≠ 100 ∨ k ≠ 22) → J.1 c k = H.1 c k := fun c k p q => by rw [j3.1 _ _ p q, i3.1 _ _ p q, ea_pI_ne (by omega)]
  refine ⟨J, ?_, j2, fun k hk => ?_, fun k hk => ?_, fun k hk => ?_, fun k hk => ?_, fun k hk => ?_, fun k hk => ?_, fun k hk => ?_, fun c k p q => ?_, ?_⟩
  · have a1 : fX11_comes 102 14 M = some A := a1
    have c1 : fX11_comes 106 30 A = some C := c1
    have d1 : fX11_comes 107 4 C = some D := d1
    have e1 : fX11_comes 108 96 D = some E := e1
    have f1 : fX11_comes 109 18 E = some F := f1
    have g1 : fX11_settle_46 fX11_settle_66 ea_N 0 F = fX11_settle_66 G := g1
    have h1 : fX11_settle_68 fX11_settle_86 ea_N 0 G = fX11_settle_86 H := h1
    have i1 : fX11_settle_93 fX11_settle_131 ea_N 0 (ea_pI H 100 22 0) = fX11_settle_131 I := i1
    unfold fX11_settle fX11_settle_0
    rw [a1, ev_cv, c1, ev_cv, d1, ev_cv, e1, ev_cv, f1, ev_cv, g1]
    unfold fX11_settle_66
    rw [h1]
    unfold fX11_settle_86
    rw [i1, j1]
  · rw [j3.1 _ _ (by omega) (by omega), i3.1 _ _ (by omega) (by omega)]
    exact k2 k hk
  · rw [ij _ _ (by omega) (by omega), h3 _ _ (by omega), g3 _ _ (by omega), f3 _ _ (by omega), e3 _ _ (by omega), d3 _ _ (by omega), c2 k hk, a3 _ _ (by omega)]
  · rw [ij _ _ (by omega) (by omega), h3 _ _ (by omega), g3 _ _ (by omega), f3 _ _ (by omega), e3 _ _ (by omega), d2 k hk, c3 _ _ (by omega), a3 _ _ (by omega)]
  · rw [ij _ _ (by omega) (by omega), h3 _ _ (by omega), g3 _ _ (by omega), f3 _ _ (by omega), e2 k hk, d3 _ _ (by omega), c3 _ _ (by omega), a3 _ _ (by omega)]
  · rw [ij _ _ (by omega) (by omega), h3 _ _ (by omega), g3 _ _ (by omega), f2 k hk, e3 _ _ (by omega), d3 _ _ (by omega), c3 _ _ (by omega), a3 _ _ (by omega)]
  · rw [ij _ _ (by omega) (by omega), h3 _ _ (by omega)]
    exact g2 k (by omega) hk
  · rw [ij _ _ (by omega) (by omega)]
    exact h2 k (by omega) hk
  · rw [ij _ _ (by omega) q, h3 _ _ (by omega), g3 _ _ (by omega), f3 _ _ (by omega), e3 _ _ (by omega), d3 _ _ (by omega), c3 _ _ (by omega), a3 _ _ (by omega)]
  · rw [j3.2, i3.2]
    show H.2 = M.2
    rw [h4, g4, f4, e4, d4, c4, a4]
end STL
