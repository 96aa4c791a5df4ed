section DP
variable {B : Nat → Nat} {len cc : Nat}
theorem m16f (x : Int32) (MY : eM) (K : eM → Option (Int32 × eM)) (h5 : ¬ x = 5) (h6 : ¬ x = 6) (h7 : ¬ x = 7) (h2 : ¬ x = 2) (hp : pb x 0 4 = 0) : ea_ci (fX11_readClause_16 x MY) (nx0 K) = fX11_fails 1 MY := by
  unfold fX11_readClause_16
  rw [if_neg h5, if_neg h6, if_neg h7, if_neg h2, py_in, hp, ev_ci, if_pos rfl, ckf, ci_fail]
theorem jClause (hc : pn_c cc) {MX MY : eM} {p : Nat} (h : Sc MX MY B len p) (hD : DR MX MY cc B) (hr : MX.2.2 3 3 = cc) : JO cc (fX2_readClause MX) (ea_ci (fX11_readClause MY) (nx0 mcl)) MX MY (CL p (MX.1 cc 4) cc B len) := by
  have sN : ∀ a, a < 10 → ¬ tky B len p = some (cwx a) → fX2_says a MX = some (0, MX) := fun a ha hn => by
    have := h.says (a := a) ha
    rw [if_neg hn] at this
    exact this
  have sY : ∀ a, a < 10 → tky B len p = some (cwx a) → fX2_says a MX = some (1, MX) := fun a ha hn => by
    have := h.says (a := a) ha
    rw [if_pos hn] at this
    exact this
  obtain ⟨hp, hX, ⟨x4, x7, x6⟩, hY, t6, t5, t3, -, t4⟩ := id h
  have eK : fX11_readClause MY = fX11_readClause_16 (enc id (tky B len p)) MY := by
    obtain ⟨-, -, -, b4, -⟩ := tE_b (B := B) hp
    have hm := ms_eq _ b4
    unfold fX11_readClause fX11_readClause_0
    rw [t3]
    by_cases hk : tK B len p = 1
    · rw [if_pos (by rw [hm.1.mpr hk]; rfl), (t4 hk).1]
      unfold tky
      rw [if_pos hk]
    · rw [if_neg (by rw [show (1 : Int32) = nI 1 from rfl, pn_eqI (by omega) (by omega)]; exact fun e => hk (hm.1.mp e))]
      unfold tky
      rw [if_neg hk]
      rfl
  rw [eK]
  unfold fX2_readClause fX2_readClause_0
  cases hk : tky B len p with
  | none =>
    rw [sN 0 (by decide) (by rw [hk]; decide), ev_ci, if_pos rfl, sN 1 (by decide) (by rw [hk]; decide), ev_ci, if_pos rfl, sN 2 (by decide) (by rw [hk]; decide), ev_ci, if_pos rfl, sN 3 (by decide) (by rw [hk]; decide), ev_ci, if_pos rfl, sN 4 (by decide) (by rw [hk]; decide), ev_ci, if_pos rfl, sN 5 (by decide) (by rw [hk]; decide), ev_ci, if_pos rfl, sN 6 (by decide) (by rw [hk]; decide), ev_ci, if_pos rfl, sN 8 (by decide) (by rw [hk]; decide), ev_ci, if_pos rfl, ckr]
    have e := m16f (-1) MY mcl (by decide) (by decide) (by decide) (by decide) (by decide)
    have e : ea_ci (fX11_readClause_16 (enc id none) MY) (nx0 mcl) = _ := e
    rw [e]
    exact JO.fail 1 x7 t5
  | some w =>
    have hw := tky_b hk
    rcases (show w = 0 ∨ w = 1 ∨ w = 2 ∨ w = 3 ∨ w = 4 ∨ w = 5 ∨ w = 6 ∨ w = 7 ∨ w = 8 ∨ w = 9 by omega) with e | e | e | e | e | e | e | e | e | e <;> subst e
    · rw [sY 0 (by decide) hk, ev_ci, if_neg (show ¬ (1 : Int32) = 0 by decide)]
      exact jSize hc h hD hr
    · rw [sN 0 (by decide) (by rw [hk]; decide), ev_ci, if_pos rfl, sY 1 (by decide) hk, ev_ci, if_neg (show ¬ (1 : Int32) = 0 by decide)]
      exact jSlack hc h hD hr
    · rw [sN 0 (by decide) (by rw [hk]; decide), ev_ci, if_pos rfl, sN 1 (by decide) (by rw [hk]; decide), ev_ci, if_pos rfl, sY 2 (by decide) hk, ev_ci, if_neg (show ¬ (1 : Int32) = 0 by decide)]
      have e : fX11_readClause_16 (enc id (some 2)) MY = ea_ci (fX11_readMended MY) (fun r M => ea_ck (ea_01 r) (some (r, M))) := by
        unfold fX11_readClause_16
        rw [if_neg (show ¬ enc id (some 2) = (5 : Int32) by decide), if_neg (show ¬ enc id (some 2) = (6 : Int32) by decide), if_neg (show ¬ enc id (some 2) = (7 : Int32) by decide), if_pos (show enc id (some 2) = (2 : Int32) from rfl)]
      rw [e]
      exact jMend hc h hD hr
    · rw [sN 0 (by decide) (by rw [hk]; decide), ev_ci, if_pos rfl, sN 1 (by decide) (by rw [hk]; decide), ev_ci, if_pos rfl, sN 2 (by decide) (by rw [hk]; decide), ev_ci, if_pos rfl, sY 3 (by decide) hk, ev_ci, if_neg (show ¬ (1 : Int32) = 0 by decide)]
      exact jMost hc h hD hr
    · rw [sN 0 (by decide) (by rw [hk]; decide), ev_ci, if_pos rfl, sN 1 (by decide) (by rw [hk]; decide), ev_ci, if_pos rfl, sN 2 (by decide) (by rw [hk]; decide), ev_ci, if_pos rfl, sN 3 (by decide) (by rw [hk]; decide), ev_ci, if_pos rfl, sY 4 (by decide) hk, ev_ci, if_neg (show ¬ (1 : Int32) = 0 by decide)]
      exact jBright hc h hD hr
    · rw [sN 0 (by decide) (by rw [hk]; decide), ev_ci, if_pos rfl, sN 1 (by decide) (by rw [hk]; decide), ev_ci, if_pos rfl, sN 2 (by decide) (by rw [hk]; decide), ev_ci, if_pos rfl, sN 3 (by decide) (by rw [hk]; decide), ev_ci, if_pos rfl, sN 4 (by decide) (by rw [hk]; decide), ev_ci, if_pos rfl, sY 5 (by decide) hk, ev_ci, if_neg (show ¬ (1 : Int32) = 0 by decide)]
      have e : fX11_readClause_16 (enc id (some 5)) MY = ea_ci (fX11_readStuff MY) (fun r M => ea_ck (ea_01 r) (some (r, M))) := by
        unfold fX11_readClause_16
        rw [if_pos (show enc id (some 5) = (5 : Int32) from rfl)]
      rw [e, ci_w2]
      exact jStuff hc h hD hr
    · rw [sN 0 (by decide) (by rw [hk]; decide), ev_ci, if_pos rfl, sN 1 (by decide) (by rw [hk]; decide), ev_ci, if_pos rfl, sN 2 (by decide) (by rw [hk]; decide), ev_ci, if_pos rfl, sN 3 (by decide) (by rw [hk]; decide), ev_ci, if_pos rfl, sN 4 (by decide) (by rw [hk]; decide), ev_ci, if_pos rfl, sN 5 (by decide) (by rw [hk]; decide), ev_ci, if_pos rfl, sN 6 (by decide) (by rw [hk]; decide), ev_ci, if_pos rfl, sY 8 (by decide) hk, ev_ci, if_neg (show ¬ (1 : Int32) = 0 by decide)]
      have e : fX11_readClause_16 (enc id (some 6)) MY = ea_ci (fX11_readStory MY) (fun r M => ea_ck (ea_01 r) (some (r, M))) := by
        unfold fX11_readClause_16
        rw [if_neg (show ¬ enc id (some 6) = (5 : Int32) by decide), if_pos (show enc id (some 6) = (6 : Int32) from rfl)]
      have j := jTale hc h hD hr
      rw [e, ci_w2, j.ck.1]
      exact j
    · rw [sN 0 (by decide) (by rw [hk]; decide), ev_ci, if_pos rfl, sN 1 (by decide) (by rw [hk]; decide), ev_ci, if_pos rfl, sN 2 (by decide) (by rw [hk]; decide), ev_ci, if_pos rfl, sN 3 (by decide) (by rw [hk]; decide), ev_ci, if_pos rfl, sN 4 (by decide) (by rw [hk]; decide), ev_ci, if_pos rfl, sN 5 (by decide) (by rw [hk]; decide), ev_ci, if_pos rfl, sY 6 (by decide) hk, ev_ci, if_neg (show ¬ (1 : Int32) = 0 by decide)]
      have e : fX11_readClause_16 (enc id (some 7)) MY = ea_ci (fX11_readEye MY) (fun r M => ea_ck (ea_01 r) (some (r, M))) := by
        unfold fX11_readClause_16
        rw [if_neg (show ¬ enc id (some 7) = (5 : Int32) by decide), if_neg (show ¬ enc id (some 7) = (6 : Int32) by decide), if_pos (show enc id (some 7) = (7 : Int32) from rfl)]
      rw [e, ci_w2]
      exact jEye hc h hD hr
    · rw [sN 0 (by decide) (by rw [hk]; decide), ev_ci, if_pos rfl, sN 1 (by decide) (by rw [hk]; decide), ev_ci, if_pos rfl, sN 2 (by decide) (by rw [hk]; decide), ev_ci, if_pos rfl, sN 3 (by decide) (by rw [hk]; decide), ev_ci, if_pos rfl, sN 4 (by decide) (by rw [hk]; decide), ev_ci, if_pos rfl, sN 5 (by decide) (by rw [hk]; decide), ev_ci, if_pos rfl, sN 6 (by decide) (by rw [hk]; decide), ev_ci, if_pos rfl, sN 8 (by decide) (by rw [hk]; decide), ev_ci, if_pos rfl, ckr, m16f (enc id (some 8)) MY mcl (by decide) (by decide) (by decide) (by decide) (by decide)]
      exact JO.fail 1 x7 t5
    · rw [sN 0 (by decide) (by rw [hk]; decide), ev_ci, if_pos rfl, sN 1 (by decide) (by rw [hk]; decide), ev_ci, if_pos rfl, sN 2 (by decide) (by rw [hk]; decide), ev_ci, if_pos rfl, sN 3 (by decide) (by rw [hk]; decide), ev_ci, if_pos rfl, sN 4 (by decide) (by rw [hk]; decide), ev_ci, if_pos rfl, sN 5 (by decide) (by rw [hk]; decide), ev_ci, if_pos rfl, sN 6 (by decide) (by rw [hk]; decide), ev_ci, if_pos rfl, sN 8 (by decide) (by rw [hk]; decide), ev_ci, if_pos rfl, ckr, m16f (enc id (some 9)) MY mcl (by decide) (by decide) (by decide) (by decide) (by decide)]
      exact JO.fail 1 x7 t5
end DP
