def sm (f : Nat → Nat) : Nat → Nat
  | 0 => 0
  | k + 1 => sm f k + f k
theorem sm_le {f : Nat → Nat} {b : Nat} : ∀ k, (∀ j, j < k → f j ≤ b) → sm f k ≤ k * b
  | 0, _ => by simp [sm]
  | k + 1, h => by
    have h1 := sm_le k (fun j hj => h j (by omega))
    have h2 := h k (by omega)
    rw [Nat.succ_mul]
    show sm f k + f k ≤ _
    omega
def sp_bg (v : Nat → Nat → Nat) (s i : Nat) : Nat := sm (fun j => v 4 (4 * (6 * s + j))) i
def sp_yr (v : Nat → Nat → Nat) (s year i : Nat) : Nat := sp_bg v s (i + 1) - (if year ≤ sp_bg v s i then sp_bg v s i else year)
def sp_lt (n : Nat → Nat) (v : Nat → Nat → Nat) (s col i : Nat) : Nat := if n 0 ≤ 1 then v 4 (4 * (6 * s + i) + 1) else sp_lgt (v 4 (4 * (6 * s + i) + 1)) (v 4 (4 * (6 * s + i) + 2)) col (n 0 - 1)
def sp_one (n : Nat → Nat) (v : Nat → Nat → Nat) (s col year side i : Nat) : Nat := if side = 0 then sp_yr v s year i * sp_lt n v s col i else sp_yr v s year i * sp_lt n v s col i * v 4 (4 * (6 * s + i) + 3) / 100
def sp_hours (n : Nat → Nat) (v : Nat → Nat → Nat) (s col year side : Nat) : Nat := sm (sp_one n v s col year side) (v 3 s)
theorem pn_hang {n : Nat → Nat} {v : Nat → Nat → Nat} (ho : pn_ok n v) {s : Nat} (hs : s < n 5) : (1 ≤ v 3 s ∧ v 3 s ≤ 6) ∧ ∀ i, i < v 3 s → (1 ≤ v 4 (4 * (6 * s + i)) ∧ v 4 (4 * (6 * s + i)) ≤ 400) ∧ v 4 (4 * (6 * s + i) + 1) ≤ 99 ∧ v 4 (4 * (6 * s + i) + 2) ≤ 99 ∧ v 4 (4 * (6 * s + i) + 3) ≤ 100 := ho.2.2.2.2.2.2.2.2.2.2.2.2.2.1 s hs
theorem sp_bg_le {n : Nat → Nat} {v : Nat → Nat → Nat} (ho : pn_ok n v) {s i : Nat} (hs : s < n 5) (hi : i ≤ v 3 s) : sp_bg v s i ≤ 2400 := by
  have h := pn_hang ho hs
  have h1 := sm_le (f := fun j => v 4 (4 * (6 * s + j))) (b := 400) i (fun j hj => ((h.2 j (by omega)).1).2)
  unfold sp_bg
  omega
theorem sp_yr_le {n : Nat → Nat} {v : Nat → Nat → Nat} (ho : pn_ok n v) {s i year : Nat} (hs : s < n 5) (hi : i < v 3 s) : sp_yr v s year i ≤ 400 := by
  have h := (pn_hang ho hs).2 i hi
  unfold sp_yr
  have e : sp_bg v s (i + 1) = sp_bg v s i + v 4 (4 * (6 * s + i)) := rfl
  split <;> omega
theorem sp_lt_le {n : Nat → Nat} {v : Nat → Nat → Nat} (ho : pn_ok n v) {s i col : Nat} (hs : s < n 5) (hi : i < v 3 s) (hc : col < n 0) : sp_lt n v s col i ≤ 99 := by
  have h := (pn_hang ho hs).2 i hi
  unfold sp_lt
  split
  · omega
  · exact sp_lgt_le h.2.1 h.2.2.1 (by omega)
theorem sp_g_le {n : Nat → Nat} {v : Nat → Nat → Nat} (ho : pn_ok n v) {s i col year : Nat} (hs : s < n 5) (hi : i < v 3 s) (hc : col < n 0) : sp_yr v s year i * sp_lt n v s col i ≤ 39600 := by
  have := Nat.mul_le_mul (sp_yr_le (year := year) ho hs hi) (sp_lt_le ho hs hi hc)
  omega
theorem sp_g2_le {n : Nat → Nat} {v : Nat → Nat → Nat} (ho : pn_ok n v) {s i col year : Nat} (hs : s < n 5) (hi : i < v 3 s) (hc : col < n 0) : sp_yr v s year i * sp_lt n v s col i * v 4 (4 * (6 * s + i) + 3) ≤ 3960000 := by
  have := Nat.mul_le_mul (sp_g_le (year := year) ho hs hi hc) ((pn_hang ho hs).2 i hi).2.2.2
  omega
theorem sp_one_le {n : Nat → Nat} {v : Nat → Nat → Nat} (ho : pn_ok n v) {s i col year side : Nat} (hs : s < n 5) (hi : i < v 3 s) (hc : col < n 0) : sp_one n v s col year side i ≤ 39600 := by
  have h1 := sp_g_le (year := year) ho hs hi hc
  have h2 := sp_g2_le (year := year) ho hs hi hc
  unfold sp_one
  split
  · exact h1
  · omega
theorem sp_sum_le {n : Nat → Nat} {v : Nat → Nat → Nat} (ho : pn_ok n v) {s i col year side : Nat} (hs : s < n 5) (hi : i ≤ v 3 s) (hc : col < n 0) : sm (sp_one n v s col year side) i ≤ 237600 := by
  have h := pn_hang ho hs
  have := sm_le (f := sp_one n v s col year side) (b := 39600) i (fun j hj => sp_one_le ho hs (by omega) hc)
  omega
theorem sp_hours_le {n : Nat → Nat} {v : Nat → Nat → Nat} (ho : pn_ok n v) {s col year side : Nat} (hs : s < n 5) (hc : col < n 0) : sp_hours n v s col year side ≤ 237600 := sp_sum_le ho hs (Nat.le_refl _) hc
theorem px_light {M : eM} {c : Nat} {n : Nat → Nat} {v : Nat → Nat → Nat} (hX : pn_X M c n v) (ho : pn_ok n v) {l r col : Nat} (hl : l ≤ 99) (hr : r ≤ 99) (hc : col < n 0) : fX1_lightAt c (nI l) (nI r) (nI col) M = some (nI (if n 0 ≤ 1 then l else sp_lgt l r col (n 0 - 1)), M) := by
  have h0 := ho.1
  unfold fX1_lightAt fX1_lightAt_0
  rw [hX.1.1, show (1 : Int32) = nI 1 from rfl, pn_ile (by omega) (by decide)]
  by_cases h : n 0 ≤ 1
  · rw [if_pos h, if_pos h]
  · rw [if_neg h, if_neg h, pk_sub (by omega), ea_ck_t (pn_nz (by omega) (by omega)), pz_light hl hr (by omega) (by omega) (by omega)]
theorem pz_yr {b y e : Nat} (hb : b ≤ 2400) (hy : y ≤ 2400) (he : e ≤ 3000) : ea_max 0 (nI e - ea_max (nI b) (nI y)) = nI (e - (if y ≤ b then b else y)) := by
  have e1 : ea_max (nI b) (nI y) = nI (if y ≤ b then b else y) := by
    unfold ea_max
    rw [pn_ilt (by omega) (by omega)]
    by_cases h : y ≤ b
    · rw [if_pos h, if_neg (by omega)]
    · rw [if_neg h, if_pos (by omega)]
  rw [e1]
  generalize hz : (if y ≤ b then b else y) = z
  have hz2 : z ≤ 2400 := by rw [← hz]; split <;> omega
  unfold ea_max
  by_cases h : z ≤ e
  · rw [pk_sub h]
    by_cases h0 : e - z = 0
    · rw [h0]; rfl
    · rw [if_pos (show (0 : Int32) < nI (e - z) from (nI_ltI (a := 0) (by decide) (by omega)).mpr (by omega))]
  · have hn := pk_sneg (a := e) (b := z) (by omega) (by omega)
    rw [if_neg (fun q => absurd (Int32.lt_trans q hn) (Int32.lt_irrefl)), show e - z = 0 by omega]
    rfl
theorem px_hours_loop {M : eM} {c : Nat} {n : Nat → Nat} {v : Nat → Nat → Nat} (hc : pn_c c) (hX : pn_X M c n v) (ho : pn_ok n v) {s col year side : Nat} (hs : s < n 5) (hcol : col < n 0) (hy : year ≤ 999) (hsd : side ≤ 1) :
    ∀ (k i : Nat), i ≤ v 3 s → v 3 s < i + k → fX1_hoursOf_9 c k (nI s) (nI col) (nI year) (nI side) (nI (sm (sp_one n v s col year side) i)) (nI (sp_bg v s i)) (nI i) M = some (nI (sp_hours n v s col year side), M) := by
  intro k
  induction k with
  | zero => intro i h1 h2; omega
  | succ k ih =>
    intro i h1 h2
    have hh := pn_hang ho hs
    have h5 := ho.2.2.2.2.2.1
    have b1 := sp_bg_le ho hs h1
    have b2 := sp_sum_le (side := side) (year := year) ho hs h1 hcol
    rw [fX1_hoursOf_9, pn_l6 hc, pn_l7 hc, ea_ck_t (pn_ix (by omega) (by decide)), nI_clamp (by omega), hX.2.2.2.2.1 s hs, pn_ile (by omega) (by omega)]
    by_cases hi : v 3 s ≤ i
    · rw [if_pos hi]
      have e : i = v 3 s := by omega
      subst e
      rfl
    · rw [if_neg hi]
      have hi2 : i < v 3 s := by omega
      obtain ⟨⟨q1, q2⟩, q3, q4, q5⟩ := hh.2 i hi2
      have hp : fX1_hangPlace (nI s) (nI i) M = some (nI (4 * (6 * s + i)), M) := by
        unfold fX1_hangPlace fX1_hangPlace_0
        rw [show (6 : Int32) = nI 6 from rfl, show (4 : Int32) = nI 4 from rfl, pk_mul, nI_add, pk_mul, Nat.mul_comm s 6, Nat.mul_comm _ 4]
      have g0 : M.1 (c + 7) (4 * (6 * s + i)) = nI (v 4 (4 * (6 * s + i))) := hX.2.2.2.2.2.1 s i 0 hs hi2 (by decide)
      have g1 := hX.2.2.2.2.2.1 s i 1 hs hi2 (by decide)
      have g2 := hX.2.2.2.2.2.1 s i 2 hs hi2 (by decide)
      have g3 := hX.2.2.2.2.2.1 s i 3 hs hi2 (by decide)
      have r1 : nI (4 * (6 * s + i)) + 1 = nI (4 * (6 * s + i) + 1) := nI_add _ 1
      have r2 : nI (4 * (6 * s + i)) + 2 = nI (4 * (6 * s + i) + 2) := nI_add _ 2
      have r3 : nI (4 * (6 * s + i)) + 3 = nI (4 * (6 * s + i) + 3) := nI_add _ 3
      have ebg : sp_bg v s i + v 4 (4 * (6 * s + i)) = sp_bg v s (i + 1) := rfl
      have b3 := sp_bg_le ho hs (i := i + 1) (by omega)
      have c1 := sp_g_le (year := year) ho hs hi2 hcol
      have c2 := sp_g2_le (year := year) ho hs hi2 hcol
      have ei : nI i + 1 = nI (i + 1) := nI_add i 1
      have esm : sm (sp_one n v s col year side) i + sp_one n v s col year side i = sm (sp_one n v s col year side) (i + 1) := rfl
      rw [ea_ci_t hp, ea_ck_t (pn_ix (by omega) (by decide)), r1, r2, r3, nI_clamp (by omega), nI_clamp (by omega), nI_clamp (by omega), nI_clamp (by omega), g0, ea_lt_t, nI_add, ebg, ea_lt_t, pz_yr (by omega) (by omega) (by omega), ea_ck_t (pn_ix (by omega) (by decide)), ea_ck_t (pn_ix (by omega) (by decide)), g1, g2, ea_ci_t (px_light hX ho q3 q4 hcol)]
      have eY : sp_bg v s (i + 1) - (if year ≤ sp_bg v s i then sp_bg v s i else year) = sp_yr v s year i := rfl
      have eL : (if n 0 ≤ 1 then v 4 (4 * (6 * s + i) + 1) else sp_lgt (v 4 (4 * (6 * s + i) + 1)) (v 4 (4 * (6 * s + i) + 2)) col (n 0 - 1)) = sp_lt n v s col i := rfl
      rw [eY, eL, pk_mul, g3, show (0 : Int32) = nI 0 from rfl, pn_ieq (by omega) (by decide)]
      by_cases hz : side = 0
      · rw [if_pos hz]
        unfold fX1_hoursOf_110
        rw [nI_add, ei, show sp_yr v s year i * sp_lt n v s col i = sp_one n v s col year side i from (if_pos hz).symm, esm]
        exact ih (i + 1) (by omega) (by omega)
      · rw [if_neg hz, ea_ck_t (pn_ix (by omega) (by decide))]
        unfold fX1_hoursOf_110
        rw [pk_mul, show (100 : Int32) = nI 100 from rfl, pk_div (by omega) (by decide) (by decide), nI_add, ei, show sp_yr v s year i * sp_lt n v s col i * v 4 (4 * (6 * s + i) + 3) / 100 = sp_one n v s col year side i from (if_neg hz).symm, esm]
        exact ih (i + 1) (by omega) (by omega)
theorem px_hours {M : eM} {c : Nat} {n : Nat → Nat} {v : Nat → Nat → Nat} (hc : pn_c c) (hX : pn_X M c n v) (ho : pn_ok n v) {s col year side : Nat} (hs : s < n 5) (hcol : col < n 0) (hy : year ≤ 999) (hsd : side ≤ 1) : fX1_hoursOf c (nI s) (nI col) (nI year) (nI side) M = some (nI (sp_hours n v s col year side), M) := by
  have hh := (pn_hang ho hs).1
  exact px_hours_loop hc hX ho hs hcol hy hsd ea_N 0 (by omega) (by unfold ea_N; omega)
theorem py_light {M : eM} {n : Nat → Nat} {v : Nat → Nat → Nat} (hY : pn_Y M n v) (ho : pn_ok n v) {s i col : Nat} (hs : s < n 5) (hi : i < v 3 s) (hc : col < n 0) : fX11_lightAt (nI (6 * s + i)) (nI col) M = some (nI (sp_lt n v s col i), M) := by
  have h0 := ho.1
  have h5 := ho.2.2.2.2.2.1
  have hh := pn_hang ho hs
  obtain ⟨-, q3, q4, -⟩ := hh.2 i hi
  have g1 := hY.2.2.2.2.2.1 s i 1 hs hi (by decide)
  have g2 := hY.2.2.2.2.2.1 s i 2 hs hi (by decide)
  have l : ea_len 108 = 192 := rfl
  have z : (0 : Int32).toNatClampNeg = 0 := rfl
  unfold fX11_lightAt fX11_lightAt_0 sp_lt
  rw [show (4 : Int32) = nI 4 from rfl, show (1 : Int32) = nI 1 from rfl, show (2 : Int32) = nI 2 from rfl, pk_mul, nI_add, nI_add, l, z, ea_ck_t (pn_ix (by omega) (by decide)), nI_clamp (by omega), nI_clamp (by omega), g1, ea_lt_t, hY.1.1, pn_ieq (by omega) (by decide)]
  by_cases h : n 0 = 1
  · rw [if_pos h, if_pos (by omega)]
  · rw [if_neg h, if_neg (by omega), ea_ck_t (pn_ix (by omega) (by decide)), pk_sub (by omega), ea_ck_t (pn_nz (by omega) (by omega)), g2, pz_light q3 q4 (by omega) (by omega) (by omega)]
theorem py_hours_loop {M : eM} {n : Nat → Nat} {v : Nat → Nat → Nat} (hY : pn_Y M n v) (ho : pn_ok n v) {s col year side : Nat} (hs : s < n 5) (hcol : col < n 0) (hy : year ≤ 999) (hsd : side ≤ 1) :
    ∀ (k i : Nat), i ≤ v 3 s → v 3 s < i + k → fX11_hoursOf_9 k (nI s) (nI col) (nI year) (nI side) (nI (sm (sp_one n v s col year side) i)) (nI (sp_bg v s i)) (nI i) M = some (nI (sp_hours n v s col year side), M) := by
  intro k
  induction k with
  | zero => intro i h1 h2; omega
  | succ k ih =>
    intro i h1 h2
    have hh := pn_hang ho hs
    have h5 := ho.2.2.2.2.2.1
    have b1 := sp_bg_le ho hs h1
    have b2 := sp_sum_le (side := side) (year := year) ho hs h1 hcol
    have l7 : ea_len 107 = 8 := rfl
    have l8 : ea_len 108 = 192 := rfl
    rw [fX11_hoursOf_9, l7, l8, ea_ck_t (pn_ix (by omega) (by decide)), nI_clamp (by omega), hY.2.2.2.2.1 s hs, pn_ile (by omega) (by omega)]
    by_cases hi : v 3 s ≤ i
    · rw [if_pos hi]
      have e : i = v 3 s := by omega
      subst e
      rfl
    · rw [if_neg hi]
      have hi2 : i < v 3 s := by omega
      obtain ⟨⟨q1, q2⟩, q3, q4, q5⟩ := hh.2 i hi2
      have g0 : M.1 108 (4 * (6 * s + i)) = nI (v 4 (4 * (6 * s + i))) := hY.2.2.2.2.2.1 s i 0 hs hi2 (by decide)
      have g3 := hY.2.2.2.2.2.1 s i 3 hs hi2 (by decide)
      have ebg : sp_bg v s i + v 4 (4 * (6 * s + i)) = sp_bg v s (i + 1) := rfl
      have b3 := sp_bg_le ho hs (i := i + 1) (by omega)
      have c1 := sp_g_le (year := year) ho hs hi2 hcol
      have c2 := sp_g2_le (year := year) ho hs hi2 hcol
      have ei : nI i + 1 = nI (i + 1) := nI_add i 1
      have esm : sm (sp_one n v s col year side) i + sp_one n v s col year side i = sm (sp_one n v s col year side) (i + 1) := rfl
      have tail : ∀ g : Nat, g = sp_yr v s year i * sp_lt n v s col i → fX11_hoursOf_79 (fX11_hoursOf_9 k) (nI s) (nI col) (nI year) (nI side) (nI (sm (sp_one n v s col year side) i)) (nI i) (nI (6 * s + i)) (nI (sp_bg v s (i + 1))) (nI g) M = some (nI (sp_hours n v s col year side), M) := by
        intro g hg
        unfold fX11_hoursOf_79
        rw [show (0 : Int32) = nI 0 from rfl, pn_ieq (by omega) (by decide)]
        by_cases hz : side = 0
        · rw [if_pos hz]
          unfold fX11_hoursOf_110
          rw [nI_add, ei, hg, show sp_yr v s year i * sp_lt n v s col i = sp_one n v s col year side i from (if_pos hz).symm, esm]
          exact ih (i + 1) (by omega) (by omega)
        · rw [if_neg hz, show (4 : Int32) = nI 4 from rfl, pk_mul, show (3 : Int32) = nI 3 from rfl, nI_add, l8, ea_ck_t (pn_ix (by omega) (by decide)), nI_clamp (by omega), g3]
          unfold fX11_hoursOf_110
          rw [pk_mul, hg, show (100 : Int32) = nI 100 from rfl, pk_div (by omega) (by decide) (by decide), nI_add, ei, show sp_yr v s year i * sp_lt n v s col i * v 4 (4 * (6 * s + i) + 3) / 100 = sp_one n v s col year side i from (if_neg hz).symm, esm]
          exact ih (i + 1) (by omega) (by omega)
      have mid : ∀ z : Nat, z = (if year ≤ sp_bg v s i then sp_bg v s i else year) → z ≤ 2400 → fX11_hoursOf_57 (fX11_hoursOf_9 k) (nI s) (nI col) (nI year) (nI side) (nI (sm (sp_one n v s col year side) i)) (nI i) (nI (6 * s + i)) (nI (sp_bg v s (i + 1))) (nI z) (nI (sp_bg v s (i + 1))) M = some (nI (sp_hours n v s col year side), M) := by
        intro z hz hz2
        unfold fX11_hoursOf_57
        have eY : sp_yr v s year i = sp_bg v s (i + 1) - z := by rw [hz]; rfl
        by_cases hle : z < sp_bg v s (i + 1)
        · rw [pk_sub (by omega), show (0 : Int32) = nI 0 from rfl, pn_ile (by omega) (by decide), if_neg (by omega), ea_ci_t (py_light hY ho hs hi2 hcol), pk_mul]
          exact tail _ (by rw [eY])
        · have hneg : nI (sp_bg v s (i + 1)) - nI z ≤ 0 := by
            by_cases he : sp_bg v s (i + 1) = z
            · rw [he, pk_sub (Nat.le_refl _), Nat.sub_self]; decide
            · exact Int32.le_of_lt (pk_sneg (by omega) (by omega))
          rw [if_pos hneg]
          exact tail 0 (by rw [eY, show sp_bg v s (i + 1) - z = 0 by omega, Nat.zero_mul])
      rw [show (6 : Int32) = nI 6 from rfl, show (4 : Int32) = nI 4 from rfl, pk_mul, nI_add, pk_mul, ea_ck_t (pn_ix (by omega) (by decide)), nI_clamp (by omega), g0, nI_add, ebg, ea_lt_t, pn_ile (by omega) (by omega)]
      by_cases hyb : year ≤ sp_bg v s i
      · rw [if_pos hyb]
        exact mid _ (by rw [if_pos hyb]) (by omega)
      · rw [if_neg hyb]
        exact mid _ (by rw [if_neg hyb]) (by omega)
theorem py_hours {M : eM} {n : Nat → Nat} {v : Nat → Nat → Nat} (hY : pn_Y M n v) (ho : pn_ok n v) {s col year side : Nat} (hs : s < n 5) (hcol : col < n 0) (hy : year ≤ 999) (hsd : side ≤ 1) : fX11_hoursOf (nI s) (nI col) (nI year) (nI side) M = some (nI (sp_hours n v s col year side), M) := by
  have hh := (pn_hang ho hs).1
  exact py_hours_loop hY ho hs hcol hy hsd ea_N 0 (by omega) (by unfold ea_N; omega)
