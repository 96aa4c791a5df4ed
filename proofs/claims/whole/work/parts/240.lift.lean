theorem st_Z {fx fm : eM → Option (Int32 × eM)} (h : ea_st Inv fx fm) (zx : ∀ M res, fx M = some res → ScZ M res.2) (zm : ∀ M res, fm M = some res → ScZ M res.2) : ea_st InvZ fx fm := by
  intro M hM
  obtain ⟨r, M1, M2, e1, e2, hI⟩ := h M hM.1
  refine ⟨r, M1, M2, e1, e2, hI, fun k hk => ?_⟩
  have f := (zx _ _ e1).trans (zm _ _ e2)
  rw [show M2.1 52 _ = _ from f 52 (135 + k) rfl, show M2.1 62 _ = _ from f 62 (135 + k) rfl]
  exact hM.2 k hk
theorem st_Z0 {fx fm : eM → Option (Int32 × eM)} (h : ea_stZ fx fm) : ea_st InvZ fx fm := by
  intro M hM
  obtain ⟨r, M1, M2, e1, e2, hI, f⟩ := h M hM.1
  refine ⟨r, M1, M2, e1, e2, hI, fun k hk => ?_⟩
  rw [f 52 (135 + k) (Or.inl rfl), f 62 (135 + k) (Or.inr rfl)]
  exact hM.2 k hk
theorem sz_feed (a0 a1 a2 a3 a4 : Int32) : ea_st InvZ (fX10_feed a0 a1 a2 a3 a4) (fX11_feed a0 a1 a2 a3 a4) := st_Z (st_feed a0 a1 a2 a3 a4) (fun _ _ h => zX10_feed h) (fun _ _ h => zX11_feed h)
theorem sz_end (a0 : Int32) : ea_st InvZ (fX10_end a0) (fX11_end a0) := st_Z (st_end a0) (fun _ _ h => zX10_end h) (fun _ _ h => zX11_end h)
theorem sz_fault (a0 : Int32) : ea_st InvZ (fX10_fault a0) (fX11_fault a0) := st_Z (st_fault a0) (fun _ _ h => zX10_fault h) (fun _ _ h => zX11_fault h)
theorem sz_told (a0 : Int32) : ea_st InvZ (fX10_told a0) (fX11_told a0) := st_Z (st_told a0) (fun _ _ h => zX10_told h) (fun _ _ h => zX11_told h)
theorem sz_strength (a0 a1 : Int32) : ea_st InvZ (fX10_strength a0 a1) (fX11_strength a0 a1) := st_Z (st_strength a0 a1) (fun _ _ h => zX10_strength h) (fun _ _ h => zX11_strength h)
theorem sz_hours (a0 a1 a2 a3 : Int32) : ea_st InvZ (fX10_hours a0 a1 a2 a3) (fX11_hours a0 a1 a2 a3) := st_Z (st_hours a0 a1 a2 a3) (fun _ _ h => zX10_hours h) (fun _ _ h => zX11_hours h)
theorem sz_thread (a0 a1 a2 a3 : Int32) : ea_st InvZ (fX10_thread a0 a1 a2 a3) (fX11_thread a0 a1 a2 a3) := st_Z (st_thread a0 a1 a2 a3) (fun _ _ h => zX10_thread h) (fun _ _ h => zX11_thread h)
theorem sz_colour (a0 a1 a2 : Int32) : ea_st InvZ (fX10_colour a0 a1 a2) (fX11_colour a0 a1 a2) := st_Z (st_colour a0 a1 a2) (fun _ _ h => zX10_colour h) (fun _ _ h => zX11_colour h)
theorem sz_look (a0 a1 a2 a3 a4 a5 : Int32) : ea_st InvZ (fX10_look a0 a1 a2 a3 a4 a5) (fX11_look a0 a1 a2 a3 a4 a5) := st_Z (st_look a0 a1 a2 a3 a4 a5) (fun _ _ h => zX10_look h) (fun _ _ h => zX11_look h)
theorem sz_gone (a0 a1 a2 : Int32) : ea_st InvZ (fX10_gone a0 a1 a2) (fX11_gone a0 a1 a2) := st_Z (st_gone a0 a1 a2) (fun _ _ h => zX10_gone h) (fun _ _ h => zX11_gone h)
theorem sz_attempt (a0 a1 a2 a3 a4 a5 : Int32) : ea_st InvZ (fX10_attempt a0 a1 a2 a3 a4 a5) (fX11_attempt a0 a1 a2 a3 a4 a5) := st_Z (st_attempt a0 a1 a2 a3 a4 a5) (fun _ _ h => zX10_attempt h) (fun _ _ h => zX11_attempt h)
theorem sz_right (a0 a1 a2 a3 a4 : Int32) : ea_st InvZ (fX10_right a0 a1 a2 a3 a4) (fX11_right a0 a1 a2 a3 a4) := st_Z (st_right a0 a1 a2 a3 a4) (fun _ _ h => zX10_right h) (fun _ _ h => zX11_right h)
theorem sz_shows (a0 a1 a2 a3 : Int32) : ea_st InvZ (fX10_shows a0 a1 a2 a3) (fX11_shows a0 a1 a2 a3) := st_Z (st_shows a0 a1 a2 a3) (fun _ _ h => zX10_shows h) (fun _ _ h => zX11_shows h)
theorem sz_count (a0 : Int32) : ea_st InvZ (fX10_count a0) (fX11_count a0) := st_Z (st_count a0) (fun _ _ h => zX10_count h) (fun _ _ h => zX11_count h)
theorem sz_keep (a0 : Int32) : ea_st InvZ (fX10_keep a0) (fX11_keep a0) := st_Z0 (st_keep0 a0)
theorem sz_take (a0 : Int32) : ea_st InvZ (fX10_take a0) (fX11_take a0) := st_Z0 (st_take0 a0)
