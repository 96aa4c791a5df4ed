theorem es_tab0 {s : State} {a : Array Value} {A : Nat → Prop} (hts : ∀ w ∈ lw_tbl, w.before a s = true) (hg : ∀ w ∈ flatC (Jvm.Cond.and given_1 narrow_1), w.before a s = true) (hA : ∀ q : Nat, q < s.heap.size → ¬ A q) : ∃ t : Nat, va_Z RX2 "STUFF_LEAST" "[I" (.ref t) A s s.heap ∧ va_T .int t 6 (ea_tv 0) A s s.heap := by
  obtain ⟨t, h1, h2⟩ := va_Tof (args := a) (tm := .static RX2 "STUFF_LEAST" "[I") (ty := .int) (N := 6) (f := ea_tv 0) (A := A) (by decide) (hg _ fl_10) (va_eqt (hg _ fl_11)) (fun j hj => by
    rcases (show j = 0 ∨ j = 1 ∨ j = 2 ∨ j = 3 ∨ j = 4 ∨ j = 5 by omega) with rfl | rfl | rfl | rfl | rfl | rfl
    · exact va_eqt (hg _ fl_12)
    · exact va_eqt (hg _ fl_13)
    · exact va_eqt (hg _ fl_14)
    · exact va_eqt (hg _ fl_15)
    · exact va_eqt (hg _ fl_16)
    · exact va_eqt (hg _ fl_17)) hA
  exact ⟨t, va_Zref (hts _ wS_STUFF_LEAST) (hts _ (List.mem_filter.mp wi_RX2).1) h1 hA, h2⟩
theorem es_tab1 {s : State} {a : Array Value} {A : Nat → Prop} (hts : ∀ w ∈ lw_tbl, w.before a s = true) (hg : ∀ w ∈ flatC (Jvm.Cond.and given_1 narrow_1), w.before a s = true) (hA : ∀ q : Nat, q < s.heap.size → ¬ A q) : ∃ t : Nat, va_Z RX2 "STUFF_MOST" "[I" (.ref t) A s s.heap ∧ va_T .int t 6 (ea_tv 1) A s s.heap := by
  obtain ⟨t, h1, h2⟩ := va_Tof (args := a) (tm := .static RX2 "STUFF_MOST" "[I") (ty := .int) (N := 6) (f := ea_tv 1) (A := A) (by decide) (hg _ fl_19) (va_eqt (hg _ fl_20)) (fun j hj => by
    rcases (show j = 0 ∨ j = 1 ∨ j = 2 ∨ j = 3 ∨ j = 4 ∨ j = 5 by omega) with rfl | rfl | rfl | rfl | rfl | rfl
    · exact va_eqt (hg _ fl_21)
    · exact va_eqt (hg _ fl_22)
    · exact va_eqt (hg _ fl_23)
    · exact va_eqt (hg _ fl_24)
    · exact va_eqt (hg _ fl_25)
    · exact va_eqt (hg _ fl_26)) hA
  exact ⟨t, va_Zref (hts _ wS_STUFF_MOST) (hts _ (List.mem_filter.mp wi_RX2).1) h1 hA, h2⟩
theorem es_tab2 {s : State} {a : Array Value} {A : Nat → Prop} (hts : ∀ w ∈ lw_tbl, w.before a s = true) (hg : ∀ w ∈ flatC (Jvm.Cond.and given_1 narrow_1), w.before a s = true) (hA : ∀ q : Nat, q < s.heap.size → ¬ A q) : ∃ t : Nat, va_Z RX2 "HANG_LEAST" "[I" (.ref t) A s s.heap ∧ va_T .int t 4 (ea_tv 2) A s s.heap := by
  obtain ⟨t, h1, h2⟩ := va_Tof (args := a) (tm := .static RX2 "HANG_LEAST" "[I") (ty := .int) (N := 4) (f := ea_tv 2) (A := A) (by decide) (hg _ fl_28) (va_eqt (hg _ fl_29)) (fun j hj => by
    rcases (show j = 0 ∨ j = 1 ∨ j = 2 ∨ j = 3 by omega) with rfl | rfl | rfl | rfl
    · exact va_eqt (hg _ fl_30)
    · exact va_eqt (hg _ fl_31)
    · exact va_eqt (hg _ fl_32)
    · exact va_eqt (hg _ fl_33)) hA
  exact ⟨t, va_Zref (hts _ wS_HANG_LEAST) (hts _ (List.mem_filter.mp wi_RX2).1) h1 hA, h2⟩
theorem es_tab3 {s : State} {a : Array Value} {A : Nat → Prop} (hts : ∀ w ∈ lw_tbl, w.before a s = true) (hg : ∀ w ∈ flatC (Jvm.Cond.and given_1 narrow_1), w.before a s = true) (hA : ∀ q : Nat, q < s.heap.size → ¬ A q) : ∃ t : Nat, va_Z RX2 "HANG_MOST" "[I" (.ref t) A s s.heap ∧ va_T .int t 4 (ea_tv 3) A s s.heap := by
  obtain ⟨t, h1, h2⟩ := va_Tof (args := a) (tm := .static RX2 "HANG_MOST" "[I") (ty := .int) (N := 4) (f := ea_tv 3) (A := A) (by decide) (hg _ fl_35) (va_eqt (hg _ fl_36)) (fun j hj => by
    rcases (show j = 0 ∨ j = 1 ∨ j = 2 ∨ j = 3 by omega) with rfl | rfl | rfl | rfl
    · exact va_eqt (hg _ fl_37)
    · exact va_eqt (hg _ fl_38)
    · exact va_eqt (hg _ fl_39)
    · exact va_eqt (hg _ fl_40)) hA
  exact ⟨t, va_Zref (hts _ wS_HANG_MOST) (hts _ (List.mem_filter.mp wi_RX2).1) h1 hA, h2⟩
def es_tm : Nat → Term := fun i => [.string RX2 83, .string RX2 99, .string RX2 104, .string RX2 109, .string RX2 114, .string RX2 123, .string RX2 128, .string RX2 191, .string RX2 133, .string RX2 202, .string RX11 116].getD i (.string RX2 83)
theorem es_ex {s : State} {a : Array Value} (hg : ∀ w ∈ flatC (Jvm.Cond.and given_1 narrow_1), w.before a s = true) : ∀ i : Nat, i < 11 → (Cond.exactly (es_tm i) "java/lang/String").before a s = true := by
  intro i hi
  rcases (show i = 0 ∨ i = 1 ∨ i = 2 ∨ i = 3 ∨ i = 4 ∨ i = 5 ∨ i = 6 ∨ i = 7 ∨ i = 8 ∨ i = 9 ∨ i = 10 by omega) with rfl | rfl | rfl | rfl | rfl | rfl | rfl | rfl | rfl | rfl | rfl
  · exact hg _ fl_41
  · exact hg _ fl_50
  · exact hg _ fl_60
  · exact hg _ fl_72
  · exact hg _ fl_83
  · exact hg _ fl_97
  · exact hg _ fl_111
  · exact hg _ fl_124
  · exact hg _ fl_139
  · exact hg _ fl_156
  · exact hg _ fl_173
theorem es_co {s : State} {a : Array Value} (hg : ∀ w ∈ flatC (Jvm.Cond.and given_1 narrow_1), w.before a s = true) : ∀ i : Nat, i < 11 → (Cond.eq (.field (es_tm i) "java/lang/String" "coder" "B") (.int 0)).before a s = true := by
  intro i hi
  rcases (show i = 0 ∨ i = 1 ∨ i = 2 ∨ i = 3 ∨ i = 4 ∨ i = 5 ∨ i = 6 ∨ i = 7 ∨ i = 8 ∨ i = 9 ∨ i = 10 by omega) with rfl | rfl | rfl | rfl | rfl | rfl | rfl | rfl | rfl | rfl | rfl
  · exact hg _ fl_42
  · exact hg _ fl_51
  · exact hg _ fl_61
  · exact hg _ fl_73
  · exact hg _ fl_84
  · exact hg _ fl_98
  · exact hg _ fl_112
  · exact hg _ fl_125
  · exact hg _ fl_140
  · exact hg _ fl_157
  · exact hg _ fl_174
theorem es_ar {s : State} {a : Array Value} (hg : ∀ w ∈ flatC (Jvm.Cond.and given_1 narrow_1), w.before a s = true) : ∀ i : Nat, i < 11 → (Cond.arrayOf (.field (es_tm i) "java/lang/String" "value" "[B") .byte).before a s = true := by
  intro i hi
  rcases (show i = 0 ∨ i = 1 ∨ i = 2 ∨ i = 3 ∨ i = 4 ∨ i = 5 ∨ i = 6 ∨ i = 7 ∨ i = 8 ∨ i = 9 ∨ i = 10 by omega) with rfl | rfl | rfl | rfl | rfl | rfl | rfl | rfl | rfl | rfl | rfl
  · exact hg _ fl_43
  · exact hg _ fl_52
  · exact hg _ fl_62
  · exact hg _ fl_74
  · exact hg _ fl_85
  · exact hg _ fl_99
  · exact hg _ fl_113
  · exact hg _ fl_126
  · exact hg _ fl_141
  · exact hg _ fl_158
  · exact hg _ fl_175
theorem es_le {s : State} {a : Array Value} (hg : ∀ w ∈ flatC (Jvm.Cond.and given_1 narrow_1), w.before a s = true) : ∀ i : Nat, i < 11 → (Cond.eq (.length (.field (es_tm i) "java/lang/String" "value" "[B")) (.int (Int32.ofNat (ea_sl.getD i 0)))).before a s = true := by
  intro i hi
  rcases (show i = 0 ∨ i = 1 ∨ i = 2 ∨ i = 3 ∨ i = 4 ∨ i = 5 ∨ i = 6 ∨ i = 7 ∨ i = 8 ∨ i = 9 ∨ i = 10 by omega) with rfl | rfl | rfl | rfl | rfl | rfl | rfl | rfl | rfl | rfl | rfl
  · exact hg _ fl_44
  · exact hg _ fl_53
  · exact hg _ fl_63
  · exact hg _ fl_75
  · exact hg _ fl_86
  · exact hg _ fl_100
  · exact hg _ fl_114
  · exact hg _ fl_127
  · exact hg _ fl_142
  · exact hg _ fl_159
  · exact hg _ fl_176
theorem es_el0 {s : State} {a : Array Value} (hg : ∀ w ∈ flatC (Jvm.Cond.and given_1 narrow_1), w.before a s = true) : ∀ j : Nat, j < 5 → (Cond.eq (.elem (.field (es_tm 0) "java/lang/String" "value" "[B") (.int (Int32.ofNat j))) (.int ((ea_sb.getD 0 []).getD j 0))).before a s = true := by
  intro j hj
  rcases (show j = 0 ∨ j = 1 ∨ j = 2 ∨ j = 3 ∨ j = 4 by omega) with rfl | rfl | rfl | rfl | rfl
  · exact hg _ fl_45
  · exact hg _ fl_46
  · exact hg _ fl_47
  · exact hg _ fl_48
  · exact hg _ fl_49
theorem es_el1 {s : State} {a : Array Value} (hg : ∀ w ∈ flatC (Jvm.Cond.and given_1 narrow_1), w.before a s = true) : ∀ j : Nat, j < 5 → (Cond.eq (.elem (.field (es_tm 1) "java/lang/String" "value" "[B") (.int (Int32.ofNat j))) (.int ((ea_sb.getD 1 []).getD j 0))).before a s = true := by
  intro j hj
  rcases (show j = 0 ∨ j = 1 ∨ j = 2 ∨ j = 3 ∨ j = 4 by omega) with rfl | rfl | rfl | rfl | rfl
  · exact hg _ fl_54
  · exact hg _ fl_55
  · exact hg _ fl_56
  · exact hg _ fl_57
  · exact hg _ fl_58
theorem es_el2 {s : State} {a : Array Value} (hg : ∀ w ∈ flatC (Jvm.Cond.and given_1 narrow_1), w.before a s = true) : ∀ j : Nat, j < 6 → (Cond.eq (.elem (.field (es_tm 2) "java/lang/String" "value" "[B") (.int (Int32.ofNat j))) (.int ((ea_sb.getD 2 []).getD j 0))).before a s = true := by
  intro j hj
  rcases (show j = 0 ∨ j = 1 ∨ j = 2 ∨ j = 3 ∨ j = 4 ∨ j = 5 by omega) with rfl | rfl | rfl | rfl | rfl | rfl
  · exact hg _ fl_64
  · exact hg _ fl_65
  · exact hg _ fl_66
  · exact hg _ fl_67
  · exact hg _ fl_68
  · exact hg _ fl_69
theorem es_el3 {s : State} {a : Array Value} (hg : ∀ w ∈ flatC (Jvm.Cond.and given_1 narrow_1), w.before a s = true) : ∀ j : Nat, j < 4 → (Cond.eq (.elem (.field (es_tm 3) "java/lang/String" "value" "[B") (.int (Int32.ofNat j))) (.int ((ea_sb.getD 3 []).getD j 0))).before a s = true := by
  intro j hj
  rcases (show j = 0 ∨ j = 1 ∨ j = 2 ∨ j = 3 by omega) with rfl | rfl | rfl | rfl
  · exact hg _ fl_76
  · exact hg _ fl_77
  · exact hg _ fl_78
  · exact hg _ fl_79
theorem es_el4 {s : State} {a : Array Value} (hg : ∀ w ∈ flatC (Jvm.Cond.and given_1 narrow_1), w.before a s = true) : ∀ j : Nat, j < 6 → (Cond.eq (.elem (.field (es_tm 4) "java/lang/String" "value" "[B") (.int (Int32.ofNat j))) (.int ((ea_sb.getD 4 []).getD j 0))).before a s = true := by
  intro j hj
  rcases (show j = 0 ∨ j = 1 ∨ j = 2 ∨ j = 3 ∨ j = 4 ∨ j = 5 by omega) with rfl | rfl | rfl | rfl | rfl | rfl
  · exact hg _ fl_87
  · exact hg _ fl_88
  · exact hg _ fl_89
  · exact hg _ fl_90
  · exact hg _ fl_91
  · exact hg _ fl_92
theorem es_el5 {s : State} {a : Array Value} (hg : ∀ w ∈ flatC (Jvm.Cond.and given_1 narrow_1), w.before a s = true) : ∀ j : Nat, j < 5 → (Cond.eq (.elem (.field (es_tm 5) "java/lang/String" "value" "[B") (.int (Int32.ofNat j))) (.int ((ea_sb.getD 5 []).getD j 0))).before a s = true := by
  intro j hj
  rcases (show j = 0 ∨ j = 1 ∨ j = 2 ∨ j = 3 ∨ j = 4 by omega) with rfl | rfl | rfl | rfl | rfl
  · exact hg _ fl_101
  · exact hg _ fl_102
  · exact hg _ fl_103
  · exact hg _ fl_104
  · exact hg _ fl_105
theorem es_el6 {s : State} {a : Array Value} (hg : ∀ w ∈ flatC (Jvm.Cond.and given_1 narrow_1), w.before a s = true) : ∀ j : Nat, j < 3 → (Cond.eq (.elem (.field (es_tm 6) "java/lang/String" "value" "[B") (.int (Int32.ofNat j))) (.int ((ea_sb.getD 6 []).getD j 0))).before a s = true := by
  intro j hj
  rcases (show j = 0 ∨ j = 1 ∨ j = 2 by omega) with rfl | rfl | rfl
  · exact hg _ fl_115
  · exact hg _ fl_116
  · exact hg _ fl_117
theorem es_el7 {s : State} {a : Array Value} (hg : ∀ w ∈ flatC (Jvm.Cond.and given_1 narrow_1), w.before a s = true) : ∀ j : Nat, j < 4 → (Cond.eq (.elem (.field (es_tm 7) "java/lang/String" "value" "[B") (.int (Int32.ofNat j))) (.int ((ea_sb.getD 7 []).getD j 0))).before a s = true := by
  intro j hj
  rcases (show j = 0 ∨ j = 1 ∨ j = 2 ∨ j = 3 by omega) with rfl | rfl | rfl | rfl
  · exact hg _ fl_128
  · exact hg _ fl_129
  · exact hg _ fl_130
  · exact hg _ fl_131
theorem es_el8 {s : State} {a : Array Value} (hg : ∀ w ∈ flatC (Jvm.Cond.and given_1 narrow_1), w.before a s = true) : ∀ j : Nat, j < 5 → (Cond.eq (.elem (.field (es_tm 8) "java/lang/String" "value" "[B") (.int (Int32.ofNat j))) (.int ((ea_sb.getD 8 []).getD j 0))).before a s = true := by
  intro j hj
  rcases (show j = 0 ∨ j = 1 ∨ j = 2 ∨ j = 3 ∨ j = 4 by omega) with rfl | rfl | rfl | rfl | rfl
  · exact hg _ fl_143
  · exact hg _ fl_144
  · exact hg _ fl_145
  · exact hg _ fl_146
  · exact hg _ fl_147
theorem es_el9 {s : State} {a : Array Value} (hg : ∀ w ∈ flatC (Jvm.Cond.and given_1 narrow_1), w.before a s = true) : ∀ j : Nat, j < 4 → (Cond.eq (.elem (.field (es_tm 9) "java/lang/String" "value" "[B") (.int (Int32.ofNat j))) (.int ((ea_sb.getD 9 []).getD j 0))).before a s = true := by
  intro j hj
  rcases (show j = 0 ∨ j = 1 ∨ j = 2 ∨ j = 3 by omega) with rfl | rfl | rfl | rfl
  · exact hg _ fl_160
  · exact hg _ fl_161
  · exact hg _ fl_162
  · exact hg _ fl_163
theorem es_el10 {s : State} {a : Array Value} (hg : ∀ w ∈ flatC (Jvm.Cond.and given_1 narrow_1), w.before a s = true) : ∀ j : Nat, j < 57 → (Cond.eq (.elem (.field (es_tm 10) "java/lang/String" "value" "[B") (.int (Int32.ofNat j))) (.int ((ea_sb.getD 10 []).getD j 0))).before a s = true := by
  intro j hj
  rcases (show j = 0 ∨ j = 1 ∨ j = 2 ∨ j = 3 ∨ j = 4 ∨ j = 5 ∨ j = 6 ∨ j = 7 ∨ j = 8 ∨ j = 9 ∨ j = 10 ∨ j = 11 ∨ j = 12 ∨ j = 13 ∨ j = 14 ∨ j = 15 ∨ j = 16 ∨ j = 17 ∨ j = 18 ∨ j = 19 ∨ j = 20 ∨ j = 21 ∨ j = 22 ∨ j = 23 ∨ j = 24 ∨ j = 25 ∨ j = 26 ∨ j = 27 ∨ j = 28 ∨ j = 29 ∨ j = 30 ∨ j = 31 ∨ j = 32 ∨ j = 33 ∨ j = 34 ∨ j = 35 ∨ j = 36 ∨ j = 37 ∨ j = 38 ∨ j = 39 ∨ j = 40 ∨ j = 41 ∨ j = 42 ∨ j = 43 ∨ j = 44 ∨ j = 45 ∨ j = 46 ∨ j = 47 ∨ j = 48 ∨ j = 49 ∨ j = 50 ∨ j = 51 ∨ j = 52 ∨ j = 53 ∨ j = 54 ∨ j = 55 ∨ j = 56 by omega) with rfl | rfl | rfl | rfl | rfl | rfl | rfl | rfl | rfl | rfl | rfl | rfl | rfl | rfl | rfl | rfl | rfl | rfl | rfl | rfl | rfl | rfl | rfl | rfl | rfl | rfl | rfl | rfl | rfl | rfl | rfl | rfl | rfl | rfl | rfl | rfl | rfl | rfl | rfl | rfl | rfl | rfl | rfl | rfl | rfl | rfl | rfl | rfl | rfl | rfl | rfl | rfl | rfl | rfl | rfl | rfl | rfl
  · exact hg _ fl_177
  · exact hg _ fl_178
  · exact hg _ fl_179
  · exact hg _ fl_180
  · exact hg _ fl_181
  · exact hg _ fl_182
  · exact hg _ fl_183
  · exact hg _ fl_184
  · exact hg _ fl_185
  · exact hg _ fl_186
  · exact hg _ fl_187
  · exact hg _ fl_188
  · exact hg _ fl_189
  · exact hg _ fl_190
  · exact hg _ fl_191
  · exact hg _ fl_192
  · exact hg _ fl_193
  · exact hg _ fl_194
  · exact hg _ fl_195
  · exact hg _ fl_196
  · exact hg _ fl_197
  · exact hg _ fl_198
  · exact hg _ fl_199
  · exact hg _ fl_200
  · exact hg _ fl_201
  · exact hg _ fl_202
  · exact hg _ fl_203
  · exact hg _ fl_204
  · exact hg _ fl_205
  · exact hg _ fl_206
  · exact hg _ fl_207
  · exact hg _ fl_208
  · exact hg _ fl_209
  · exact hg _ fl_210
  · exact hg _ fl_211
  · exact hg _ fl_212
  · exact hg _ fl_213
  · exact hg _ fl_214
  · exact hg _ fl_215
  · exact hg _ fl_216
  · exact hg _ fl_217
  · exact hg _ fl_218
  · exact hg _ fl_219
  · exact hg _ fl_220
  · exact hg _ fl_221
  · exact hg _ fl_222
  · exact hg _ fl_223
  · exact hg _ fl_224
  · exact hg _ fl_225
  · exact hg _ fl_226
  · exact hg _ fl_227
  · exact hg _ fl_228
  · exact hg _ fl_229
  · exact hg _ fl_230
  · exact hg _ fl_231
  · exact hg _ fl_232
  · exact hg _ fl_233
theorem es_ne0 {s : State} {a : Array Value} (hg : ∀ w ∈ flatC (Jvm.Cond.and given_1 narrow_1), w.before a s = true) : ∀ j : Nat, j < 11 → 0 ≠ j → (Cond.not (Cond.eq (es_tm 0) (es_tm j))).before a s = true ∨ (Cond.not (Cond.eq (es_tm j) (es_tm 0))).before a s = true := by
  intro j hj hij
  rcases (show j = 0 ∨ j = 1 ∨ j = 2 ∨ j = 3 ∨ j = 4 ∨ j = 5 ∨ j = 6 ∨ j = 7 ∨ j = 8 ∨ j = 9 ∨ j = 10 by omega) with rfl | rfl | rfl | rfl | rfl | rfl | rfl | rfl | rfl | rfl | rfl
  · exact absurd rfl hij
  · exact Or.inl (hg _ fl_59)
  · exact Or.inl (hg _ fl_70)
  · exact Or.inl (hg _ fl_80)
  · exact Or.inl (hg _ fl_93)
  · exact Or.inl (hg _ fl_106)
  · exact Or.inl (hg _ fl_118)
  · exact Or.inl (hg _ fl_132)
  · exact Or.inl (hg _ fl_148)
  · exact Or.inl (hg _ fl_164)
  · exact Or.inl (hg _ fl_234)
theorem es_ne1 {s : State} {a : Array Value} (hg : ∀ w ∈ flatC (Jvm.Cond.and given_1 narrow_1), w.before a s = true) : ∀ j : Nat, j < 11 → 1 ≠ j → (Cond.not (Cond.eq (es_tm 1) (es_tm j))).before a s = true ∨ (Cond.not (Cond.eq (es_tm j) (es_tm 1))).before a s = true := by
  intro j hj hij
  rcases (show j = 0 ∨ j = 1 ∨ j = 2 ∨ j = 3 ∨ j = 4 ∨ j = 5 ∨ j = 6 ∨ j = 7 ∨ j = 8 ∨ j = 9 ∨ j = 10 by omega) with rfl | rfl | rfl | rfl | rfl | rfl | rfl | rfl | rfl | rfl | rfl
  · exact Or.inr (hg _ fl_59)
  · exact absurd rfl hij
  · exact Or.inl (hg _ fl_71)
  · exact Or.inl (hg _ fl_81)
  · exact Or.inl (hg _ fl_94)
  · exact Or.inl (hg _ fl_107)
  · exact Or.inl (hg _ fl_119)
  · exact Or.inl (hg _ fl_133)
  · exact Or.inl (hg _ fl_149)
  · exact Or.inl (hg _ fl_165)
  · exact Or.inl (hg _ fl_235)
theorem es_ne2 {s : State} {a : Array Value} (hg : ∀ w ∈ flatC (Jvm.Cond.and given_1 narrow_1), w.before a s = true) : ∀ j : Nat, j < 11 → 2 ≠ j → (Cond.not (Cond.eq (es_tm 2) (es_tm j))).before a s = true ∨ (Cond.not (Cond.eq (es_tm j) (es_tm 2))).before a s = true := by
  intro j hj hij
  rcases (show j = 0 ∨ j = 1 ∨ j = 2 ∨ j = 3 ∨ j = 4 ∨ j = 5 ∨ j = 6 ∨ j = 7 ∨ j = 8 ∨ j = 9 ∨ j = 10 by omega) with rfl | rfl | rfl | rfl | rfl | rfl | rfl | rfl | rfl | rfl | rfl
  · exact Or.inr (hg _ fl_70)
  · exact Or.inr (hg _ fl_71)
  · exact absurd rfl hij
  · exact Or.inl (hg _ fl_82)
  · exact Or.inl (hg _ fl_95)
  · exact Or.inl (hg _ fl_108)
  · exact Or.inl (hg _ fl_120)
  · exact Or.inl (hg _ fl_134)
  · exact Or.inl (hg _ fl_150)
  · exact Or.inl (hg _ fl_166)
  · exact Or.inl (hg _ fl_236)
theorem es_ne3 {s : State} {a : Array Value} (hg : ∀ w ∈ flatC (Jvm.Cond.and given_1 narrow_1), w.before a s = true) : ∀ j : Nat, j < 11 → 3 ≠ j → (Cond.not (Cond.eq (es_tm 3) (es_tm j))).before a s = true ∨ (Cond.not (Cond.eq (es_tm j) (es_tm 3))).before a s = true := by
  intro j hj hij
  rcases (show j = 0 ∨ j = 1 ∨ j = 2 ∨ j = 3 ∨ j = 4 ∨ j = 5 ∨ j = 6 ∨ j = 7 ∨ j = 8 ∨ j = 9 ∨ j = 10 by omega) with rfl | rfl | rfl | rfl | rfl | rfl | rfl | rfl | rfl | rfl | rfl
  · exact Or.inr (hg _ fl_80)
  · exact Or.inr (hg _ fl_81)
  · exact Or.inr (hg _ fl_82)
  · exact absurd rfl hij
  · exact Or.inl (hg _ fl_96)
  · exact Or.inl (hg _ fl_109)
  · exact Or.inl (hg _ fl_121)
  · exact Or.inl (hg _ fl_135)
  · exact Or.inl (hg _ fl_151)
  · exact Or.inl (hg _ fl_167)
  · exact Or.inl (hg _ fl_237)
theorem es_ne4 {s : State} {a : Array Value} (hg : ∀ w ∈ flatC (Jvm.Cond.and given_1 narrow_1), w.before a s = true) : ∀ j : Nat, j < 11 → 4 ≠ j → (Cond.not (Cond.eq (es_tm 4) (es_tm j))).before a s = true ∨ (Cond.not (Cond.eq (es_tm j) (es_tm 4))).before a s = true := by
  intro j hj hij
  rcases (show j = 0 ∨ j = 1 ∨ j = 2 ∨ j = 3 ∨ j = 4 ∨ j = 5 ∨ j = 6 ∨ j = 7 ∨ j = 8 ∨ j = 9 ∨ j = 10 by omega) with rfl | rfl | rfl | rfl | rfl | rfl | rfl | rfl | rfl | rfl | rfl
  · exact Or.inr (hg _ fl_93)
  · exact Or.inr (hg _ fl_94)
  · exact Or.inr (hg _ fl_95)
  · exact Or.inr (hg _ fl_96)
  · exact absurd rfl hij
  · exact Or.inl (hg _ fl_110)
  · exact Or.inl (hg _ fl_122)
  · exact Or.inl (hg _ fl_136)
  · exact Or.inl (hg _ fl_152)
  · exact Or.inl (hg _ fl_168)
  · exact Or.inl (hg _ fl_238)
theorem es_ne5 {s : State} {a : Array Value} (hg : ∀ w ∈ flatC (Jvm.Cond.and given_1 narrow_1), w.before a s = true) : ∀ j : Nat, j < 11 → 5 ≠ j → (Cond.not (Cond.eq (es_tm 5) (es_tm j))).before a s = true ∨ (Cond.not (Cond.eq (es_tm j) (es_tm 5))).before a s = true := by
  intro j hj hij
  rcases (show j = 0 ∨ j = 1 ∨ j = 2 ∨ j = 3 ∨ j = 4 ∨ j = 5 ∨ j = 6 ∨ j = 7 ∨ j = 8 ∨ j = 9 ∨ j = 10 by omega) with rfl | rfl | rfl | rfl | rfl | rfl | rfl | rfl | rfl | rfl | rfl
  · exact Or.inr (hg _ fl_106)
  · exact Or.inr (hg _ fl_107)
  · exact Or.inr (hg _ fl_108)
  · exact Or.inr (hg _ fl_109)
  · exact Or.inr (hg _ fl_110)
  · exact absurd rfl hij
  · exact Or.inl (hg _ fl_123)
  · exact Or.inl (hg _ fl_137)
  · exact Or.inl (hg _ fl_153)
  · exact Or.inl (hg _ fl_169)
  · exact Or.inl (hg _ fl_239)
theorem es_ne6 {s : State} {a : Array Value} (hg : ∀ w ∈ flatC (Jvm.Cond.and given_1 narrow_1), w.before a s = true) : ∀ j : Nat, j < 11 → 6 ≠ j → (Cond.not (Cond.eq (es_tm 6) (es_tm j))).before a s = true ∨ (Cond.not (Cond.eq (es_tm j) (es_tm 6))).before a s = true := by
  intro j hj hij
  rcases (show j = 0 ∨ j = 1 ∨ j = 2 ∨ j = 3 ∨ j = 4 ∨ j = 5 ∨ j = 6 ∨ j = 7 ∨ j = 8 ∨ j = 9 ∨ j = 10 by omega) with rfl | rfl | rfl | rfl | rfl | rfl | rfl | rfl | rfl | rfl | rfl
  · exact Or.inr (hg _ fl_118)
  · exact Or.inr (hg _ fl_119)
  · exact Or.inr (hg _ fl_120)
  · exact Or.inr (hg _ fl_121)
  · exact Or.inr (hg _ fl_122)
  · exact Or.inr (hg _ fl_123)
  · exact absurd rfl hij
  · exact Or.inl (hg _ fl_138)
  · exact Or.inl (hg _ fl_154)
  · exact Or.inl (hg _ fl_170)
  · exact Or.inl (hg _ fl_240)
theorem es_ne7 {s : State} {a : Array Value} (hg : ∀ w ∈ flatC (Jvm.Cond.and given_1 narrow_1), w.before a s = true) : ∀ j : Nat, j < 11 → 7 ≠ j → (Cond.not (Cond.eq (es_tm 7) (es_tm j))).before a s = true ∨ (Cond.not (Cond.eq (es_tm j) (es_tm 7))).before a s = true := by
  intro j hj hij
  rcases (show j = 0 ∨ j = 1 ∨ j = 2 ∨ j = 3 ∨ j = 4 ∨ j = 5 ∨ j = 6 ∨ j = 7 ∨ j = 8 ∨ j = 9 ∨ j = 10 by omega) with rfl | rfl | rfl | rfl | rfl | rfl | rfl | rfl | rfl | rfl | rfl
  · exact Or.inr (hg _ fl_132)
  · exact Or.inr (hg _ fl_133)
  · exact Or.inr (hg _ fl_134)
  · exact Or.inr (hg _ fl_135)
  · exact Or.inr (hg _ fl_136)
  · exact Or.inr (hg _ fl_137)
  · exact Or.inr (hg _ fl_138)
  · exact absurd rfl hij
  · exact Or.inl (hg _ fl_155)
  · exact Or.inl (hg _ fl_171)
  · exact Or.inl (hg _ fl_241)
theorem es_ne8 {s : State} {a : Array Value} (hg : ∀ w ∈ flatC (Jvm.Cond.and given_1 narrow_1), w.before a s = true) : ∀ j : Nat, j < 11 → 8 ≠ j → (Cond.not (Cond.eq (es_tm 8) (es_tm j))).before a s = true ∨ (Cond.not (Cond.eq (es_tm j) (es_tm 8))).before a s = true := by
  intro j hj hij
  rcases (show j = 0 ∨ j = 1 ∨ j = 2 ∨ j = 3 ∨ j = 4 ∨ j = 5 ∨ j = 6 ∨ j = 7 ∨ j = 8 ∨ j = 9 ∨ j = 10 by omega) with rfl | rfl | rfl | rfl | rfl | rfl | rfl | rfl | rfl | rfl | rfl
  · exact Or.inr (hg _ fl_148)
  · exact Or.inr (hg _ fl_149)
  · exact Or.inr (hg _ fl_150)
  · exact Or.inr (hg _ fl_151)
  · exact Or.inr (hg _ fl_152)
  · exact Or.inr (hg _ fl_153)
  · exact Or.inr (hg _ fl_154)
  · exact Or.inr (hg _ fl_155)
  · exact absurd rfl hij
  · exact Or.inl (hg _ fl_172)
  · exact Or.inl (hg _ fl_242)
theorem es_ne9 {s : State} {a : Array Value} (hg : ∀ w ∈ flatC (Jvm.Cond.and given_1 narrow_1), w.before a s = true) : ∀ j : Nat, j < 11 → 9 ≠ j → (Cond.not (Cond.eq (es_tm 9) (es_tm j))).before a s = true ∨ (Cond.not (Cond.eq (es_tm j) (es_tm 9))).before a s = true := by
  intro j hj hij
  rcases (show j = 0 ∨ j = 1 ∨ j = 2 ∨ j = 3 ∨ j = 4 ∨ j = 5 ∨ j = 6 ∨ j = 7 ∨ j = 8 ∨ j = 9 ∨ j = 10 by omega) with rfl | rfl | rfl | rfl | rfl | rfl | rfl | rfl | rfl | rfl | rfl
  · exact Or.inr (hg _ fl_164)
  · exact Or.inr (hg _ fl_165)
  · exact Or.inr (hg _ fl_166)
  · exact Or.inr (hg _ fl_167)
  · exact Or.inr (hg _ fl_168)
  · exact Or.inr (hg _ fl_169)
  · exact Or.inr (hg _ fl_170)
  · exact Or.inr (hg _ fl_171)
  · exact Or.inr (hg _ fl_172)
  · exact absurd rfl hij
  · exact Or.inl (hg _ fl_243)
theorem es_ne10 {s : State} {a : Array Value} (hg : ∀ w ∈ flatC (Jvm.Cond.and given_1 narrow_1), w.before a s = true) : ∀ j : Nat, j < 11 → 10 ≠ j → (Cond.not (Cond.eq (es_tm 10) (es_tm j))).before a s = true ∨ (Cond.not (Cond.eq (es_tm j) (es_tm 10))).before a s = true := by
  intro j hj hij
  rcases (show j = 0 ∨ j = 1 ∨ j = 2 ∨ j = 3 ∨ j = 4 ∨ j = 5 ∨ j = 6 ∨ j = 7 ∨ j = 8 ∨ j = 9 ∨ j = 10 by omega) with rfl | rfl | rfl | rfl | rfl | rfl | rfl | rfl | rfl | rfl | rfl
  · exact Or.inr (hg _ fl_234)
  · exact Or.inr (hg _ fl_235)
  · exact Or.inr (hg _ fl_236)
  · exact Or.inr (hg _ fl_237)
  · exact Or.inr (hg _ fl_238)
  · exact Or.inr (hg _ fl_239)
  · exact Or.inr (hg _ fl_240)
  · exact Or.inr (hg _ fl_241)
  · exact Or.inr (hg _ fl_242)
  · exact Or.inr (hg _ fl_243)
  · exact absurd rfl hij
theorem es_F {s : State} {b : Nat} {A : Nat → Prop} (hts : ∀ w ∈ lw_tbl, w.before #[Value.ref b] s = true) (hgv : (Jvm.Cond.and given_1 narrow_1).before #[Value.ref b] s = true) (hA : ∀ q : Nat, q < s.heap.size → ¬ A q) : ∃ st : Nat → Nat, ∀ (ad : Nat → Nat) (cA : Nat → ClassId) (D : va_G), ea_F (ad, cA, D, st) A s s.heap := by
  have hg := flat_of_before _ hgv
  obtain ⟨t0, z0, y0⟩ := es_tab0 hts hg hA
  obtain ⟨t1, z1, y1⟩ := es_tab1 hts hg hA
  obtain ⟨t2, z2, y2⟩ := es_tab2 hts hg hA
  obtain ⟨t3, z3, y3⟩ := es_tab3 hts hg hA
  obtain ⟨adK, adV, hS, hev⟩ := vk_Sof (tm := es_tm) (N := 11) (len := ea_sl) (byt := ea_sb) (A := A) (fun i _ => ea_sl_lt i) (es_ex hg) (es_co hg) (es_ar hg) (es_le hg) (fun i hi => by
    rcases (show i = 0 ∨ i = 1 ∨ i = 2 ∨ i = 3 ∨ i = 4 ∨ i = 5 ∨ i = 6 ∨ i = 7 ∨ i = 8 ∨ i = 9 ∨ i = 10 by omega) with rfl | rfl | rfl | rfl | rfl | rfl | rfl | rfl | rfl | rfl | rfl
    · exact es_el0 hg
    · exact es_el1 hg
    · exact es_el2 hg
    · exact es_el3 hg
    · exact es_el4 hg
    · exact es_el5 hg
    · exact es_el6 hg
    · exact es_el7 hg
    · exact es_el8 hg
    · exact es_el9 hg
    · exact es_el10 hg) (fun i j hi hj hij => by
    rcases (show i = 0 ∨ i = 1 ∨ i = 2 ∨ i = 3 ∨ i = 4 ∨ i = 5 ∨ i = 6 ∨ i = 7 ∨ i = 8 ∨ i = 9 ∨ i = 10 by omega) with rfl | rfl | rfl | rfl | rfl | rfl | rfl | rfl | rfl | rfl | rfl
    · exact es_ne0 hg j hj hij
    · exact es_ne1 hg j hj hij
    · exact es_ne2 hg j hj hij
    · exact es_ne3 hg j hj hij
    · exact es_ne4 hg j hj hij
    · exact es_ne5 hg j hj hij
    · exact es_ne6 hg j hj hij
    · exact es_ne7 hg j hj hij
    · exact es_ne8 hg j hj hij
    · exact es_ne9 hg j hj hij
    · exact es_ne10 hg j hj hij) hA
  refine ⟨fun k => if k = 0 then t0 else if k = 1 then t1 else if k = 2 then t2 else if k = 3 then t3 else if k < 30 then adK (k - 10) else adV (k - 30), fun ad cA D => ?_⟩
  refine ⟨⟨va_Nw.of rfl (hts _ wN_RX1_81), va_Nw.of rfl (hts _ wN_RX2_141)⟩, ⟨z0, y0⟩, ⟨z1, y1⟩, ⟨z2, y2⟩, ⟨z3, y3⟩, ⟨va_Zof (hts _ wS_COMPACT_STRINGS) (hts _ (List.mem_filter.mp wi_RJ0).1) (va_eqt (hg _ fl_4)) hA, va_Zqof (hts _ wS_SIOOBE_FORMATTER) (hts _ (List.mem_filter.mp wi_RJ3).1) (hg _ fl_5) hA⟩, ?_, ?_⟩
  · refine ⟨fun i hi => ?_, fun i j hi hj e => ?_⟩
    · have h := hS.1 i hi
      have e1 : (fun k : Nat => if k = 0 then t0 else if k = 1 then t1 else if k = 2 then t2 else if k = 3 then t3 else if k < 30 then adK (k - 10) else adV (k - 30)) (10 + i) = adK i := by
        show (if 10 + i = 0 then t0 else _) = _
        rw [if_neg (by omega), if_neg (by omega), if_neg (by omega), if_neg (by omega), if_pos (by omega), Nat.add_sub_cancel_left]
      have e2 : (fun k : Nat => if k = 0 then t0 else if k = 1 then t1 else if k = 2 then t2 else if k = 3 then t3 else if k < 30 then adK (k - 10) else adV (k - 30)) (30 + i) = adV i := by
        show (if 30 + i = 0 then t0 else _) = _
        rw [if_neg (by omega), if_neg (by omega), if_neg (by omega), if_neg (by omega), if_neg (by omega), Nat.add_sub_cancel_left]
      rw [← e1, ← e2] at h
      exact h
    · refine hS.2 i j hi hj ?_
      have e1 : ∀ i, i < 11 → (if 10 + i = 0 then t0 else if 10 + i = 1 then t1 else if 10 + i = 2 then t2 else if 10 + i = 3 then t3 else if 10 + i < 30 then adK (10 + i - 10) else adV (10 + i - 30)) = adK i := by
        intro i hi
        rw [if_neg (by omega), if_neg (by omega), if_neg (by omega), if_neg (by omega), if_pos (by omega), Nat.add_sub_cancel_left]
      rw [← e1 i hi, ← e1 j hj]
      exact e
  · exact ⟨vk_R.of (hts _ wR_0) (hev 0 (by decide)), vk_R.of (hts _ wR_1) (hev 1 (by decide)), vk_R.of (hts _ wR_2) (hev 2 (by decide)), vk_R.of (hts _ wR_3) (hev 3 (by decide)), vk_R.of (hts _ wR_4) (hev 4 (by decide)), vk_R.of (hts _ wR_5) (hev 5 (by decide)), vk_R.of (hts _ wR_6) (hev 6 (by decide)), vk_R.of (hts _ wR_7) (hev 7 (by decide)), vk_R.of (hts _ wR_8) (hev 8 (by decide)), vk_R.of (hts _ wR_9) (hev 9 (by decide)), vk_R.of (hts _ wR_10) (hev 10 (by decide))⟩
theorem es_arr {s : State} {a : Array Value} {ty : FieldType} (h : (Cond.arrayClass ty).before a s = true) : ∃ cA : ClassId, ArrOfT s cA ty ∧ s.vm.findClass ("[" ++ ty.toString) = some cA := by
  obtain ⟨cA, kA, comp, h1, h2, h3⟩ := Cond.arrayClass_spec h
  exact ⟨cA, fun n z => ⟨fun k h => (by cases h), kA, h2, comp, h3⟩, h1⟩
theorem es_K {s : State} {a : Array Value} (hts : ∀ w ∈ lw_tbl, w.before a s = true) : ∃ (cA : Nat → ClassId) (D : va_G), ∀ (ad st : Nat → Nat), va_K D ea_cl (ea_tys (ad, cA, D, st)) s := by
  have ht : ∀ w ∈ ea_tbl, w.before a s = true := fun w h => hts w (List.mem_filter.mp h).1
  obtain ⟨c0, i0, k0⟩ := u_known (C := RX0) (T := TX0) (N := 1) (n := 1) ht ea_ix0 (ht _ wI_0)
  obtain ⟨c1, i1, k1⟩ := u_known (C := RX1) (T := TX1) (N := 18) (n := 18) ht ea_ix1 (ht _ wI_1)
  obtain ⟨c2, i2, k2⟩ := u_known (C := RX2) (T := TX2) (N := 10) (n := 10) ht ea_ix2 (ht _ wI_2)
  obtain ⟨c3, i3, k3⟩ := u_known (C := RX3) (T := TX3) (N := 15) (n := 15) ht ea_ix3 (ht _ wI_3)
  obtain ⟨c4, i4, k4⟩ := u_known (C := RX4) (T := TX4) (N := 2) (n := 2) ht ea_ix4 (ht _ wI_4)
  obtain ⟨c5, i5, k5⟩ := u_known (C := RX5) (T := TX5) (N := 2) (n := 2) ht ea_ix5 (ht _ wI_5)
  obtain ⟨c6, i6, k6⟩ := u_known (C := RX6) (T := TX6) (N := 7) (n := 7) ht ea_ix6 (ht _ wI_6)
  obtain ⟨c7, i7, k7⟩ := u_known (C := RX7) (T := TX7) (N := 2) (n := 2) ht ea_ix7 (ht _ wI_7)
  obtain ⟨c8, i8, k8⟩ := u_known (C := RX8) (T := TX8) (N := 8) (n := 8) ht ea_ix8 (ht _ wI_8)
  obtain ⟨c9, i9, k9⟩ := u_known (C := RX9) (T := TX9) (N := 4) (n := 4) ht ea_ix9 (ht _ wI_9)
  obtain ⟨c10, i10, k10⟩ := u_known (C := RX10) (T := TX10) (N := 12) (n := 12) ht ea_ix10 (ht _ wI_10)
  obtain ⟨c11, i11, k11⟩ := u_known (C := RX11) (T := TX11) (N := 48) (n := 48) ht ea_ix11 (ht _ wI_11)
  obtain ⟨a0, r0, f0⟩ := es_arr (ht _ wa_int)
  obtain ⟨a1, r1, f1⟩ := es_arr (ht _ wa_long)
  obtain ⟨a2, r2, f2⟩ := es_arr (ht _ wa_byte)
  obtain ⟨a3, r3, f3⟩ := es_arr (ht _ wa_boolean)
  obtain ⟨comp, a4, kk, g1, -, g2, g3, g4⟩ := Cond.arrayOver_spec (args := a) (first := s) (s := s) (o := none) (idx := []) (hts _ wN_T)
  refine ⟨fun k => if k = 0 then a0 else if k = 1 then a1 else if k = 2 then a2 else if k = 3 then a3 else a4, (fun k => if k = 0 then c0 else if k = 1 then c1 else if k = 2 then c2 else if k = 3 then c3 else if k = 4 then c4 else if k = 5 then c5 else if k = 6 then c6 else if k = 7 then c7 else if k = 8 then c8 else if k = 9 then c9 else if k = 10 then c10 else  c11, fun k => if k = 0 then i0 else if k = 1 then i1 else if k = 2 then i2 else if k = 3 then i3 else if k = 4 then i4 else if k = 5 then i5 else if k = 6 then i6 else if k = 7 then i7 else if k = 8 then i8 else if k = 9 then i9 else if k = 10 then i10 else  i11), fun ad st => ⟨fun k q hq => ?_, fun k q hq => ?_⟩⟩
  · match k, hq with
    | 0, hq => cases hq; exact k0
    | 1, hq => cases hq; exact k1
    | 2, hq => cases hq; exact k2
    | 3, hq => cases hq; exact k3
    | 4, hq => cases hq; exact k4
    | 5, hq => cases hq; exact k5
    | 6, hq => cases hq; exact k6
    | 7, hq => cases hq; exact k7
    | 8, hq => cases hq; exact k8
    | 9, hq => cases hq; exact k9
    | 10, hq => cases hq; exact k10
    | 11, hq => cases hq; exact k11
    | k + 12, hq => simp [ea_cl] at hq
  · match k, hq with
    | 0, hq => cases hq; exact ⟨r0, f0⟩
    | 1, hq => cases hq; exact ⟨r1, f1⟩
    | 2, hq => cases hq; exact ⟨r2, f2⟩
    | 3, hq => cases hq; exact ⟨r3, f3⟩
    | 4, hq => cases hq; exact ⟨fun n z => ⟨fun k h => (by cases h), kk, g2, comp, g3⟩, kk, comp, g2, g3, g1, g4⟩
    | k + 5, hq => simp [ea_tys] at hq
def eb_idm : List Nat := [100, 101, 102, 103, 104, 105, 106, 107, 108, 109, 110, 111, 112, 113, 114, 115, 116, 117, 118, 119, 120, 121, 122, 123, 124, 125, 126, 127, 128, 129]
def eb_all : List Nat := eb_ids ++ eb_idm
def eb_Mall : eM := (fun c => if c < 100 then eb_MX.1 c else eb_M2.1 c, fun c => if c < 100 then eb_MX.2.1 c else eb_M2.2.1 c, fun c => if c < 100 then eb_MX.2.2 c else eb_M2.2.2 c)
theorem eb_Xall : ea_X eb_all := by
  intro c K h
  simp only [ea_rX, Bool.and_eq_true, decide_eq_true_eq, beq_iff_eq] at h
  obtain ⟨⟨h1, h2⟩, h3⟩ := h
  have hlt : c < 130 := ea_kind_lt h2 h3
  refine ⟨h2, fun j hj => ?_⟩
  have key : ∀ c, c < 130 → ea_kind c ≠ 99 → ∀ j, j < ea_sz (ea_kind c) → c + j ∈ eb_all := by decide +kernel
  rw [← h2] at hj
  exact key c hlt (by rw [h2]; exact h3) j hj
theorem eb_Yall : ea_Y eb_all := by
  intro c K h
  simp only [ea_rM, Bool.and_eq_true, decide_eq_true_eq, beq_iff_eq] at h
  obtain ⟨⟨h1, h2⟩, h3⟩ := h
  have hlt : c < 130 := ea_kind_lt h2 h3
  refine ⟨h2, fun j hj => ?_⟩
  have key : ∀ c, c < 130 → ea_kind c ≠ 99 → ∀ j, j < ea_sz (ea_kind c) → c + j ∈ eb_all := by decide +kernel
  rw [← h2] at hj
  exact key c hlt (by rw [h2]; exact h3) j hj
theorem ea_Ds {A : Nat → Prop} {E : eE} {M : eM} {ids : List Nat} (h : va_D A (ea_ws E M ids)) : va_D (ea_Ad E ids) (ea_ws E M ids) := ⟨h.1, fun k q hq => by
  unfold ea_ws at hq
  rw [List.getElem?_map] at hq
  cases hi : ids[k]? with
  | none => rw [hi] at hq; cases hq
  | some x =>
    rw [hi] at hq
    cases hq
    exact ⟨x, List.mem_of_getElem? hi, rfl⟩⟩
theorem ea_Adin {A : Nat → Prop} {E : eE} {M : eM} {ids : List Nat} (hD : va_D A (ea_ws E M ids)) : ∀ q, ea_Ad E ids q → A q := by
  rintro q ⟨x, hx, rfl⟩
  obtain ⟨q0, -, h1⟩ := ea_at (E := E) (M := M) hx
  exact hD.2 q0 _ h1
def eb_Ef (q0 q1 : Nat) (u v : Nat → Nat) (E : eE) : eE := (fun c => if c < 100 then eb_h q0 u c else eb_h q1 v (c - 100), E.2)
theorem ea_P_of {D : va_G} {E : eE} {M : eM} {ids : List Nat} {H : Heap} (h : ∀ c, c ∈ ids → va_at D ea_cl (E.1 c, ea_ent E M c) H) : va_P D ea_cl (ea_ws E M ids) H := by
  intro k q hq
  unfold ea_ws at hq
  rw [List.getElem?_map] at hq
  cases hi : ids[k]? with
  | none => rw [hi] at hq; cases hq
  | some x =>
    rw [hi] at hq
    cases hq
    exact h x (List.mem_of_getElem? hi)
theorem ea_P_to {D : va_G} {E : eE} {M : eM} {ids : List Nat} {w1 w2 : va_W} {H : Heap} (h : va_P D ea_cl (w1 ++ (ea_ws E M ids ++ w2)) H) {c : Nat} (hc : c ∈ ids) : va_at D ea_cl (E.1 c, ea_ent E M c) H := by
  have hm : (E.1 c, ea_ent E M c) ∈ w1 ++ (ea_ws E M ids ++ w2) := List.mem_append_right _ (List.mem_append_left _ (List.mem_map.mpr ⟨c, hc, rfl⟩))
  obtain ⟨k, hk⟩ := List.getElem?_of_mem hm
  exact h k _ hk
theorem ea_D_of {A : Nat → Prop} {w w' : va_W} (hD : va_D A w) (he : w'.map Prod.fst = w.map Prod.fst) : va_D A w' := by
  have hk : ∀ (k : Nat) (q : Nat × va_E), w'[k]? = some q → ∃ e : va_E, w[k]? = some (q.1, e) := by
    intro k q hq
    have h1 : (w'.map Prod.fst)[k]? = some q.1 := by rw [List.getElem?_map, hq]; rfl
    rw [he, List.getElem?_map] at h1
    cases hw : w[k]? with
    | none => rw [hw] at h1; cases h1
    | some z =>
      rw [hw] at h1
      have e : z.1 = q.1 := Option.some.inj h1
      exact ⟨z.2, by rw [← e]⟩
  refine ⟨fun i j a b ha hb hab => ?_, fun k q hq => ?_⟩
  · obtain ⟨e1, h1⟩ := hk i a ha
    obtain ⟨e2, h2⟩ := hk j b hb
    exact hD.1 i j _ _ h1 h2 hab
  · obtain ⟨e1, h1⟩ := hk k q hq
    have h2 := hD.2 k _ h1
    exact h2
theorem ea_ent_X {E E' : eE} {M : eM} {c : Nat} (h2 : E'.2 = E.2) (hc : c < 80) (h24 : ea_kind c ≠ 24) (h11 : ea_kind c ≠ 11) (hm : ∀ k, M.2.2 c k < 100) (hE : ∀ d, d < 100 → E'.1 d = E.1 d) : ea_ent E' M c = ea_ent E M c := by
  have hf : ea_fs E' M c (ea_kind c) = ea_fs E M c (ea_kind c) := by
    generalize ea_kind c = K at h11
    unfold ea_fs
    split <;> first | exact absurd rfl h11 | simp only [hE 1 (by decide), hE 3 (by decide), hE 4 (by decide), hE 30 (by decide), hE 46 (by decide), hE 50 (by decide), hE 60 (by decide), hE 70 (by decide), hE 72 (by decide), hE 78 (by decide), hE 79 (by decide), hE (c + 1) (by omega), hE (c + 2) (by omega), hE (c + 3) (by omega), hE (c + 4) (by omega), hE (c + 5) (by omega), hE (c + 6) (by omega), hE (c + 7) (by omega), hE (c + 8) (by omega), hE (c + 9) (by omega), hE _ (hm _)]
  unfold ea_ent
  rw [h2, hf]
  simp only [if_neg h24]
theorem ea_ent_Y {E E' : eE} {M : eM} {c : Nat} (h2 : E'.2 = E.2) (hc : 100 ≤ c) (hK : ea_kind c = 11 ∨ 20 ≤ ea_kind c) (h24 : ea_kind c ≠ 24) (h99 : ea_kind c ≠ 99) (hE : ∀ d, 100 ≤ d → E'.1 d = E.1 d) : ea_ent E' M c = ea_ent E M c := by
  have hf : ea_fs E' M c (ea_kind c) = ea_fs E M c (ea_kind c) := by
    rcases hK with h | h
    · rw [h]
      have hq : ∀ k, E'.1 (c + k) = E.1 (c + k) := fun k => hE _ (by omega)
      simp only [ea_fs, hq]
    · unfold ea_fs
      split <;> first | omega | rfl
  unfold ea_ent
  rw [h2, hf]
  simp only [if_neg h24]
theorem eb_fillr : ∀ (n : Nat) (a : Nat) (x1 x2 x3 : Int32) (M M' : eM), fJ7_fill_53178_5 a n x1 x2 x3 M = some M' → M'.2 = M.2 := by
  intro n
  induction n with
  | zero => intro a x1 x2 x3 M M' h; cases h
  | succ n ih =>
    intro a x1 x2 x3 M M' h
    rw [fJ7_fill_53178_5] at h
    split at h
    · cases h; rfl
    · obtain ⟨_, h⟩ := ea_ck_s h
      exact (ih _ _ _ _ _ _ h).trans rfl
theorem eb_MCr (a : Nat) : eb_MC.2.2 a = ea_0.2.2 a := by
  have h := eb_MC_ok
  unfold fX1_clear fX1_clear_0 at h
  obtain ⟨M1, h1, h2⟩ := ea_cv_s h
  unfold fJ7_fill_53178 fJ7_fill_53178_0 at h1
  have h3 := eb_fillr _ _ _ _ _ _ _ h1
  have h4 := (Option.some.inj h2).symm
  rw [h4]
  show M1.2.2 a = _
  rw [h3]
  rfl
theorem eb_Pall {q0 q1 : Nat} {u v : Nat → Nat} {E : eE} {H : Heap} (hP : va_P E.2.2.1 ea_cl (ea_ws (eb_E (eb_h q0 u) 0 E) eb_MX eb_ids ++ ea_ws (eb_E (eb_h q1 v) 100 E) eb_M2 eb_idm) H) : va_P E.2.2.1 ea_cl (ea_ws (eb_Ef q0 q1 u v E) eb_Mall eb_all) H := by
  have hEX : ∀ d, d < 100 → (eb_Ef q0 q1 u v E).1 d = (eb_E (eb_h q0 u) 0 E).1 d := fun d hd => if_pos hd
  have hEY : ∀ d, 100 ≤ d → (eb_Ef q0 q1 u v E).1 d = (eb_E (eb_h q1 v) 100 E).1 d := fun d hd => if_neg (by omega)
  refine ea_P_of (fun c hc => ?_)
  rcases List.mem_append.mp hc with h | h
  · have hlt : c < 80 := (by decide +kernel : ∀ c, c ∈ eb_ids → c < 80) c h
    have h1 := ea_P_to (w1 := []) hP h
    have eM : ea_ent (eb_Ef q0 q1 u v E) eb_Mall c = ea_ent (eb_Ef q0 q1 u v E) eb_MX c := ea_ent_congr (if_pos (by omega)) (if_pos (by omega)) (if_pos (by omega))
    rw [eM, hEX c (by omega)]
    by_cases h24 : ea_kind c = 24
    · have e46 : c = 46 := (by decide +kernel : ∀ c, c ∈ eb_ids → ea_kind c = 24 → c = 46) c h h24
      subst e46
      rw [ea_entT (E := eb_E (eb_h q0 u) 0 E) h24] at h1
      rw [ea_entT (E := eb_Ef q0 q1 u v E) h24]
      have h3 : H[(eb_E (eb_h q0 u) 0 E).1 46]? = some (vp_cell (E.2.1 4) (ea_len 46, .inr (.inr (.inr (.inr (fun j => some ((eb_E (eb_h q0 u) 0 E).1 (34 + 4 * j)))))))) := h1
      show H[(eb_E (eb_h q0 u) 0 E).1 46]? = some (vp_cell (E.2.1 4) (ea_len 46, .inr (.inr (.inr (.inr (fun j => some ((eb_Ef q0 q1 u v E).1 (34 + 4 * j))))))))
      rw [h3, vp_cell_q, vp_cell_q]
      refine congrArg some (eb_arrV (fun j hj => ?_))
      have hj3 : j < 3 := hj
      rw [hEX (34 + 4 * j) (by omega)]
    · rw [ea_ent_X (E := eb_E (eb_h q0 u) 0 E) (E' := eb_Ef q0 q1 u v E) rfl hlt h24 ((by decide +kernel : ∀ c, c ∈ eb_ids → ea_kind c ≠ 11) c h) (fun k => ?_) hEX]
      · exact h1
      · have hMC : ∀ a, eb_MC.2.2 a = ea_0.2.2 a := fun a => eb_MCr a
        show (if c = 4 then 10 else if c = 0 then 20 else if c = 3 then 20 else if 10 ≤ c then (if c < 20 then eb_MC.2.2 c k else if c < 30 then eb_MC.2.2 (c - 10) k else 0) else 0) < 100
        repeat' split
        all_goals first | decide | (rw [hMC]; exact (by decide : (0 : Nat) < 100))
  · have hge : 100 ≤ c := (by decide +kernel : ∀ c, c ∈ eb_idm → 100 ≤ c) c h
    have h1 := ea_P_to (w2 := []) (w1 := ea_ws (eb_E (eb_h q0 u) 0 E) eb_MX eb_ids) (by rw [List.append_nil]; exact hP) h
    have eM : ea_ent (eb_Ef q0 q1 u v E) eb_Mall c = ea_ent (eb_Ef q0 q1 u v E) eb_M2 c := ea_ent_congr (if_neg (by omega)) (if_neg (by omega)) (if_neg (by omega))
    rw [eM, hEY c hge, ea_ent_Y (E := eb_E (eb_h q1 v) 100 E) (E' := eb_Ef q0 q1 u v E) rfl hge ((by decide +kernel : ∀ c, c ∈ eb_idm → (ea_kind c = 11 ∨ 20 ≤ ea_kind c)) c h) ((by decide +kernel : ∀ c, c ∈ eb_idm → ea_kind c ≠ 24) c h) ((by decide +kernel : ∀ c, c ∈ eb_idm → ea_kind c ≠ 99) c h) hEY]
    exact h1
theorem eb_Dall {A : Nat → Prop} {q0 q1 : Nat} {u v : Nat → Nat} {E : eE} (hD : va_D A (ea_ws (eb_E (eb_h q0 u) 0 E) eb_MX eb_ids ++ ea_ws (eb_E (eb_h q1 v) 100 E) eb_M2 eb_idm)) : va_D A (ea_ws (eb_Ef q0 q1 u v E) eb_Mall eb_all) := by
  refine ea_D_of hD ?_
  unfold ea_ws eb_all
  rw [List.map_append, List.map_append, List.map_append, List.map_map, List.map_map, List.map_map, List.map_map]
  refine congr (congrArg _ ?_) ?_
  · exact List.map_congr_left (fun c hc => if_pos ((by decide +kernel : ∀ c, c ∈ eb_ids → c < 100) c hc))
  · exact List.map_congr_left (fun c hc => if_neg (Nat.not_lt.mpr ((by decide +kernel : ∀ c, c ∈ eb_idm → 100 ≤ c) c hc)))
def eb_d11 : List Value := [.null, .int 0, .int 0, .int 0, .int 0, .int 0, .int 0, .int 0, .int 0, .int 0, .long 0, .int 0, .null, .null, .null, .null, .null, .null, .null, .null, .int 0, .int 0, .int 0, .null, .null, .null, .null, .null, .null, .int 0, .null, .null, .null, .int 0, .int 0, .null, .null, .null, .null, .null, .null, .null, .null, .null, .null, .null, .int 0, .long 0]
theorem nX11d {l : Launch} {E : eE} {h0 sz : Nat} : eb_M l yX11_init cX11_init 1 2 29 33268 48 E [.ref h0] [(h0, .inr (11, eb_d11))] sz (fun u => ea_ws (eb_E (eb_h h0 u) 100 E) eb_M2 eb_idm) := nX11_init
set_option maxHeartbeats 8000000 in
set_option maxRecDepth 100000 in
theorem law_start {Inv : eM → Prop} (HS : ea_steps Inv) (HI : Inv eb_Mall) {p : Program} {e : Env} {s : State} {m : MethodId} {below : List Frame} {meth : Method} {c : Code} (l : Launch) {b L : Nat} {xs : Nat → Int32} (hL : L ≤ 3584) (C0 : lw_At p s m meth c b L xs) : W p l e room_1 s m #[Value.ref b] below meth c s.heap [] 0 0 (lw_Z below #[Value.ref b] s) (entryFrame m ([Value.ref b] : List Value).toArray 4) := by
  obtain ⟨hx, hb, hr, hml, hown, hts, hX0, hbl, hlocks, hgv⟩ := id C0
  have hA : ∀ q : Nat, s.heap.size ≤ q → (fun q : Nat => s.heap.size ≤ q) q := fun _ h => h
  obtain ⟨cA, D, hKa⟩ := es_K hts
  obtain ⟨st, hFa⟩ := es_F (A := fun q : Nat => s.heap.size ≤ q) hts hgv (fun q h => Nat.not_le.mpr h)
  obtain ⟨E, hE⟩ : ∃ E : eE, E = (fun _ => 0, cA, D, st) := ⟨_, rfl⟩
  have hK : va_K E.2.2.1 ea_cl (ea_tys E) s := by rw [hE]; exact hKa _ _
  have hF : ea_F E (fun q : Nat => s.heap.size ≤ q) s s.heap := by rw [hE]; exact hFa _ _ _
  have hN : eb_N s := ⟨va_Nw.of rfl (hts _ wN_RX10_9), va_Nw.of rfl (hts _ wN_RX10_43), va_Nw.of rfl (hts _ wN_RX10_66), va_Nw.of rfl (hts _ wN_RX10_73), va_Nw.of rfl (hts _ wN_RX10_80), va_AO.of (hts _ wN_T)⟩
  have C : ea_C p s m #[Value.ref b] meth c code 4 ret RL := ⟨hx, hb, hml, hown, fun w h => hts w (List.mem_filter.mp h).1, hr, hlocks⟩
  clear hE
  have hS : va_S (fun q : Nat => s.heap.size ≤ q) s.heap s.heap [] := va_S.rf
  have hP : va_P E.2.2.1 ea_cl [] s.heap := fun k q h => by simp at h
  have hD : va_D (fun q : Nat => s.heap.size ≤ q) [] := ⟨fun i j p q h => by simp at h, fun k q h => by simp at h⟩
  have hl := lv_entry ([.ref b]) (n := 4) (Nat.le_of_ble_eq_true rfl)
  rw [lg_entry_eq]
  generalize (lg_sl ([.ref b]) ++ List.replicate (4 - (lg_sl ([.ref b])).length) Slot.unset).toArray = ls at hl ⊢
  have hl : lv_has ls 4 [(0, .ref b)] := hl
  refine va_new (ci := 10) (fs := [.null, .null, .null, .null, .null, .null, .null, .null, .null, .null, .null, .null]) (C := RX10) (T := TX10) (N := 12) hx hb C.2.2.2.2.1 ea_ix10 tyX10 tyX10_ok hown (C.2.2.2.2.1 _ wgL_7) (C.2.2.2.2.1 _ wI_10) (C.2.2.2.2.1 _ wi2_RX10) hK hP hD hS hA rfl (by decide) (Nat.le_of_ble_eq_true rfl) (Nat.le_of_ble_eq_true rfl) dL_law_0 (fun q0 H hP hD hS => ?_)
  have hP : va_P E.2.2.1 ea_cl [(q0, .inr (10, [.null, .null, .null, .null, .null, .null, .null, .null, .null, .null, .null, .null]))] H := hP
  have hD : va_D (fun q : Nat => s.heap.size ≤ q) [(q0, .inr (10, [.null, .null, .null, .null, .null, .null, .null, .null, .null, .null, .null, .null]))] := hD
  refine W.widen (k := 1) (n := 12) (by decide) (by decide) ?_
  refine lv_dup hx hb dL_law_3 rfl ?_
  refine eb_join (y := yX10_init) (wc := [(q0, .inr (10, [.null, .null, .null, .null, .null, .null, .null, .null, .null, .null, .null, .null]))]) (wr := []) hK hP hD hS hA [0] [] rfl rfl (by decide) (by decide) (eb_runI (n := 0) (rest := [.ref q0]) (As := []) C (nX10_init (l := l) (E := E) (h0 := q0) (sz := H.size)) (eb_pre (wc := [(q0, .inr (10, [.null, .null, .null, .null, .null, .null, .null, .null, .null, .null, .null, .null]))]) (As := [.ref q0]) hK hP hD hS hA hF hN [0] rfl rfl (by decide)) wc2_X10_init wi2_RX10 wlL_9 wv2_X10_init rfl (by decide +kernel) (by decide) rfl hl.1 rfl (Nat.le_of_ble_eq_true rfl) dL_law_4 ⟨Nat.le_of_ble_eq_true rfl, Nat.le_of_ble_eq_true rfl⟩) (fun u H locs hP hD hS => ?_)
  have hP : va_P E.2.2.1 ea_cl (ea_ws (eb_E (eb_h q0 u) 0 E) eb_MX eb_ids) H := hP
  have hD : va_D (fun q : Nat => s.heap.size ≤ q) (ea_ws (eb_E (eb_h q0 u) 0 E) eb_MX eb_ids) := hD
  refine W.widen (k := 100) (n := 20000) (by decide) (by decide) ?_
  refine lv_astore_n (lv' := [(1, .ref q0), (0, .ref b)]) hx hb dL_law_7 rfl hl (by decide) rfl (fun ls hl => ?_)
  refine va_new (ci := 11) (fs := eb_d11) (C := RX11) (T := TX11) (N := 48) hx hb C.2.2.2.2.1 ea_ix11 tyX11 tyX11_ok hown (C.2.2.2.2.1 _ wgL_10) (C.2.2.2.2.1 _ wI_11) (C.2.2.2.2.1 _ wi2_RX11) hK hP hD hS hA rfl (by decide) (Nat.le_of_ble_eq_true rfl) (Nat.le_of_ble_eq_true rfl) dL_law_8 (fun q1 H hP hD hS => ?_)
  refine W.widen (k := 101) (n := 20048) (by decide) (by decide) ?_
  refine lv_dup hx hb dL_law_11 rfl ?_
  refine eb_join (y := yX11_init) (wc := [(q1, .inr (11, eb_d11))]) (wr := ea_ws (eb_E (eb_h q0 u) 0 E) eb_MX eb_ids) hK hP hD hS hA [74] [0, 1, 2, 3, 4, 5, 6, 7, 8, 9, 10, 11, 12, 13, 14, 15, 16, 17, 18, 19, 20, 21, 22, 23, 24, 25, 26, 27, 28, 29, 30, 31, 32, 33, 34, 35, 36, 37, 38, 39, 40, 41, 42, 43, 44, 45, 46, 47, 48, 49, 50, 51, 52, 53, 54, 55, 56, 57, 58, 59, 60, 61, 62, 63, 64, 65, 66, 67, 68, 69, 70, 71, 72, 73] rfl rfl (by decide) (by decide) (eb_runI (n := 0) (rest := [.ref q1]) (As := []) C (nX11d (l := l) (E := E) (h0 := q1) (sz := H.size)) (eb_pre (wc := [(q1, .inr (11, eb_d11))]) (As := [.ref q1]) hK hP hD hS hA hF hN [74] rfl rfl (by decide)) wc2_X11_init wi2_RX11 wlL_12 wv2_X11_init rfl (by decide +kernel) (by decide) rfl hl.1 rfl (Nat.le_of_ble_eq_true rfl) dL_law_12 ⟨Nat.le_of_ble_eq_true rfl, Nat.le_of_ble_eq_true rfl⟩) (fun v H locs hP hD hS => ?_)
  replace hP : va_P E.2.2.1 ea_cl (ea_ws (eb_E (eb_h q0 u) 0 E) eb_MX eb_ids ++ ea_ws (eb_E (eb_h q1 v) 100 E) eb_M2 eb_idm) H := hP
  replace hD : va_D (fun q : Nat => s.heap.size ≤ q) (ea_ws (eb_E (eb_h q0 u) 0 E) eb_MX eb_ids ++ ea_ws (eb_E (eb_h q1 v) 100 E) eb_M2 eb_idm) := hD
  replace hP := eb_Pall hP
  replace hD := eb_Dall hD
  refine W.widen (k := 600000) (n := 7302250) (by decide) (by decide) ?_
  refine lv_astore_n (lv' := [(2, .ref q1), (1, .ref q0), (0, .ref b)]) hx hb dL_law_15 rfl hl (by decide) rfl (fun ls hl => ?_)
  refine lv_iconst (v := 0) hx hb dL_law_16 (by decide) ?_
  refine lv_istore_n (lv' := [(3, .int 0), (2, .ref q1), (1, .ref q0), (0, .ref b)]) hx hb dL_law_17 rfl hl (by decide) rfl (fun ls hl => ?_)
  refine va_forget (fun q hq => hS.2.2 q hq) ?_
  have hAd := ea_Adin hD
  have hw : ea_w (eb_Ef q0 q1 u v E) eb_all eb_Mall s H [] := ⟨hP, hK, ea_Ds hD, ⟨hS.1, fun q h1 _ => hS.2.1 q h1 (Nat.not_le.mpr h1), fun _ h => by cases h⟩, (hF.env rfl).narrow hAd⟩
  exact law_loop C hlocks hL eb_Xall eb_Yall hX0 hbl (fun h => absurd (hAd b h) (Nat.not_le.mpr hbl)) hAd ⟨Nat.le_refl _, Nat.le_refl _⟩ HS (L + 1) 0 eb_Mall H [] ls (by omega) (by omega) HI hw (lv_sub hl [3, 2, 1, 0] rfl)
