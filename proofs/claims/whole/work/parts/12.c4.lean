abbrev rm_X4_told : Room := { frames := 4, cells := 0, slots := 0, locals := 89 }
set_option maxHeartbeats 4000000 in
set_option maxRecDepth 100000 in
theorem c_X4_told {o : Om} {l : Launch} (hn : 115 ≤ o.2.2.2) {M : Mm} {x1 : Int32} {Q : Int32 → Mm → Prop} (h : w_X4_told M x1 Q) : CI o l yX4_told cX4_told 2 rm_X4_told [.ref (o.2.1 0 0), .int x1] M Q := by
  refine g_start (by decide +kernel) (Nat.le_of_ble_eq_true rfl) ?_
  intro p e s m args below meth c hx hb hr hlocks hml hown hts hw ls hl
  replace hl : lv_has ls 2 [(0, .ref (o.2.1 0 0)), (1, .int x1)] := hl
  unfold w_X4_told at h
  refine lv_iload_n hx hb dX4_told_0 rfl (lv_at hl 1 rfl) ?_
  by_cases c0 : x1 = (0 : Int32)
  · rw [if_pos c0] at h
    refine lv_tableIn (tgt := 64) hx hb dX4_told_1 (by rw [c0]; decide) (by rw [c0]; decide) (by rw [c0]; rfl) (by decide) ?_
    clear c0
    refine lv_aload_n hx hb dX4_told_64 rfl (lv_at hl 0 rfl) ?_
    refine g_getf hx hb hts in_X4 hown hw 0 0 (ci_0 (by decide)) (bi_0 (by decide) hn) rfl rfl 0 (by decide) kX4_10 rfl dX4_told_65 ?_
    refine g_getf hx hb hts in_X0 hown hw 5 0 (ci_5 (by decide)) (bi_5 (by decide) hn) rfl rfl 0 (by decide) kX4_40 rfl dX4_told_68 ?_
    refine g_getf hx hb hts in_X2 hown hw 11 0 (ci_11 (by decide)) (bi_11 (by decide) hn) rfl rfl 0 (by decide) kX4_48 rfl dX4_told_71 ?_
    exact g_iret hx hb hr hlocks hw h dX4_told_74
  rw [if_neg c0] at h
  by_cases c1 : x1 = (1 : Int32)
  · rw [if_pos c1] at h
    refine lv_tableIn (tgt := 75) hx hb dX4_told_1 (by rw [c1]; decide) (by rw [c1]; decide) (by rw [c1]; rfl) (by decide) ?_
    clear c1
    refine lv_aload_n hx hb dX4_told_75 rfl (lv_at hl 0 rfl) ?_
    refine g_getf hx hb hts in_X4 hown hw 0 0 (ci_0 (by decide)) (bi_0 (by decide) hn) rfl rfl 0 (by decide) kX4_10 rfl dX4_told_76 ?_
    refine g_getf hx hb hts in_X0 hown hw 5 0 (ci_5 (by decide)) (bi_5 (by decide) hn) rfl rfl 0 (by decide) kX4_40 rfl dX4_told_79 ?_
    refine g_getf hx hb hts in_X2 hown hw 11 0 (ci_11 (by decide)) (bi_11 (by decide) hn) rfl rfl 1 (by decide) kX4_54 rfl dX4_told_82 ?_
    exact g_iret hx hb hr hlocks hw h dX4_told_85
  rw [if_neg c1] at h
  by_cases c2 : x1 = (2 : Int32)
  · rw [if_pos c2] at h
    refine lv_tableIn (tgt := 86) hx hb dX4_told_1 (by rw [c2]; decide) (by rw [c2]; decide) (by rw [c2]; rfl) (by decide) ?_
    clear c2
    refine lv_aload_n hx hb dX4_told_86 rfl (lv_at hl 0 rfl) ?_
    refine g_getf hx hb hts in_X4 hown hw 0 0 (ci_0 (by decide)) (bi_0 (by decide) hn) rfl rfl 0 (by decide) kX4_10 rfl dX4_told_87 ?_
    refine g_getf hx hb hts in_X0 hown hw 5 0 (ci_5 (by decide)) (bi_5 (by decide) hn) rfl rfl 0 (by decide) kX4_40 rfl dX4_told_90 ?_
    refine g_getf hx hb hts in_X2 hown hw 11 0 (ci_11 (by decide)) (bi_11 (by decide) hn) rfl rfl 2 (by decide) kX4_64 rfl dX4_told_93 ?_
    exact g_iret hx hb hr hlocks hw h dX4_told_96
  rw [if_neg c2] at h
  by_cases c3 : x1 = (3 : Int32)
  · rw [if_pos c3] at h
    refine lv_tableIn (tgt := 97) hx hb dX4_told_1 (by rw [c3]; decide) (by rw [c3]; decide) (by rw [c3]; rfl) (by decide) ?_
    clear c3
    refine lv_aload_n hx hb dX4_told_97 rfl (lv_at hl 0 rfl) ?_
    refine g_getf hx hb hts in_X4 hown hw 0 0 (ci_0 (by decide)) (bi_0 (by decide) hn) rfl rfl 0 (by decide) kX4_10 rfl dX4_told_98 ?_
    refine g_getf hx hb hts in_X0 hown hw 5 0 (ci_5 (by decide)) (bi_5 (by decide) hn) rfl rfl 0 (by decide) kX4_40 rfl dX4_told_101 ?_
    refine g_getf hx hb hts in_X2 hown hw 11 0 (ci_11 (by decide)) (bi_11 (by decide) hn) rfl rfl 3 (by decide) kX4_67 rfl dX4_told_104 ?_
    exact g_iret hx hb hr hlocks hw h dX4_told_107
  rw [if_neg c3] at h
  by_cases c4 : x1 = (4 : Int32)
  · rw [if_pos c4] at h
    refine lv_tableIn (tgt := 108) hx hb dX4_told_1 (by rw [c4]; decide) (by rw [c4]; decide) (by rw [c4]; rfl) (by decide) ?_
    clear c4
    refine lv_aload_n hx hb dX4_told_108 rfl (lv_at hl 0 rfl) ?_
    refine g_getf hx hb hts in_X4 hown hw 0 0 (ci_0 (by decide)) (bi_0 (by decide) hn) rfl rfl 0 (by decide) kX4_10 rfl dX4_told_109 ?_
    refine g_getf hx hb hts in_X0 hown hw 5 0 (ci_5 (by decide)) (bi_5 (by decide) hn) rfl rfl 1 (by decide) kX4_57 rfl dX4_told_112 ?_
    exact g_iret hx hb hr hlocks hw h dX4_told_115
  rw [if_neg c4] at h
  by_cases c5 : x1 = (5 : Int32)
  · rw [if_pos c5] at h
    refine lv_tableIn (tgt := 116) hx hb dX4_told_1 (by rw [c5]; decide) (by rw [c5]; decide) (by rw [c5]; rfl) (by decide) ?_
    clear c5
    refine lv_aload_n hx hb dX4_told_116 rfl (lv_at hl 0 rfl) ?_
    refine g_getf hx hb hts in_X4 hown hw 0 0 (ci_0 (by decide)) (bi_0 (by decide) hn) rfl rfl 0 (by decide) kX4_10 rfl dX4_told_117 ?_
    refine g_getf hx hb hts in_X0 hown hw 5 0 (ci_5 (by decide)) (bi_5 (by decide) hn) rfl rfl 0 (by decide) kX4_40 rfl dX4_told_120 ?_
    refine g_getf hx hb hts in_X2 hown hw 11 0 (ci_11 (by decide)) (bi_11 (by decide) hn) rfl rfl 4 (by decide) kX4_105 rfl dX4_told_123 ?_
    exact g_iret hx hb hr hlocks hw h dX4_told_126
  rw [if_neg c5] at h
  by_cases c6 : x1 = (6 : Int32)
  · rw [if_pos c6] at h
    refine lv_tableIn (tgt := 127) hx hb dX4_told_1 (by rw [c6]; decide) (by rw [c6]; decide) (by rw [c6]; rfl) (by decide) ?_
    clear c6
    refine lv_aload_n hx hb dX4_told_127 rfl (lv_at hl 0 rfl) ?_
    refine g_getf hx hb hts in_X4 hown hw 0 0 (ci_0 (by decide)) (bi_0 (by decide) hn) rfl rfl 0 (by decide) kX4_10 rfl dX4_told_128 ?_
    refine g_getf hx hb hts in_X0 hown hw 5 0 (ci_5 (by decide)) (bi_5 (by decide) hn) rfl rfl 0 (by decide) kX4_40 rfl dX4_told_131 ?_
    refine g_ci hw (g_runV (As := []) (rest := []) hx hb hml hown hts mX2_allLongOnes vX2_allLongOnes kX4_195 hw 11 0 (ci_11 (by decide)) (bi_11 (by decide) hn) rfl rfl (c_X2_allLongOnes hn (by decide) h) rfl rfl ⟨Nat.le_of_ble_eq_true rfl, Nat.le_of_ble_eq_true rfl⟩ rfl hl.1 rfl (Nat.le_of_ble_eq_true rfl) dX4_told_134 ⟨Nat.zero_le _, Nat.zero_le _⟩) ?_
    clear h hw; intro v2 M1 H locs hw h
    exact g_iret hx hb hr hlocks hw h dX4_told_137
  rw [if_neg c6] at h
  by_cases c7 : x1 = (7 : Int32)
  · rw [if_pos c7] at h
    refine lv_tableIn (tgt := 138) hx hb dX4_told_1 (by rw [c7]; decide) (by rw [c7]; decide) (by rw [c7]; rfl) (by decide) ?_
    clear c7
    refine lv_aload_n hx hb dX4_told_138 rfl (lv_at hl 0 rfl) ?_
    refine g_getf hx hb hts in_X4 hown hw 0 0 (ci_0 (by decide)) (bi_0 (by decide) hn) rfl rfl 0 (by decide) kX4_10 rfl dX4_told_139 ?_
    refine g_getf hx hb hts in_X0 hown hw 5 0 (ci_5 (by decide)) (bi_5 (by decide) hn) rfl rfl 0 (by decide) kX4_40 rfl dX4_told_142 ?_
    refine g_ci hw (g_runV (As := []) (rest := []) hx hb hml hown hts mX2_allOnPage vX2_allOnPage kX4_199 hw 11 0 (ci_11 (by decide)) (bi_11 (by decide) hn) rfl rfl (c_X2_allOnPage hn (by decide) h) rfl rfl ⟨Nat.le_of_ble_eq_true rfl, Nat.le_of_ble_eq_true rfl⟩ rfl hl.1 rfl (Nat.le_of_ble_eq_true rfl) dX4_told_145 ⟨Nat.zero_le _, Nat.zero_le _⟩) ?_
    clear h hw; intro v4 M3 H locs hw h
    exact g_iret hx hb hr hlocks hw h dX4_told_148
  rw [if_neg c7] at h
  by_cases c8 : x1 = (8 : Int32)
  · rw [if_pos c8] at h
    refine lv_tableIn (tgt := 149) hx hb dX4_told_1 (by rw [c8]; decide) (by rw [c8]; decide) (by rw [c8]; rfl) (by decide) ?_
    clear c8
    refine lv_aload_n hx hb dX4_told_149 rfl (lv_at hl 0 rfl) ?_
    refine g_getf hx hb hts in_X4 hown hw 0 0 (ci_0 (by decide)) (bi_0 (by decide) hn) rfl rfl 0 (by decide) kX4_10 rfl dX4_told_150 ?_
    refine g_ci hw (g_runV (As := []) (rest := []) hx hb hml hown hts mX0_barsOnPage vX0_barsOnPage kX4_202 hw 5 0 (ci_5 (by decide)) (bi_5 (by decide) hn) rfl rfl (c_X0_barsOnPage hn (by decide) h) rfl rfl ⟨Nat.le_of_ble_eq_true rfl, Nat.le_of_ble_eq_true rfl⟩ rfl hl.1 rfl (Nat.le_of_ble_eq_true rfl) dX4_told_153 ⟨Nat.zero_le _, Nat.zero_le _⟩) ?_
    clear h hw; intro v6 M5 H locs hw h
    exact g_iret hx hb hr hlocks hw h dX4_told_156
  rw [if_neg c8] at h
  by_cases c9 : x1 = (9 : Int32)
  · rw [if_pos c9] at h
    refine lv_tableIn (tgt := 157) hx hb dX4_told_1 (by rw [c9]; decide) (by rw [c9]; decide) (by rw [c9]; rfl) (by decide) ?_
    clear c9
    refine lv_aload_n hx hb dX4_told_157 rfl (lv_at hl 0 rfl) ?_
    refine g_getf hx hb hts in_X4 hown hw 0 0 (ci_0 (by decide)) (bi_0 (by decide) hn) rfl rfl 0 (by decide) kX4_10 rfl dX4_told_158 ?_
    refine lv_aload_n hx hb dX4_told_161 rfl (lv_at hl 0 rfl) ?_
    refine g_getf hx hb hts in_X4 hown hw 0 0 (ci_0 (by decide)) (bi_0 (by decide) hn) rfl rfl 0 (by decide) kX4_10 rfl dX4_told_162 ?_
    refine g_getf hx hb hts in_X0 hown hw 5 0 (ci_5 (by decide)) (bi_5 (by decide) hn) rfl rfl 0 (by decide) kX4_40 rfl dX4_told_165 ?_
    refine g_getf hx hb hts in_X2 hown hw 11 0 (ci_11 (by decide)) (bi_11 (by decide) hn) rfl rfl 3 (by decide) kX4_67 rfl dX4_told_168 ?_
    refine g_ci hw (g_runV (As := [.int (M 11 0 3)]) (rest := []) hx hb hml hown hts mX0_hiddenOnPage vX0_hiddenOnPage kX4_185 hw 5 0 (ci_5 (by decide)) (bi_5 (by decide) hn) rfl rfl (c_X0_hiddenOnPage hn (by decide) h) rfl rfl ⟨Nat.le_of_ble_eq_true rfl, Nat.le_of_ble_eq_true rfl⟩ rfl hl.1 rfl (Nat.le_of_ble_eq_true rfl) dX4_told_171 ⟨Nat.zero_le _, Nat.zero_le _⟩) ?_
    clear h hw; intro v8 M7 H locs hw h
    exact g_iret hx hb hr hlocks hw h dX4_told_174
  rw [if_neg c9] at h
  by_cases c10 : x1 = (10 : Int32)
  · rw [if_pos c10] at h
    refine lv_tableIn (tgt := 175) hx hb dX4_told_1 (by rw [c10]; decide) (by rw [c10]; decide) (by rw [c10]; rfl) (by decide) ?_
    clear c10
    refine lv_aload_n hx hb dX4_told_175 rfl (lv_at hl 0 rfl) ?_
    refine g_getf hx hb hts in_X4 hown hw 0 0 (ci_0 (by decide)) (bi_0 (by decide) hn) rfl rfl 3 (by decide) kX4_29 rfl dX4_told_176 ?_
    refine g_getf hx hb hts in_X3 hown hw 3 0 (ci_3 (by decide)) (bi_3 (by decide) hn) rfl rfl 1 (by decide) kX4_91 rfl dX4_told_179 ?_
    exact g_iret hx hb hr hlocks hw h dX4_told_182
  rw [if_neg c10] at h
  by_cases c11 : x1 = (11 : Int32)
  · rw [if_pos c11] at h
    refine lv_tableIn (tgt := 183) hx hb dX4_told_1 (by rw [c11]; decide) (by rw [c11]; decide) (by rw [c11]; rfl) (by decide) ?_
    clear c11
    refine lv_aload_n hx hb dX4_told_183 rfl (lv_at hl 0 rfl) ?_
    refine g_getf hx hb hts in_X4 hown hw 0 0 (ci_0 (by decide)) (bi_0 (by decide) hn) rfl rfl 2 (by decide) kX4_22 rfl dX4_told_184 ?_
    refine g_getf hx hb hts in_X1 hown hw 1 0 (ci_1 (by decide)) (bi_1 (by decide) hn) rfl rfl 2 (by decide) kX4_205 rfl dX4_told_187 ?_
    exact g_iret hx hb hr hlocks hw h dX4_told_190
  rw [if_neg c11] at h
  refine lv_tableOut (tgt := 191) hx hb dX4_told_1 (tbl_out (fun k h1 => by rcases (show k = 0 ∨ k = 1 ∨ k = 2 ∨ k = 3 ∨ k = 4 ∨ k = 5 ∨ k = 6 ∨ k = 7 ∨ k = 8 ∨ k = 9 ∨ k = 10 ∨ k = 11 by omega) with rfl | rfl | rfl | rfl | rfl | rfl | rfl | rfl | rfl | rfl | rfl | rfl <;> assumption)) (by decide) ?_
  clear c0 c1 c2 c3 c4 c5 c6 c7 c8 c9 c10 c11
  refine lv_iconst (v := (-1)) hx hb dX4_told_191 (by decide) ?_
  exact g_iret hx hb hr hlocks hw h dX4_told_192
abbrev rm_X4_undo : Room := { frames := 4, cells := 0, slots := 0, locals := 91 }
set_option maxHeartbeats 4000000 in
set_option maxRecDepth 100000 in
theorem c_X4_undo {o : Om} {l : Launch} (hn : 115 ≤ o.2.2.2) {M : Mm} {Q : Int32 → Mm → Prop} (h : w_X4_undo M Q) : CI o l yX4_undo cX4_undo 1 rm_X4_undo [.ref (o.2.1 0 0)] M Q := by
  refine g_start (by decide +kernel) (Nat.le_of_ble_eq_true rfl) ?_
  intro p e s m args below meth c hx hb hr hlocks hml hown hts hw ls hl
  replace hl : lv_has ls 1 [(0, .ref (o.2.1 0 0))] := hl
  unfold w_X4_undo at h
  refine lv_aload_n hx hb dX4_undo_0 rfl (lv_at hl 0 rfl) ?_
  refine g_getf hx hb hts in_X4 hown hw 0 0 (ci_0 (by decide)) (bi_0 (by decide) hn) rfl rfl 2 (by decide) kX4_22 rfl dX4_undo_1 ?_
  refine g_getf hx hb hts in_X1 hown hw 1 0 (ci_1 (by decide)) (bi_1 (by decide) hn) rfl rfl 2 (by decide) kX4_205 rfl dX4_undo_4 ?_
  refine g_if_gt (tgt := 13) hx hb h dX4_undo_7 (by decide) ?_ ?_
  · clear h; intro h
    refine lv_aload_n hx hb dX4_undo_13 rfl (lv_at hl 0 rfl) ?_
    refine g_getf hx hb hts in_X4 hown hw 0 0 (ci_0 (by decide)) (bi_0 (by decide) hn) rfl rfl 2 (by decide) kX4_22 rfl dX4_undo_14 ?_
    refine lv_aload_n hx hb dX4_undo_17 rfl (lv_at hl 0 rfl) ?_
    refine g_getf hx hb hts in_X4 hown hw 0 0 (ci_0 (by decide)) (bi_0 (by decide) hn) rfl rfl 0 (by decide) kX4_10 rfl dX4_undo_18 ?_
    refine g_getf hx hb hts in_X0 hown hw 5 0 (ci_5 (by decide)) (bi_5 (by decide) hn) rfl rfl 0 (by decide) kX4_40 rfl dX4_undo_21 ?_
    refine g_cv hw (g_runV (As := [.ref (o.2.1 11 0)]) (rest := []) hx hb hml hown hts mX1_restore vX1_restore kX4_206 hw 1 0 (ci_1 (by decide)) (bi_1 (by decide) hn) rfl rfl (c_X1_restore hn (by decide) h) rfl rfl ⟨Nat.le_of_ble_eq_true rfl, Nat.le_of_ble_eq_true rfl⟩ rfl hl.1 rfl (Nat.le_of_ble_eq_true rfl) dX4_undo_24 ⟨Nat.zero_le _, Nat.zero_le _⟩) ?_
    clear h hw; intro M1 H locs hw h
    refine lv_aload_n hx hb dX4_undo_27 rfl (lv_at hl 0 rfl) ?_
    refine g_getf hx hb hts in_X4 hown hw 0 0 (ci_0 (by decide)) (bi_0 (by decide) hn) rfl rfl 0 (by decide) kX4_10 rfl dX4_undo_28 ?_
    refine g_cv hw (g_runV (As := []) (rest := []) hx hb hml hown hts mX0_lay vX0_lay kX4_33 hw 5 0 (ci_5 (by decide)) (bi_5 (by decide) hn) rfl rfl (c_X0_lay hn (by decide) h) rfl rfl ⟨Nat.le_of_ble_eq_true rfl, Nat.le_of_ble_eq_true rfl⟩ rfl hl.1 rfl (Nat.le_of_ble_eq_true rfl) dX4_undo_31 ⟨Nat.zero_le _, Nat.zero_le _⟩) ?_
    clear h hw; intro M2 H locs hw h
    refine lv_aload_n hx hb dX4_undo_34 rfl (lv_at hl 0 rfl) ?_
    refine g_getf hx hb hts in_X4 hown hw 0 0 (ci_0 (by decide)) (bi_0 (by decide) hn) rfl rfl 2 (by decide) kX4_22 rfl dX4_undo_35 ?_
    refine g_getf hx hb hts in_X1 hown hw 1 0 (ci_1 (by decide)) (bi_1 (by decide) hn) rfl rfl 2 (by decide) kX4_205 rfl dX4_undo_38 ?_
    exact g_iret hx hb hr hlocks hw h dX4_undo_41
  · clear h; intro h
    refine lv_bipush (v := (-2)) hx hb dX4_undo_10 (by decide) ?_
    exact g_iret hx hb hr hlocks hw h dX4_undo_12
abbrev rm_X4_digestEntries : Room := { frames := 4, cells := 0, slots := 0, locals := 90 }
set_option maxHeartbeats 4000000 in
set_option maxRecDepth 100000 in
theorem c_X4_digestEntries {o : Om} {l : Launch} (hn : 115 ≤ o.2.2.2) {M : Mm} {x1 : Int64} {Q : Int64 → Mm → Prop} (h : w_X4_digestEntries M x1 Q) : CL o l yX4_digestEntries cX4_digestEntries 8 rm_X4_digestEntries [.ref (o.2.1 0 0), .long x1] M Q := by
  refine g_start (by decide +kernel) (Nat.le_of_ble_eq_true rfl) ?_
  intro p e s m args below meth c hx hb hr hlocks hml hown hts hw ls hl
  replace hl : lv_has ls 8 [(0, .ref (o.2.1 0 0)), (1, .long x1)] := hl
  unfold w_X4_digestEntries at h
  refine lv_lload_n hx hb dX4_digestEntries_0 rfl (lv_at hl 1 rfl) ?_
  refine lv_lstore_n (lv' := [(3, .long x1), (0, .ref (o.2.1 0 0)), (1, .long x1)]) hx hb dX4_digestEntries_1 rfl hl (by decide) rfl ?_
  clear hl; clear ls; intro ls hl
  refine lv_iconst (v := 0) hx hb dX4_digestEntries_2 (by decide) ?_
  refine lv_istore (lv' := [(5, .int (0 : Int32)), (3, .long x1), (0, .ref (o.2.1 0 0)), (1, .long x1)]) hx hb dX4_digestEntries_3 hl (by decide) rfl ?_
  clear hl; clear ls; intro ls hl
  obtain ⟨n, h⟩ := h
  refine letK_W (body := fun K => w_X4_digestEntries_L5 K) (fun (x : Int64 × Int32 × Mm) => ∀ (H : Heap) (locs : List Loc) (ls : Array Slot), WO o (WA o) s s.heap H locs x.2.2 → lv_has ls 8 [(3, .long x.1)] → W p l e rm_X4_digestEntries s m args below meth c H locs 0 0 (MQ below (QL o Q) args s 0 0 (WA o)) (F0 m 112 ls [])) h ?_ ?_
  · clear h hw hl; clear ls; intro x h H locs ls hw hl
    obtain ⟨v40, v41, M42⟩ := x
    replace hl : lv_has ls 8 [(3, .long v40)] := hl
    dsimp only at h hw
    refine lv_lload_n hx hb dX4_digestEntries_112 rfl (lv_at hl 0 rfl) ?_
    exact g_lret hx hb hr hlocks hw h dX4_digestEntries_113
  clear h; intro K4 hK4 h
  refine loop_W (body := w_X4_digestEntries_L5 K4) (fun (x : Int64 × Int32 × Mm) => ∀ (H : Heap) (locs : List Loc) (ls : Array Slot), WO o (WA o) s s.heap H locs x.2.2 → lv_has ls 8 [(0, .ref (o.2.1 0 0)), (3, .long x.1), (5, .int x.2.1)] → W p l e rm_X4_digestEntries s m args below meth c H locs 0 0 (MQ below (QL o Q) args s 0 0 (WA o)) (F0 m 5 ls [])) ?_ n _ h _ _ _ hw (lv_sub hl [2, 1, 0] rfl)
  clear h hw hl; clear ls; intro R5 x hR5 h H locs ls hw hl
  obtain ⟨v1, v2, M3⟩ := x
  replace hl : lv_has ls 8 [(0, .ref (o.2.1 0 0)), (3, .long v1), (5, .int v2)] := hl
  dsimp only at hw
  unfold w_X4_digestEntries_L5 at h
  dsimp only at h
  refine lv_iload hx hb dX4_digestEntries_5 (lv_at hl 2 rfl) ?_
  refine lv_aload_n hx hb dX4_digestEntries_7 rfl (lv_at hl 0 rfl) ?_
  refine g_getf hx hb hts in_X4 hown hw 0 0 (ci_0 (by decide)) (bi_0 (by decide) hn) rfl rfl 0 (by decide) kX4_10 rfl dX4_digestEntries_8 ?_
  refine g_getf hx hb hts in_X0 hown hw 5 0 (ci_5 (by decide)) (bi_5 (by decide) hn) rfl rfl 0 (by decide) kX4_40 rfl dX4_digestEntries_11 ?_
  refine g_getf hx hb hts in_X2 hown hw 11 0 (ci_11 (by decide)) (bi_11 (by decide) hn) rfl rfl 4 (by decide) kX4_105 rfl dX4_digestEntries_14 ?_
  refine g_icmp_ge (tgt := 112) hx hb h dX4_digestEntries_17 (by decide) ?_ ?_
  · clear h; intro h
    exact hK4 (v1, v2, M3) h _ _ _ hw (lv_sub hl [1] rfl)
  · clear h; intro h
    refine lv_iconst (v := 0) hx hb dX4_digestEntries_20 (by decide) ?_
    refine lv_istore (lv' := [(6, .int (0 : Int32)), (0, .ref (o.2.1 0 0)), (3, .long v1), (5, .int v2)]) hx hb dX4_digestEntries_21 hl (by decide) rfl ?_
    clear hl; clear ls; intro ls hl
    obtain ⟨n, h⟩ := h
    refine letK_W (body := fun K => w_X4_digestEntries_L23 v2 K) (fun (x : Int64 × Int32 × Mm) => ∀ (H : Heap) (locs : List Loc) (ls : Array Slot), WO o (WA o) s s.heap H locs x.2.2 → lv_has ls 8 [(0, .ref (o.2.1 0 0)), (3, .long x.1), (5, .int v2)] → W p l e rm_X4_digestEntries s m args below meth c H locs 0 0 (MQ below (QL o Q) args s 0 0 (WA o)) (F0 m 52 ls [])) h ?_ ?_
    · clear h hw hl; clear ls; intro x h H locs ls hw hl
      obtain ⟨v15, v16, M17⟩ := x
      replace hl : lv_has ls 8 [(0, .ref (o.2.1 0 0)), (3, .long v15), (5, .int v2)] := hl
      dsimp only at h hw
      refine lv_iconst (v := 0) hx hb dX4_digestEntries_52 (by decide) ?_
      refine lv_istore (lv' := [(6, .int (0 : Int32)), (0, .ref (o.2.1 0 0)), (3, .long v15), (5, .int v2)]) hx hb dX4_digestEntries_53 hl (by decide) rfl ?_
      clear hl; clear ls; intro ls hl
      obtain ⟨n, h⟩ := h
      refine letK_W (body := fun K => w_X4_digestEntries_L55 v2 K) (fun (x : Int64 × Int32 × Mm) => ∀ (H : Heap) (locs : List Loc) (ls : Array Slot), WO o (WA o) s s.heap H locs x.2.2 → lv_has ls 8 [(0, .ref (o.2.1 0 0)), (3, .long x.1), (5, .int v2)] → W p l e rm_X4_digestEntries s m args below meth c H locs 0 0 (MQ below (QL o Q) args s 0 0 (WA o)) (F0 m 106 ls [])) h ?_ ?_
      · clear h hw hl; clear ls; intro x h H locs ls hw hl
        obtain ⟨v36, v37, M38⟩ := x
        replace hl : lv_has ls 8 [(0, .ref (o.2.1 0 0)), (3, .long v36), (5, .int v2)] := hl
        dsimp only at h hw
        refine g_iinc (k := 2) (v := (v2 + (1 : Int32))) (lv' := fun v39 => [(5, .int v39), (0, .ref (o.2.1 0 0)), (3, .long v36)]) hx hb dX4_digestEntries_106 hl rfl rfl (by decide) (fun _ => rfl) h ?_
        clear h hl; clear ls; intro v39 ls h hl
        refine lv_goto (tgt := 5) hx hb dX4_digestEntries_109 (by decide) ?_
        exact hR5 (v36, v39, M38) h _ _ _ hw (lv_sub hl [1, 2, 0] rfl)
      clear h; intro K21 hK21 h
      refine loop_W (body := w_X4_digestEntries_L55 v2 K21) (fun (x : Int64 × Int32 × Mm) => ∀ (H : Heap) (locs : List Loc) (ls : Array Slot), WO o (WA o) s s.heap H locs x.2.2 → lv_has ls 8 [(0, .ref (o.2.1 0 0)), (3, .long x.1), (5, .int v2), (6, .int x.2.1)] → W p l e rm_X4_digestEntries s m args below meth c H locs 0 0 (MQ below (QL o Q) args s 0 0 (WA o)) (F0 m 55 ls [])) ?_ n _ h _ _ _ hw (lv_sub hl [1, 2, 3, 0] rfl)
      clear h hw hl; clear ls; intro R22 x hR22 h H locs ls hw hl
      obtain ⟨v18, v19, M20⟩ := x
      replace hl : lv_has ls 8 [(0, .ref (o.2.1 0 0)), (3, .long v18), (5, .int v2), (6, .int v19)] := hl
      dsimp only at hw
      unfold w_X4_digestEntries_L55 at h
      dsimp only at h
      refine lv_iload hx hb dX4_digestEntries_55 (lv_at hl 3 rfl) ?_
      refine lv_aload_n hx hb dX4_digestEntries_57 rfl (lv_at hl 0 rfl) ?_
      refine g_getf hx hb hts in_X4 hown hw 0 0 (ci_0 (by decide)) (bi_0 (by decide) hn) rfl rfl 0 (by decide) kX4_10 rfl dX4_digestEntries_58 ?_
      refine g_getf hx hb hts in_X0 hown hw 5 0 (ci_5 (by decide)) (bi_5 (by decide) hn) rfl rfl 1 (by decide) kX4_57 rfl dX4_digestEntries_61 ?_
      refine g_icmp_ge (tgt := 106) hx hb h dX4_digestEntries_64 (by decide) ?_ ?_
      · clear h; intro h
        exact hK21 (v18, v19, M20) h _ _ _ hw (lv_sub hl [0, 1, 2] rfl)
      · clear h; intro h
        refine lv_iconst (v := 0) hx hb dX4_digestEntries_67 (by decide) ?_
        refine lv_istore (lv' := [(7, .int (0 : Int32)), (0, .ref (o.2.1 0 0)), (3, .long v18), (5, .int v2), (6, .int v19)]) hx hb dX4_digestEntries_68 hl (by decide) rfl ?_
        clear hl; clear ls; intro ls hl
        obtain ⟨n, h⟩ := h
        refine letK_W (body := fun K => w_X4_digestEntries_L70 v2 v19 K) (fun (x : Int64 × Int32 × Mm) => ∀ (H : Heap) (locs : List Loc) (ls : Array Slot), WO o (WA o) s s.heap H locs x.2.2 → lv_has ls 8 [(0, .ref (o.2.1 0 0)), (3, .long x.1), (5, .int v2), (6, .int v19)] → W p l e rm_X4_digestEntries s m args below meth c H locs 0 0 (MQ below (QL o Q) args s 0 0 (WA o)) (F0 m 100 ls [])) h ?_ ?_
        · clear h hw hl; clear ls; intro x h H locs ls hw hl
          obtain ⟨v32, v33, M34⟩ := x
          replace hl : lv_has ls 8 [(0, .ref (o.2.1 0 0)), (3, .long v32), (5, .int v2), (6, .int v19)] := hl
          dsimp only at h hw
          refine g_iinc (k := 3) (v := (v19 + (1 : Int32))) (lv' := fun v35 => [(6, .int v35), (0, .ref (o.2.1 0 0)), (3, .long v32), (5, .int v2)]) hx hb dX4_digestEntries_100 hl rfl rfl (by decide) (fun _ => rfl) h ?_
          clear h hl; clear ls; intro v35 ls h hl
          refine lv_goto (tgt := 55) hx hb dX4_digestEntries_103 (by decide) ?_
          exact hR22 (v32, v35, M34) h _ _ _ hw (lv_sub hl [1, 2, 3, 0] rfl)
        clear h; intro K26 hK26 h
        refine loop_W (body := w_X4_digestEntries_L70 v2 v19 K26) (fun (x : Int64 × Int32 × Mm) => ∀ (H : Heap) (locs : List Loc) (ls : Array Slot), WO o (WA o) s s.heap H locs x.2.2 → lv_has ls 8 [(0, .ref (o.2.1 0 0)), (3, .long x.1), (5, .int v2), (6, .int v19), (7, .int x.2.1)] → W p l e rm_X4_digestEntries s m args below meth c H locs 0 0 (MQ below (QL o Q) args s 0 0 (WA o)) (F0 m 70 ls [])) ?_ n _ h _ _ _ hw (lv_sub hl [1, 2, 3, 4, 0] rfl)
        clear h hw hl; clear ls; intro R27 x hR27 h H locs ls hw hl
        obtain ⟨v23, v24, M25⟩ := x
        replace hl : lv_has ls 8 [(0, .ref (o.2.1 0 0)), (3, .long v23), (5, .int v2), (6, .int v19), (7, .int v24)] := hl
        dsimp only at hw
        unfold w_X4_digestEntries_L70 at h
        dsimp only at h
        refine lv_iload hx hb dX4_digestEntries_70 (lv_at hl 4 rfl) ?_
        refine lv_iconst (v := 4) hx hb dX4_digestEntries_72 (by decide) ?_
        refine g_icmp_gt (tgt := 100) hx hb h dX4_digestEntries_73 (by decide) ?_ ?_
        · clear h; intro h
          exact hK26 (v23, v24, M25) h _ _ _ hw (lv_sub hl [0, 1, 2, 3] rfl)
        · clear h; intro h
          refine lv_ldc2 hx hb hown (hts _ kX4_211) dX4_digestEntries_76 ?_
          refine lv_lload_n hx hb dX4_digestEntries_79 rfl (lv_at hl 1 rfl) ?_
          refine lv_lmul hx hb dX4_digestEntries_80 ?_
          refine lv_aload_n hx hb dX4_digestEntries_81 rfl (lv_at hl 0 rfl) ?_
          refine lv_iload hx hb dX4_digestEntries_82 (lv_at hl 2 rfl) ?_
          refine lv_iload hx hb dX4_digestEntries_84 (lv_at hl 3 rfl) ?_
          refine lv_iload hx hb dX4_digestEntries_86 (lv_at hl 4 rfl) ?_
          refine g_ci hw (g_runV (As := [.int v2, .int v19, .int v24]) (rest := [.long ((31 : Int64) * v23)]) hx hb hml hown hts mX4_bar vX4_bar kX4_236 hw 0 0 (ci_0 (by decide)) (bi_0 (by decide) hn) rfl rfl (c_X4_bar hn h) rfl rfl ⟨Nat.le_of_ble_eq_true rfl, Nat.le_of_ble_eq_true rfl⟩ rfl hl.1 rfl (Nat.le_of_ble_eq_true rfl) dX4_digestEntries_88 ⟨Nat.zero_le _, Nat.zero_le _⟩) ?_
          clear h hw; intro v29 M28 H locs hw h
          refine lv_i2l hx hb dX4_digestEntries_91 rfl ?_
          refine lv_ladd hx hb dX4_digestEntries_92 ?_
          refine g_topl h ?_
          clear h; intro v30 h
          refine lv_lstore_n (lv' := [(3, .long v30), (0, .ref (o.2.1 0 0)), (5, .int v2), (6, .int v19), (7, .int v24)]) hx hb dX4_digestEntries_93 rfl hl (by decide) rfl ?_
          clear hl; clear ls; intro ls hl
          refine g_iinc (k := 4) (v := (v24 + (1 : Int32))) (lv' := fun v31 => [(7, .int v31), (3, .long v30), (0, .ref (o.2.1 0 0)), (5, .int v2), (6, .int v19)]) hx hb dX4_digestEntries_94 hl rfl rfl (by decide) (fun _ => rfl) h ?_
          clear h hl; clear ls; intro v31 ls h hl
          refine lv_goto (tgt := 70) hx hb dX4_digestEntries_97 (by decide) ?_
          exact hR27 (v30, v31, M28) h _ _ _ hw (lv_sub hl [2, 1, 3, 4, 0] rfl)
    clear h; intro K9 hK9 h
    refine loop_W (body := w_X4_digestEntries_L23 v2 K9) (fun (x : Int64 × Int32 × Mm) => ∀ (H : Heap) (locs : List Loc) (ls : Array Slot), WO o (WA o) s s.heap H locs x.2.2 → lv_has ls 8 [(0, .ref (o.2.1 0 0)), (3, .long x.1), (5, .int v2), (6, .int x.2.1)] → W p l e rm_X4_digestEntries s m args below meth c H locs 0 0 (MQ below (QL o Q) args s 0 0 (WA o)) (F0 m 23 ls [])) ?_ n _ h _ _ _ hw (lv_sub hl [1, 2, 3, 0] rfl)
    clear h hw hl; clear ls; intro R10 x hR10 h H locs ls hw hl
    obtain ⟨v6, v7, M8⟩ := x
    replace hl : lv_has ls 8 [(0, .ref (o.2.1 0 0)), (3, .long v6), (5, .int v2), (6, .int v7)] := hl
    dsimp only at hw
    unfold w_X4_digestEntries_L23 at h
    dsimp only at h
    refine lv_iload hx hb dX4_digestEntries_23 (lv_at hl 3 rfl) ?_
    refine lv_bipush (v := 7) hx hb dX4_digestEntries_25 (by decide) ?_
    refine g_icmp_gt (tgt := 52) hx hb h dX4_digestEntries_27 (by decide) ?_ ?_
    · clear h; intro h
      exact hK9 (v6, v7, M8) h _ _ _ hw (lv_sub hl [0, 1, 2] rfl)
    · clear h; intro h
      refine lv_ldc2 hx hb hown (hts _ kX4_211) dX4_digestEntries_30 ?_
      refine lv_lload_n hx hb dX4_digestEntries_33 rfl (lv_at hl 1 rfl) ?_
      refine lv_lmul hx hb dX4_digestEntries_34 ?_
      refine lv_aload_n hx hb dX4_digestEntries_35 rfl (lv_at hl 0 rfl) ?_
      refine lv_iload hx hb dX4_digestEntries_36 (lv_at hl 2 rfl) ?_
      refine lv_iload hx hb dX4_digestEntries_38 (lv_at hl 3 rfl) ?_
      refine g_ci hw (g_runV (As := [.int v2, .int v7]) (rest := [.long ((31 : Int64) * v6)]) hx hb hml hown hts mX4_entry vX4_entry kX4_233 hw 0 0 (ci_0 (by decide)) (bi_0 (by decide) hn) rfl rfl (c_X4_entry hn h) rfl rfl ⟨Nat.le_of_ble_eq_true rfl, Nat.le_of_ble_eq_true rfl⟩ rfl hl.1 rfl (Nat.le_of_ble_eq_true rfl) dX4_digestEntries_40 ⟨Nat.zero_le _, Nat.zero_le _⟩) ?_
      clear h hw; intro v12 M11 H locs hw h
      refine lv_i2l hx hb dX4_digestEntries_43 rfl ?_
      refine lv_ladd hx hb dX4_digestEntries_44 ?_
      refine g_topl h ?_
      clear h; intro v13 h
      refine lv_lstore_n (lv' := [(3, .long v13), (0, .ref (o.2.1 0 0)), (5, .int v2), (6, .int v7)]) hx hb dX4_digestEntries_45 rfl hl (by decide) rfl ?_
      clear hl; clear ls; intro ls hl
      refine g_iinc (k := 3) (v := (v7 + (1 : Int32))) (lv' := fun v14 => [(6, .int v14), (3, .long v13), (0, .ref (o.2.1 0 0)), (5, .int v2)]) hx hb dX4_digestEntries_46 hl rfl rfl (by decide) (fun _ => rfl) h ?_
      clear h hl; clear ls; intro v14 ls h hl
      refine lv_goto (tgt := 23) hx hb dX4_digestEntries_49 (by decide) ?_
      exact hR10 (v13, v14, M11) h _ _ _ hw (lv_sub hl [2, 1, 3, 0] rfl)
abbrev rm_X4_digestWeeks : Room := { frames := 4, cells := 0, slots := 0, locals := 92 }
set_option maxHeartbeats 4000000 in
set_option maxRecDepth 100000 in
theorem c_X4_digestWeeks {o : Om} {l : Launch} (hn : 115 ≤ o.2.2.2) {M : Mm} {x1 : Int64} {Q : Int64 → Mm → Prop} (h : w_X4_digestWeeks M x1 Q) : CL o l yX4_digestWeeks cX4_digestWeeks 7 rm_X4_digestWeeks [.ref (o.2.1 0 0), .long x1] M Q := by
  refine g_start (by decide +kernel) (Nat.le_of_ble_eq_true rfl) ?_
  intro p e s m args below meth c hx hb hr hlocks hml hown hts hw ls hl
  replace hl : lv_has ls 7 [(0, .ref (o.2.1 0 0)), (1, .long x1)] := hl
  unfold w_X4_digestWeeks at h
  refine lv_lload_n hx hb dX4_digestWeeks_0 rfl (lv_at hl 1 rfl) ?_
  refine lv_lstore_n (lv' := [(3, .long x1), (0, .ref (o.2.1 0 0)), (1, .long x1)]) hx hb dX4_digestWeeks_1 rfl hl (by decide) rfl ?_
  clear hl; clear ls; intro ls hl
  refine lv_iconst (v := 0) hx hb dX4_digestWeeks_2 (by decide) ?_
  refine lv_istore (lv' := [(5, .int (0 : Int32)), (3, .long x1), (0, .ref (o.2.1 0 0)), (1, .long x1)]) hx hb dX4_digestWeeks_3 hl (by decide) rfl ?_
  clear hl; clear ls; intro ls hl
  obtain ⟨n, h⟩ := h
  refine letK_W (body := fun K => w_X4_digestWeeks_L5 K) (fun (x : Int64 × Int32 × Mm) => ∀ (H : Heap) (locs : List Loc) (ls : Array Slot), WO o (WA o) s s.heap H locs x.2.2 → lv_has ls 7 [(3, .long x.1)] → W p l e rm_X4_digestWeeks s m args below meth c H locs 0 0 (MQ below (QL o Q) args s 0 0 (WA o)) (F0 m 54 ls [])) h ?_ ?_
  · clear h hw hl; clear ls; intro x h H locs ls hw hl
    obtain ⟨v19, v20, M21⟩ := x
    replace hl : lv_has ls 7 [(3, .long v19)] := hl
    dsimp only at h hw
    refine lv_lload_n hx hb dX4_digestWeeks_54 rfl (lv_at hl 0 rfl) ?_
    exact g_lret hx hb hr hlocks hw h dX4_digestWeeks_55
  clear h; intro K4 hK4 h
  refine loop_W (body := w_X4_digestWeeks_L5 K4) (fun (x : Int64 × Int32 × Mm) => ∀ (H : Heap) (locs : List Loc) (ls : Array Slot), WO o (WA o) s s.heap H locs x.2.2 → lv_has ls 7 [(0, .ref (o.2.1 0 0)), (3, .long x.1), (5, .int x.2.1)] → W p l e rm_X4_digestWeeks s m args below meth c H locs 0 0 (MQ below (QL o Q) args s 0 0 (WA o)) (F0 m 5 ls [])) ?_ n _ h _ _ _ hw (lv_sub hl [2, 1, 0] rfl)
  clear h hw hl; clear ls; intro R5 x hR5 h H locs ls hw hl
  obtain ⟨v1, v2, M3⟩ := x
  replace hl : lv_has ls 7 [(0, .ref (o.2.1 0 0)), (3, .long v1), (5, .int v2)] := hl
  dsimp only at hw
  unfold w_X4_digestWeeks_L5 at h
  dsimp only at h
  refine lv_iload hx hb dX4_digestWeeks_5 (lv_at hl 2 rfl) ?_
  refine lv_aload_n hx hb dX4_digestWeeks_7 rfl (lv_at hl 0 rfl) ?_
  refine g_getf hx hb hts in_X4 hown hw 0 0 (ci_0 (by decide)) (bi_0 (by decide) hn) rfl rfl 0 (by decide) kX4_10 rfl dX4_digestWeeks_8 ?_
  refine g_getf hx hb hts in_X0 hown hw 5 0 (ci_5 (by decide)) (bi_5 (by decide) hn) rfl rfl 1 (by decide) kX4_57 rfl dX4_digestWeeks_11 ?_
  refine g_icmp_ge (tgt := 54) hx hb h dX4_digestWeeks_14 (by decide) ?_ ?_
  · clear h; intro h
    exact hK4 (v1, v2, M3) h _ _ _ hw (lv_sub hl [1] rfl)
  · clear h; intro h
    refine lv_iconst (v := 0) hx hb dX4_digestWeeks_17 (by decide) ?_
    refine lv_istore (lv' := [(6, .int (0 : Int32)), (0, .ref (o.2.1 0 0)), (3, .long v1), (5, .int v2)]) hx hb dX4_digestWeeks_18 hl (by decide) rfl ?_
    clear hl; clear ls; intro ls hl
    obtain ⟨n, h⟩ := h
    refine letK_W (body := fun K => w_X4_digestWeeks_L20 v2 K) (fun (x : Int64 × Int32 × Mm) => ∀ (H : Heap) (locs : List Loc) (ls : Array Slot), WO o (WA o) s s.heap H locs x.2.2 → lv_has ls 7 [(0, .ref (o.2.1 0 0)), (3, .long x.1), (5, .int v2)] → W p l e rm_X4_digestWeeks s m args below meth c H locs 0 0 (MQ below (QL o Q) args s 0 0 (WA o)) (F0 m 48 ls [])) h ?_ ?_
    · clear h hw hl; clear ls; intro x h H locs ls hw hl
      obtain ⟨v15, v16, M17⟩ := x
      replace hl : lv_has ls 7 [(0, .ref (o.2.1 0 0)), (3, .long v15), (5, .int v2)] := hl
      dsimp only at h hw
      refine g_iinc (k := 2) (v := (v2 + (1 : Int32))) (lv' := fun v18 => [(5, .int v18), (0, .ref (o.2.1 0 0)), (3, .long v15)]) hx hb dX4_digestWeeks_48 hl rfl rfl (by decide) (fun _ => rfl) h ?_
      clear h hl; clear ls; intro v18 ls h hl
      refine lv_goto (tgt := 5) hx hb dX4_digestWeeks_51 (by decide) ?_
      exact hR5 (v15, v18, M17) h _ _ _ hw (lv_sub hl [1, 2, 0] rfl)
    clear h; intro K9 hK9 h
    refine loop_W (body := w_X4_digestWeeks_L20 v2 K9) (fun (x : Int64 × Int32 × Mm) => ∀ (H : Heap) (locs : List Loc) (ls : Array Slot), WO o (WA o) s s.heap H locs x.2.2 → lv_has ls 7 [(0, .ref (o.2.1 0 0)), (3, .long x.1), (5, .int v2), (6, .int x.2.1)] → W p l e rm_X4_digestWeeks s m args below meth c H locs 0 0 (MQ below (QL o Q) args s 0 0 (WA o)) (F0 m 20 ls [])) ?_ n _ h _ _ _ hw (lv_sub hl [1, 2, 3, 0] rfl)
    clear h hw hl; clear ls; intro R10 x hR10 h H locs ls hw hl
    obtain ⟨v6, v7, M8⟩ := x
    replace hl : lv_has ls 7 [(0, .ref (o.2.1 0 0)), (3, .long v6), (5, .int v2), (6, .int v7)] := hl
    dsimp only at hw
    unfold w_X4_digestWeeks_L20 at h
    dsimp only at h
    refine lv_iload hx hb dX4_digestWeeks_20 (lv_at hl 3 rfl) ?_
    refine lv_iconst (v := 5) hx hb dX4_digestWeeks_22 (by decide) ?_
    refine g_icmp_gt (tgt := 48) hx hb h dX4_digestWeeks_23 (by decide) ?_ ?_
    · clear h; intro h
      exact hK9 (v6, v7, M8) h _ _ _ hw (lv_sub hl [0, 1, 2] rfl)
    · clear h; intro h
      refine lv_ldc2 hx hb hown (hts _ kX4_211) dX4_digestWeeks_26 ?_
      refine lv_lload_n hx hb dX4_digestWeeks_29 rfl (lv_at hl 1 rfl) ?_
      refine lv_lmul hx hb dX4_digestWeeks_30 ?_
      refine lv_aload_n hx hb dX4_digestWeeks_31 rfl (lv_at hl 0 rfl) ?_
      refine lv_iload hx hb dX4_digestWeeks_32 (lv_at hl 2 rfl) ?_
      refine lv_iload hx hb dX4_digestWeeks_34 (lv_at hl 3 rfl) ?_
      refine g_ci hw (g_runV (As := [.int v2, .int v7]) (rest := [.long ((31 : Int64) * v6)]) hx hb hml hown hts mX4_week vX4_week kX4_239 hw 0 0 (ci_0 (by decide)) (bi_0 (by decide) hn) rfl rfl (c_X4_week hn h) rfl rfl ⟨Nat.le_of_ble_eq_true rfl, Nat.le_of_ble_eq_true rfl⟩ rfl hl.1 rfl (Nat.le_of_ble_eq_true rfl) dX4_digestWeeks_36 ⟨Nat.zero_le _, Nat.zero_le _⟩) ?_
      clear h hw; intro v12 M11 H locs hw h
      refine lv_i2l hx hb dX4_digestWeeks_39 rfl ?_
      refine lv_ladd hx hb dX4_digestWeeks_40 ?_
      refine g_topl h ?_
      clear h; intro v13 h
      refine lv_lstore_n (lv' := [(3, .long v13), (0, .ref (o.2.1 0 0)), (5, .int v2), (6, .int v7)]) hx hb dX4_digestWeeks_41 rfl hl (by decide) rfl ?_
      clear hl; clear ls; intro ls hl
      refine g_iinc (k := 3) (v := (v7 + (1 : Int32))) (lv' := fun v14 => [(6, .int v14), (3, .long v13), (0, .ref (o.2.1 0 0)), (5, .int v2)]) hx hb dX4_digestWeeks_42 hl rfl rfl (by decide) (fun _ => rfl) h ?_
      clear h hl; clear ls; intro v14 ls h hl
      refine lv_goto (tgt := 20) hx hb dX4_digestWeeks_45 (by decide) ?_
      exact hR10 (v13, v14, M11) h _ _ _ hw (lv_sub hl [2, 1, 3, 0] rfl)
abbrev rm_X4_digestDays : Room := { frames := 4, cells := 0, slots := 0, locals := 92 }
set_option maxHeartbeats 4000000 in
set_option maxRecDepth 100000 in
theorem c_X4_digestDays {o : Om} {l : Launch} (hn : 115 ≤ o.2.2.2) {M : Mm} {x1 : Int64} {Q : Int64 → Mm → Prop} (h : w_X4_digestDays M x1 Q) : CL o l yX4_digestDays cX4_digestDays 7 rm_X4_digestDays [.ref (o.2.1 0 0), .long x1] M Q := by
  refine g_start (by decide +kernel) (Nat.le_of_ble_eq_true rfl) ?_
  intro p e s m args below meth c hx hb hr hlocks hml hown hts hw ls hl
  replace hl : lv_has ls 7 [(0, .ref (o.2.1 0 0)), (1, .long x1)] := hl
  unfold w_X4_digestDays at h
  refine lv_lload_n hx hb dX4_digestDays_0 rfl (lv_at hl 1 rfl) ?_
  refine lv_lstore_n (lv' := [(3, .long x1), (0, .ref (o.2.1 0 0)), (1, .long x1)]) hx hb dX4_digestDays_1 rfl hl (by decide) rfl ?_
  clear hl; clear ls; intro ls hl
  refine lv_aload_n hx hb dX4_digestDays_2 rfl (lv_at hl 1 rfl) ?_
  refine g_getf hx hb hts in_X4 hown hw 0 0 (ci_0 (by decide)) (bi_0 (by decide) hn) rfl rfl 0 (by decide) kX4_10 rfl dX4_digestDays_3 ?_
  refine g_getf hx hb hts in_X0 hown hw 5 0 (ci_5 (by decide)) (bi_5 (by decide) hn) rfl rfl 0 (by decide) kX4_40 rfl dX4_digestDays_6 ?_
  refine g_getf hx hb hts in_X2 hown hw 11 0 (ci_11 (by decide)) (bi_11 (by decide) hn) rfl rfl 0 (by decide) kX4_48 rfl dX4_digestDays_9 ?_
  refine g_topi h ?_
  clear h; intro v1 h
  refine lv_istore (lv' := [(5, .int v1), (3, .long x1), (0, .ref (o.2.1 0 0)), (1, .long x1)]) hx hb dX4_digestDays_12 hl (by decide) rfl ?_
  clear hl; clear ls; intro ls hl
  obtain ⟨n, h⟩ := h
  refine letK_W (body := fun K => w_X4_digestDays_L14 K) (fun (x : Int64 × Int32 × Mm) => ∀ (H : Heap) (locs : List Loc) (ls : Array Slot), WO o (WA o) s s.heap H locs x.2.2 → lv_has ls 7 [(3, .long x.1)] → W p l e rm_X4_digestDays s m args below meth c H locs 0 0 (MQ below (QL o Q) args s 0 0 (WA o)) (F0 m 98 ls [])) h ?_ ?_
  · clear h hw hl; clear ls; intro x h H locs ls hw hl
    obtain ⟨v32, v33, M34⟩ := x
    replace hl : lv_has ls 7 [(3, .long v32)] := hl
    dsimp only at h hw
    refine lv_lload_n hx hb dX4_digestDays_98 rfl (lv_at hl 0 rfl) ?_
    exact g_lret hx hb hr hlocks hw h dX4_digestDays_99
  clear h; intro K5 hK5 h
  refine loop_W (body := w_X4_digestDays_L14 K5) (fun (x : Int64 × Int32 × Mm) => ∀ (H : Heap) (locs : List Loc) (ls : Array Slot), WO o (WA o) s s.heap H locs x.2.2 → lv_has ls 7 [(0, .ref (o.2.1 0 0)), (3, .long x.1), (5, .int x.2.1)] → W p l e rm_X4_digestDays s m args below meth c H locs 0 0 (MQ below (QL o Q) args s 0 0 (WA o)) (F0 m 14 ls [])) ?_ n _ h _ _ _ hw (lv_sub hl [2, 1, 0] rfl)
  clear h hw hl; clear ls; intro R6 x hR6 h H locs ls hw hl
  obtain ⟨v2, v3, M4⟩ := x
  replace hl : lv_has ls 7 [(0, .ref (o.2.1 0 0)), (3, .long v2), (5, .int v3)] := hl
  dsimp only at hw
  unfold w_X4_digestDays_L14 at h
  dsimp only at h
  refine lv_iload hx hb dX4_digestDays_14 (lv_at hl 2 rfl) ?_
  refine lv_aload_n hx hb dX4_digestDays_16 rfl (lv_at hl 0 rfl) ?_
  refine g_getf hx hb hts in_X4 hown hw 0 0 (ci_0 (by decide)) (bi_0 (by decide) hn) rfl rfl 0 (by decide) kX4_10 rfl dX4_digestDays_17 ?_
  refine g_getf hx hb hts in_X0 hown hw 5 0 (ci_5 (by decide)) (bi_5 (by decide) hn) rfl rfl 0 (by decide) kX4_40 rfl dX4_digestDays_20 ?_
  refine g_getf hx hb hts in_X2 hown hw 11 0 (ci_11 (by decide)) (bi_11 (by decide) hn) rfl rfl 1 (by decide) kX4_54 rfl dX4_digestDays_23 ?_
  refine g_icmp_gt (tgt := 98) hx hb h dX4_digestDays_26 (by decide) ?_ ?_
  · clear h; intro h
    exact hK5 (v2, v3, M4) h _ _ _ hw (lv_sub hl [1] rfl)
  · clear h; intro h
    refine lv_iconst (v := 0) hx hb dX4_digestDays_29 (by decide) ?_
    refine lv_istore (lv' := [(6, .int (0 : Int32)), (0, .ref (o.2.1 0 0)), (3, .long v2), (5, .int v3)]) hx hb dX4_digestDays_30 hl (by decide) rfl ?_
    clear hl; clear ls; intro ls hl
    obtain ⟨n, h⟩ := h
    refine letK_W (body := fun K => w_X4_digestDays_L32 v3 K) (fun (x : Int64 × Int32 × Mm) => ∀ (H : Heap) (locs : List Loc) (ls : Array Slot), WO o (WA o) s s.heap H locs x.2.2 → lv_has ls 7 [(0, .ref (o.2.1 0 0)), (3, .long x.1), (5, .int v3)] → W p l e rm_X4_digestDays s m args below meth c H locs 0 0 (MQ below (QL o Q) args s 0 0 (WA o)) (F0 m 60 ls [])) h ?_ ?_
    · clear h hw hl; clear ls; intro x h H locs ls hw hl
      obtain ⟨v16, v17, M18⟩ := x
      replace hl : lv_has ls 7 [(0, .ref (o.2.1 0 0)), (3, .long v16), (5, .int v3)] := hl
      dsimp only at h hw
      refine lv_iconst (v := 0) hx hb dX4_digestDays_60 (by decide) ?_
      refine lv_istore (lv' := [(6, .int (0 : Int32)), (0, .ref (o.2.1 0 0)), (3, .long v16), (5, .int v3)]) hx hb dX4_digestDays_61 hl (by decide) rfl ?_
      clear hl; clear ls; intro ls hl
      obtain ⟨n, h⟩ := h
      refine letK_W (body := fun K => w_X4_digestDays_L63 v3 K) (fun (x : Int64 × Int32 × Mm) => ∀ (H : Heap) (locs : List Loc) (ls : Array Slot), WO o (WA o) s s.heap H locs x.2.2 → lv_has ls 7 [(0, .ref (o.2.1 0 0)), (3, .long x.1), (5, .int v3)] → W p l e rm_X4_digestDays s m args below meth c H locs 0 0 (MQ below (QL o Q) args s 0 0 (WA o)) (F0 m 92 ls [])) h ?_ ?_
      · clear h hw hl; clear ls; intro x h H locs ls hw hl
        obtain ⟨v28, v29, M30⟩ := x
        replace hl : lv_has ls 7 [(0, .ref (o.2.1 0 0)), (3, .long v28), (5, .int v3)] := hl
        dsimp only at h hw
        refine g_iinc (k := 2) (v := (v3 + (1 : Int32))) (lv' := fun v31 => [(5, .int v31), (0, .ref (o.2.1 0 0)), (3, .long v28)]) hx hb dX4_digestDays_92 hl rfl rfl (by decide) (fun _ => rfl) h ?_
        clear h hl; clear ls; intro v31 ls h hl
        refine lv_goto (tgt := 14) hx hb dX4_digestDays_95 (by decide) ?_
        exact hR6 (v28, v31, M30) h _ _ _ hw (lv_sub hl [1, 2, 0] rfl)
      clear h; intro K22 hK22 h
      refine loop_W (body := w_X4_digestDays_L63 v3 K22) (fun (x : Int64 × Int32 × Mm) => ∀ (H : Heap) (locs : List Loc) (ls : Array Slot), WO o (WA o) s s.heap H locs x.2.2 → lv_has ls 7 [(0, .ref (o.2.1 0 0)), (3, .long x.1), (5, .int v3), (6, .int x.2.1)] → W p l e rm_X4_digestDays s m args below meth c H locs 0 0 (MQ below (QL o Q) args s 0 0 (WA o)) (F0 m 63 ls [])) ?_ n _ h _ _ _ hw (lv_sub hl [1, 2, 3, 0] rfl)
      clear h hw hl; clear ls; intro R23 x hR23 h H locs ls hw hl
      obtain ⟨v19, v20, M21⟩ := x
      replace hl : lv_has ls 7 [(0, .ref (o.2.1 0 0)), (3, .long v19), (5, .int v3), (6, .int v20)] := hl
      dsimp only at hw
      unfold w_X4_digestDays_L63 at h
      dsimp only at h
      refine lv_iload hx hb dX4_digestDays_63 (lv_at hl 3 rfl) ?_
      refine lv_bipush (v := 12) hx hb dX4_digestDays_65 (by decide) ?_
      refine g_icmp_ge (tgt := 92) hx hb h dX4_digestDays_67 (by decide) ?_ ?_
      · clear h; intro h
        exact hK22 (v19, v20, M21) h _ _ _ hw (lv_sub hl [0, 1, 2] rfl)
      · clear h; intro h
        refine lv_ldc2 hx hb hown (hts _ kX4_211) dX4_digestDays_70 ?_
        refine lv_lload_n hx hb dX4_digestDays_73 rfl (lv_at hl 1 rfl) ?_
        refine lv_lmul hx hb dX4_digestDays_74 ?_
        refine lv_aload_n hx hb dX4_digestDays_75 rfl (lv_at hl 0 rfl) ?_
        refine lv_iload hx hb dX4_digestDays_76 (lv_at hl 2 rfl) ?_
        refine lv_iload hx hb dX4_digestDays_78 (lv_at hl 3 rfl) ?_
        refine g_ci hw (g_runV (As := [.int v3, .int v20]) (rest := [.long ((31 : Int64) * v19)]) hx hb hml hown hts mX4_shown vX4_shown kX4_245 hw 0 0 (ci_0 (by decide)) (bi_0 (by decide) hn) rfl rfl (c_X4_shown hn h) rfl rfl ⟨Nat.le_of_ble_eq_true rfl, Nat.le_of_ble_eq_true rfl⟩ rfl hl.1 rfl (Nat.le_of_ble_eq_true rfl) dX4_digestDays_80 ⟨Nat.zero_le _, Nat.zero_le _⟩) ?_
        clear h hw; intro v25 M24 H locs hw h
        refine lv_i2l hx hb dX4_digestDays_83 rfl ?_
        refine lv_ladd hx hb dX4_digestDays_84 ?_
        refine g_topl h ?_
        clear h; intro v26 h
        refine lv_lstore_n (lv' := [(3, .long v26), (0, .ref (o.2.1 0 0)), (5, .int v3), (6, .int v20)]) hx hb dX4_digestDays_85 rfl hl (by decide) rfl ?_
        clear hl; clear ls; intro ls hl
        refine g_iinc (k := 3) (v := (v20 + (1 : Int32))) (lv' := fun v27 => [(6, .int v27), (3, .long v26), (0, .ref (o.2.1 0 0)), (5, .int v3)]) hx hb dX4_digestDays_86 hl rfl rfl (by decide) (fun _ => rfl) h ?_
        clear h hl; clear ls; intro v27 ls h hl
        refine lv_goto (tgt := 63) hx hb dX4_digestDays_89 (by decide) ?_
        exact hR23 (v26, v27, M24) h _ _ _ hw (lv_sub hl [2, 1, 3, 0] rfl)
    clear h; intro K10 hK10 h
    refine loop_W (body := w_X4_digestDays_L32 v3 K10) (fun (x : Int64 × Int32 × Mm) => ∀ (H : Heap) (locs : List Loc) (ls : Array Slot), WO o (WA o) s s.heap H locs x.2.2 → lv_has ls 7 [(0, .ref (o.2.1 0 0)), (3, .long x.1), (5, .int v3), (6, .int x.2.1)] → W p l e rm_X4_digestDays s m args below meth c H locs 0 0 (MQ below (QL o Q) args s 0 0 (WA o)) (F0 m 32 ls [])) ?_ n _ h _ _ _ hw (lv_sub hl [1, 2, 3, 0] rfl)
    clear h hw hl; clear ls; intro R11 x hR11 h H locs ls hw hl
    obtain ⟨v7, v8, M9⟩ := x
    replace hl : lv_has ls 7 [(0, .ref (o.2.1 0 0)), (3, .long v7), (5, .int v3), (6, .int v8)] := hl
    dsimp only at hw
    unfold w_X4_digestDays_L32 at h
    dsimp only at h
    refine lv_iload hx hb dX4_digestDays_32 (lv_at hl 3 rfl) ?_
    refine lv_iconst (v := 5) hx hb dX4_digestDays_34 (by decide) ?_
    refine g_icmp_gt (tgt := 60) hx hb h dX4_digestDays_35 (by decide) ?_ ?_
    · clear h; intro h
      exact hK10 (v7, v8, M9) h _ _ _ hw (lv_sub hl [0, 1, 2] rfl)
    · clear h; intro h
      refine lv_ldc2 hx hb hown (hts _ kX4_211) dX4_digestDays_38 ?_
      refine lv_lload_n hx hb dX4_digestDays_41 rfl (lv_at hl 1 rfl) ?_
      refine lv_lmul hx hb dX4_digestDays_42 ?_
      refine lv_aload_n hx hb dX4_digestDays_43 rfl (lv_at hl 0 rfl) ?_
      refine lv_iload hx hb dX4_digestDays_44 (lv_at hl 2 rfl) ?_
      refine lv_iload hx hb dX4_digestDays_46 (lv_at hl 3 rfl) ?_
      refine g_ci hw (g_runV (As := [.int v3, .int v8]) (rest := [.long ((31 : Int64) * v7)]) hx hb hml hown hts mX4_day vX4_day kX4_242 hw 0 0 (ci_0 (by decide)) (bi_0 (by decide) hn) rfl rfl (c_X4_day hn h) rfl rfl ⟨Nat.le_of_ble_eq_true rfl, Nat.le_of_ble_eq_true rfl⟩ rfl hl.1 rfl (Nat.le_of_ble_eq_true rfl) dX4_digestDays_48 ⟨Nat.zero_le _, Nat.zero_le _⟩) ?_
      clear h hw; intro v13 M12 H locs hw h
      refine lv_i2l hx hb dX4_digestDays_51 rfl ?_
      refine lv_ladd hx hb dX4_digestDays_52 ?_
      refine g_topl h ?_
      clear h; intro v14 h
      refine lv_lstore_n (lv' := [(3, .long v14), (0, .ref (o.2.1 0 0)), (5, .int v3), (6, .int v8)]) hx hb dX4_digestDays_53 rfl hl (by decide) rfl ?_
      clear hl; clear ls; intro ls hl
      refine g_iinc (k := 3) (v := (v8 + (1 : Int32))) (lv' := fun v15 => [(6, .int v15), (3, .long v14), (0, .ref (o.2.1 0 0)), (5, .int v3)]) hx hb dX4_digestDays_54 hl rfl rfl (by decide) (fun _ => rfl) h ?_
      clear h hl; clear ls; intro v15 ls h hl
      refine lv_goto (tgt := 32) hx hb dX4_digestDays_57 (by decide) ?_
      exact hR11 (v14, v15, M12) h _ _ _ hw (lv_sub hl [2, 1, 3, 0] rfl)
abbrev rm_X4_digest : Room := { frames := 5, cells := 0, slots := 0, locals := 118 }
set_option maxHeartbeats 4000000 in
set_option maxRecDepth 100000 in
theorem c_X4_digest {o : Om} {l : Launch} (hn : 115 ≤ o.2.2.2) {M : Mm} {Q : Int64 → Mm → Prop} (h : w_X4_digest M Q) : CL o l yX4_digest cX4_digest 4 rm_X4_digest [.ref (o.2.1 0 0)] M Q := by
  refine g_start (by decide +kernel) (Nat.le_of_ble_eq_true rfl) ?_
  intro p e s m args below meth c hx hb hr hlocks hml hown hts hw ls hl
  replace hl : lv_has ls 4 [(0, .ref (o.2.1 0 0))] := hl
  unfold w_X4_digest at h
  refine lv_ldc2 hx hb hown (hts _ kX4_209) dX4_digest_0 ?_
  refine lv_lstore_n (lv' := [(1, .long (43104 : Int64)), (0, .ref (o.2.1 0 0))]) hx hb dX4_digest_3 rfl hl (by decide) rfl ?_
  clear hl; clear ls; intro ls hl
  refine lv_iconst (v := 0) hx hb dX4_digest_4 (by decide) ?_
  refine lv_istore_n (lv' := [(3, .int (0 : Int32)), (1, .long (43104 : Int64)), (0, .ref (o.2.1 0 0))]) hx hb dX4_digest_5 rfl hl (by decide) rfl ?_
  clear hl; clear ls; intro ls hl
  obtain ⟨n, h⟩ := h
  refine letK_W (body := fun K => w_X4_digest_L6 K) (fun (x : Int64 × Int32 × Mm) => ∀ (H : Heap) (locs : List Loc) (ls : Array Slot), WO o (WA o) s s.heap H locs x.2.2 → lv_has ls 4 [(0, .ref (o.2.1 0 0)), (1, .long x.1)] → W p l e rm_X4_digest s m args below meth c H locs 0 0 (MQ below (QL o Q) args s 0 0 (WA o)) (F0 m 31 ls [])) h ?_ ?_
  · clear h hw hl; clear ls; intro x h H locs ls hw hl
    obtain ⟨v10, v11, M12⟩ := x
    replace hl : lv_has ls 4 [(0, .ref (o.2.1 0 0)), (1, .long v10)] := hl
    dsimp only at h hw
    refine lv_aload_n hx hb dX4_digest_31 rfl (lv_at hl 0 rfl) ?_
    refine lv_lload_n hx hb dX4_digest_32 rfl (lv_at hl 1 rfl) ?_
    refine g_cl hw (g_runV (As := [.long v10]) (rest := []) hx hb hml hown hts mX4_digestEntries vX4_digestEntries kX4_216 hw 0 0 (ci_0 (by decide)) (bi_0 (by decide) hn) rfl rfl (c_X4_digestEntries hn h) rfl rfl ⟨Nat.le_of_ble_eq_true rfl, Nat.le_of_ble_eq_true rfl⟩ rfl hl.1 rfl (Nat.le_of_ble_eq_true rfl) dX4_digest_33 ⟨Nat.zero_le _, Nat.zero_le _⟩) ?_
    clear h hw; intro v14 M13 H locs hw h
    refine lv_lstore_n (lv' := [(1, .long v14), (0, .ref (o.2.1 0 0))]) hx hb dX4_digest_36 rfl hl (by decide) rfl ?_
    clear hl; clear ls; intro ls hl
    refine lv_aload_n hx hb dX4_digest_37 rfl (lv_at hl 1 rfl) ?_
    refine lv_lload_n hx hb dX4_digest_38 rfl (lv_at hl 0 rfl) ?_
    refine g_cl hw (g_runV (As := [.long v14]) (rest := []) hx hb hml hown hts mX4_digestWeeks vX4_digestWeeks kX4_220 hw 0 0 (ci_0 (by decide)) (bi_0 (by decide) hn) rfl rfl (c_X4_digestWeeks hn h) rfl rfl ⟨Nat.le_of_ble_eq_true rfl, Nat.le_of_ble_eq_true rfl⟩ rfl hl.1 rfl (Nat.le_of_ble_eq_true rfl) dX4_digest_39 ⟨Nat.zero_le _, Nat.zero_le _⟩) ?_
    clear h hw; intro v16 M15 H locs hw h
    refine lv_lstore_n (lv' := [(1, .long v16), (0, .ref (o.2.1 0 0))]) hx hb dX4_digest_42 rfl hl (by decide) rfl ?_
    clear hl; clear ls; intro ls hl
    refine lv_aload_n hx hb dX4_digest_43 rfl (lv_at hl 1 rfl) ?_
    refine lv_lload_n hx hb dX4_digest_44 rfl (lv_at hl 0 rfl) ?_
    refine g_cl hw (g_runV (As := [.long v16]) (rest := []) hx hb hml hown hts mX4_digestDays vX4_digestDays kX4_223 hw 0 0 (ci_0 (by decide)) (bi_0 (by decide) hn) rfl rfl (c_X4_digestDays hn h) rfl rfl ⟨Nat.le_of_ble_eq_true rfl, Nat.le_of_ble_eq_true rfl⟩ rfl hl.1 rfl (Nat.le_of_ble_eq_true rfl) dX4_digest_45 ⟨Nat.zero_le _, Nat.zero_le _⟩) ?_
    clear h hw; intro v18 M17 H locs hw h
    refine lv_lstore_n (lv' := [(1, .long v18), (0, .ref (o.2.1 0 0))]) hx hb dX4_digest_48 rfl hl (by decide) rfl ?_
    clear hl; clear ls; intro ls hl
    refine lv_ldc2 hx hb hown (hts _ kX4_211) dX4_digest_49 ?_
    refine lv_lload_n hx hb dX4_digest_52 rfl (lv_at hl 0 rfl) ?_
    refine lv_lmul hx hb dX4_digest_53 ?_
    refine lv_aload_n hx hb dX4_digest_54 rfl (lv_at hl 1 rfl) ?_
    refine g_ci hw (g_runV (As := []) (rest := [.long ((31 : Int64) * v18)]) hx hb hml hown hts mX4_enough vX4_enough kX4_226 hw 0 0 (ci_0 (by decide)) (bi_0 (by decide) hn) rfl rfl (c_X4_enough hn h) rfl rfl ⟨Nat.le_of_ble_eq_true rfl, Nat.le_of_ble_eq_true rfl⟩ rfl hl.1 rfl (Nat.le_of_ble_eq_true rfl) dX4_digest_55 ⟨Nat.zero_le _, Nat.zero_le _⟩) ?_
    clear h hw; intro v20 M19 H locs hw h
    refine lv_i2l hx hb dX4_digest_58 rfl ?_
    refine lv_ladd hx hb dX4_digest_59 ?_
    refine g_topl h ?_
    clear h; intro v21 h
    refine lv_lstore_n (lv' := [(1, .long v21), (0, .ref (o.2.1 0 0))]) hx hb dX4_digest_60 rfl hl (by decide) rfl ?_
    clear hl; clear ls; intro ls hl
    refine lv_ldc2 hx hb hown (hts _ kX4_211) dX4_digest_61 ?_
    refine lv_lload_n hx hb dX4_digest_64 rfl (lv_at hl 0 rfl) ?_
    refine lv_lmul hx hb dX4_digest_65 ?_
    refine lv_aload_n hx hb dX4_digest_66 rfl (lv_at hl 1 rfl) ?_
    refine lv_iconst (v := 1) hx hb dX4_digest_67 (by decide) ?_
    refine lv_iconst (v := 0) hx hb dX4_digest_68 (by decide) ?_
    refine g_ci hw (g_runV (As := [.int (1 : Int32), .int (0 : Int32)]) (rest := [.long ((31 : Int64) * v21)]) hx hb hml hown hts mX4_free vX4_free kX4_229 hw 0 0 (ci_0 (by decide)) (bi_0 (by decide) hn) rfl rfl (c_X4_free hn h) rfl rfl ⟨Nat.le_of_ble_eq_true rfl, Nat.le_of_ble_eq_true rfl⟩ rfl hl.1 rfl (Nat.le_of_ble_eq_true rfl) dX4_digest_69 ⟨Nat.zero_le _, Nat.zero_le _⟩) ?_
    clear h hw; intro v23 M22 H locs hw h
    refine lv_i2l hx hb dX4_digest_72 rfl ?_
    refine lv_ladd hx hb dX4_digest_73 ?_
    exact g_lret hx hb hr hlocks hw h dX4_digest_74
  clear h; intro K4 hK4 h
  refine loop_W (body := w_X4_digest_L6 K4) (fun (x : Int64 × Int32 × Mm) => ∀ (H : Heap) (locs : List Loc) (ls : Array Slot), WO o (WA o) s s.heap H locs x.2.2 → lv_has ls 4 [(0, .ref (o.2.1 0 0)), (1, .long x.1), (3, .int x.2.1)] → W p l e rm_X4_digest s m args below meth c H locs 0 0 (MQ below (QL o Q) args s 0 0 (WA o)) (F0 m 6 ls [])) ?_ n _ h _ _ _ hw (lv_sub hl [2, 1, 0] rfl)
  clear h hw hl; clear ls; intro R5 x hR5 h H locs ls hw hl
  obtain ⟨v1, v2, M3⟩ := x
  replace hl : lv_has ls 4 [(0, .ref (o.2.1 0 0)), (1, .long v1), (3, .int v2)] := hl
  dsimp only at hw
  unfold w_X4_digest_L6 at h
  dsimp only at h
  refine lv_iload_n hx hb dX4_digest_6 rfl (lv_at hl 2 rfl) ?_
  refine lv_bipush (v := 11) hx hb dX4_digest_7 (by decide) ?_
  refine g_icmp_gt (tgt := 31) hx hb h dX4_digest_9 (by decide) ?_ ?_
  · clear h; intro h
    exact hK4 (v1, v2, M3) h _ _ _ hw (lv_sub hl [0, 1] rfl)
  · clear h; intro h
    refine lv_ldc2 hx hb hown (hts _ kX4_211) dX4_digest_12 ?_
    refine lv_lload_n hx hb dX4_digest_15 rfl (lv_at hl 1 rfl) ?_
    refine lv_lmul hx hb dX4_digest_16 ?_
    refine lv_aload_n hx hb dX4_digest_17 rfl (lv_at hl 0 rfl) ?_
    refine lv_iload_n hx hb dX4_digest_18 rfl (lv_at hl 2 rfl) ?_
    refine g_ci hw (g_runV (As := [.int v2]) (rest := [.long ((31 : Int64) * v1)]) hx hb hml hown hts mX4_told vX4_told kX4_213 hw 0 0 (ci_0 (by decide)) (bi_0 (by decide) hn) rfl rfl (c_X4_told hn h) rfl rfl ⟨Nat.le_of_ble_eq_true rfl, Nat.le_of_ble_eq_true rfl⟩ rfl hl.1 rfl (Nat.le_of_ble_eq_true rfl) dX4_digest_19 ⟨Nat.zero_le _, Nat.zero_le _⟩) ?_
    clear h hw; intro v7 M6 H locs hw h
    refine lv_i2l hx hb dX4_digest_22 rfl ?_
    refine lv_ladd hx hb dX4_digest_23 ?_
    refine g_topl h ?_
    clear h; intro v8 h
    refine lv_lstore_n (lv' := [(1, .long v8), (0, .ref (o.2.1 0 0)), (3, .int v2)]) hx hb dX4_digest_24 rfl hl (by decide) rfl ?_
    clear hl; clear ls; intro ls hl
    refine g_iinc (k := 2) (v := (v2 + (1 : Int32))) (lv' := fun v9 => [(3, .int v9), (1, .long v8), (0, .ref (o.2.1 0 0))]) hx hb dX4_digest_25 hl rfl rfl (by decide) (fun _ => rfl) h ?_
    clear h hl; clear ls; intro v9 ls h hl
    refine lv_goto (tgt := 6) hx hb dX4_digest_28 (by decide) ?_
    exact hR5 (v8, v9, M6) h _ _ _ hw (lv_sub hl [2, 1, 0] rfl)
abbrev rm_X5_in : Room := { frames := 0, cells := 0, slots := 0, locals := 0 }
set_option maxHeartbeats 4000000 in
set_option maxRecDepth 100000 in
theorem c_X5_in {o : Om} {l : Launch} (hn : 122 ≤ o.2.2.2) {M : Mm} {x0 : Int32} {x1 : Int32} {x2 : Int32} {Q : Int32 → Mm → Prop} (h : w_X5_in M x0 x1 x2 Q) : CZ o l yX5_in cX5_in 3 rm_X5_in [.int x0, .int x1, .int x2] M Q := by
  refine g_start (by decide +kernel) (Nat.le_of_ble_eq_true rfl) ?_
  intro p e s m args below meth c hx hb hr hlocks hml hown hts hw ls hl
  replace hl : lv_has ls 3 [(0, .int x0), (1, .int x1), (2, .int x2)] := hl
  unfold w_X5_in at h
  refine lv_iload_n hx hb dX5_in_0 rfl (lv_at hl 0 rfl) ?_
  refine lv_iload_n hx hb dX5_in_1 rfl (lv_at hl 1 rfl) ?_
  refine g_icmp_lt (tgt := 14) hx hb h dX5_in_2 (by decide) ?_ ?_
  · clear h; intro h
    refine lv_iconst (v := 0) hx hb dX5_in_14 (by decide) ?_
    exact g_zret hx hb hr hlocks hw (Or.inl rfl) h dX5_in_15
  · clear h; intro h
    refine lv_iload_n hx hb dX5_in_5 rfl (lv_at hl 0 rfl) ?_
    refine lv_iload_n hx hb dX5_in_6 rfl (lv_at hl 2 rfl) ?_
    refine g_icmp_gt (tgt := 14) hx hb h dX5_in_7 (by decide) ?_ ?_
    · clear h; intro h
      refine lv_iconst (v := 0) hx hb dX5_in_14 (by decide) ?_
      exact g_zret hx hb hr hlocks hw (Or.inl rfl) h dX5_in_15
    · clear h; intro h
      refine lv_iconst (v := 1) hx hb dX5_in_10 (by decide) ?_
      refine lv_goto (tgt := 15) hx hb dX5_in_11 (by decide) ?_
      exact g_zret hx hb hr hlocks hw (Or.inr rfl) h dX5_in_15
abbrev rm_X5_records : Room := { frames := 0, cells := 0, slots := 0, locals := 0 }
set_option maxHeartbeats 4000000 in
set_option maxRecDepth 100000 in
theorem c_X5_records {o : Om} {l : Launch} (hn : 122 ≤ o.2.2.2) {M : Mm} {Q : Mm → Prop} (h : w_X5_records M Q) : CV o l yX5_records cX5_records 2 rm_X5_records [.ref (o.2.1 17 0)] M Q := by
  refine g_start (by decide +kernel) (Nat.le_of_ble_eq_true rfl) ?_
  intro p e s m args below meth c hx hb hr hlocks hml hown hts hw ls hl
  replace hl : lv_has ls 2 [(0, .ref (o.2.1 17 0))] := hl
  unfold w_X5_records at h
  refine lv_aload_n hx hb dX5_records_0 rfl (lv_at hl 0 rfl) ?_
  refine g_getf hx hb hts in_X5 hown hw 17 0 (ci_17 (by decide)) (bi_17 (by decide) hn) rfl rfl 1 (by decide) kX5_28 rfl dX5_records_1 ?_
  refine lv_bipush (v := 8) hx hb dX5_records_4 (by decide) ?_
  refine letJ_W (fun (x : Mm) => ∀ (H : Heap) (locs : List Loc) (ls : Array Slot), WO o (WA o) s s.heap H locs x → lv_has ls 2 [(0, .ref (o.2.1 17 0))] → W p l e rm_X5_records s m args below meth c H locs 0 0 (MQ below (QV o Q) args s 0 0 (WA o)) (F0 m 50 ls [])) h ?_ ?_
  · clear h hw hl; clear ls; intro x h H locs ls hw hl
    obtain ⟨M2, rfl⟩ : ∃ z, z = x := ⟨_, rfl⟩
    replace hl : lv_has ls 2 [(0, .ref (o.2.1 17 0))] := hl
    refine lv_aload_n hx hb dX5_records_50 rfl (lv_at hl 0 rfl) ?_
    refine lv_dup hx hb dX5_records_51 rfl ?_
    refine g_getf hx hb hts in_X5 hown hw 17 0 (ci_17 (by decide)) (bi_17 (by decide) hn) rfl rfl 1 (by decide) kX5_28 rfl dX5_records_52 ?_
    refine lv_iconst (v := 1) hx hb dX5_records_55 (by decide) ?_
    refine lv_iadd hx hb dX5_records_56 ?_
    refine g_putf hx hb hts in_X5 tyX5 tyX5_ok nmX5 hown hw 17 0 (ci_17 (by decide)) (bi_17 (by decide) hn) rfl 1 (by decide) rfl rfl kX5_28 (by decide +kernel) (by decide +kernel) (by simp) h dX5_records_57 ?_
    clear h hw; intro M3 H locs hw h
    refine lv_iconst (v := 0) hx hb dX5_records_60 (by decide) ?_
    refine lv_istore_n (lv' := [(1, .int (0 : Int32)), (0, .ref (o.2.1 17 0))]) hx hb dX5_records_61 rfl hl (by decide) rfl ?_
    clear hl; clear ls; intro ls hl
    obtain ⟨n, h⟩ := h
    refine letK_W (body := fun K => w_X5_records_L62 K) (fun (x : Int32 × Mm) => ∀ (H : Heap) (locs : List Loc) (ls : Array Slot), WO o (WA o) s s.heap H locs x.2 → lv_has ls 2 [] → W p l e rm_X5_records s m args below meth c H locs 0 0 (MQ below (QV o Q) args s 0 0 (WA o)) (F0 m 94 ls [])) h ?_ ?_
    · clear h hw hl; clear ls; intro x h H locs ls hw hl
      obtain ⟨v11, M12⟩ := x
      replace hl : lv_has ls 2 [] := hl
      dsimp only at h hw
      exact g_vret hx hb hr hlocks hw h dX5_records_94
    clear h; intro K6 hK6 h
    refine loop_W (body := w_X5_records_L62 K6) (fun (x : Int32 × Mm) => ∀ (H : Heap) (locs : List Loc) (ls : Array Slot), WO o (WA o) s s.heap H locs x.2 → lv_has ls 2 [(0, .ref (o.2.1 17 0)), (1, .int x.1)] → W p l e rm_X5_records s m args below meth c H locs 0 0 (MQ below (QV o Q) args s 0 0 (WA o)) (F0 m 62 ls [])) ?_ n _ h _ _ _ hw (lv_sub hl [1, 0] rfl)
    clear h hw hl; clear ls; intro R7 x hR7 h H locs ls hw hl
    obtain ⟨v4, M5⟩ := x
    replace hl : lv_has ls 2 [(0, .ref (o.2.1 17 0)), (1, .int v4)] := hl
    dsimp only at hw
    unfold w_X5_records_L62 at h
    dsimp only at h
    refine lv_iload_n hx hb dX5_records_62 rfl (lv_at hl 1 rfl) ?_
    refine lv_bipush (v := 101) hx hb dX5_records_63 (by decide) ?_
    refine g_icmp_ge (tgt := 94) hx hb h dX5_records_65 (by decide) ?_ ?_
    · clear h; intro h
      exact hK6 (v4, M5) h _ _ _ hw (lv_sub hl [] rfl)
    · clear h; intro h
      refine lv_aload_n hx hb dX5_records_68 rfl (lv_at hl 0 rfl) ?_
      refine g_getf hx hb hts in_X5 hown hw 17 0 (ci_17 (by decide)) (bi_17 (by decide) hn) rfl rfl 0 (by decide) kX5_7 rfl dX5_records_69 ?_
      refine lv_bipush (v := 101) hx hb dX5_records_72 (by decide) ?_
      refine lv_aload_n hx hb dX5_records_74 rfl (lv_at hl 0 rfl) ?_
      refine g_getf hx hb hts in_X5 hown hw 17 0 (ci_17 (by decide)) (bi_17 (by decide) hn) rfl rfl 1 (by decide) kX5_28 rfl dX5_records_75 ?_
      refine lv_imul hx hb dX5_records_78 ?_
      refine lv_iload_n hx hb dX5_records_79 rfl (lv_at hl 1 rfl) ?_
      refine lv_iadd hx hb dX5_records_80 ?_
      refine lv_aload_n hx hb dX5_records_81 rfl (lv_at hl 0 rfl) ?_
      refine g_getf hx hb hts in_X5 hown hw 17 0 (ci_17 (by decide)) (bi_17 (by decide) hn) rfl rfl 0 (by decide) kX5_7 rfl dX5_records_82 ?_
      refine lv_iload_n hx hb dX5_records_85 rfl (lv_at hl 1 rfl) ?_
      refine g_iald hx hb hw 18 0 (ci_18 (by decide)) (bi_18 (by decide) hn) rfl h dX5_records_86 ?_
      clear h; intro v8 h
      refine g_iast hx hb hw 18 0 (ci_18 (by decide)) (bi_18 (by decide) hn) (fun _ => rfl) h dX5_records_87 ?_
      clear h hw; intro M9 H locs hw h
      refine g_iinc (k := 1) (v := (v4 + (1 : Int32))) (lv' := fun v10 => [(1, .int v10), (0, .ref (o.2.1 17 0))]) hx hb dX5_records_88 hl rfl rfl (by decide) (fun _ => rfl) h ?_
      clear h hl; clear ls; intro v10 ls h hl
      refine lv_goto (tgt := 62) hx hb dX5_records_91 (by decide) ?_
      exact hR7 (v10, M9) h _ _ _ hw (lv_sub hl [1, 0] rfl)
  clear h; intro J1 hJ1 h
  refine g_icmp_ne (tgt := 50) hx hb h dX5_records_6 (by decide) ?_ ?_
  · clear h; intro h
    exact hJ1 M h _ _ _ hw (lv_sub hl [0] rfl)
  · clear h; intro h
    refine lv_bipush (v := 101) hx hb dX5_records_9 (by decide) ?_
    refine lv_istore_n (lv' := [(1, .int (101 : Int32)), (0, .ref (o.2.1 17 0))]) hx hb dX5_records_11 rfl hl (by decide) rfl ?_
    clear hl; clear ls; intro ls hl
    obtain ⟨n, h⟩ := h
    refine letK_W (body := fun K => w_X5_records_L12 K) (fun (x : Int32 × Mm) => ∀ (H : Heap) (locs : List Loc) (ls : Array Slot), WO o (WA o) s s.heap H locs x.2 → lv_has ls 2 [(0, .ref (o.2.1 17 0))] → W p l e rm_X5_records s m args below meth c H locs 0 0 (MQ below (QV o Q) args s 0 0 (WA o)) (F0 m 40 ls [])) h ?_ ?_
    · clear h hw hl; clear ls; intro x h H locs ls hw hl
      obtain ⟨v20, M21⟩ := x
      replace hl : lv_has ls 2 [(0, .ref (o.2.1 17 0))] := hl
      dsimp only at h hw
      refine lv_aload_n hx hb dX5_records_40 rfl (lv_at hl 0 rfl) ?_
      refine lv_dup hx hb dX5_records_41 rfl ?_
      refine g_getf hx hb hts in_X5 hown hw 17 0 (ci_17 (by decide)) (bi_17 (by decide) hn) rfl rfl 1 (by decide) kX5_28 rfl dX5_records_42 ?_
      refine lv_iconst (v := 1) hx hb dX5_records_45 (by decide) ?_
      refine lv_isub hx hb dX5_records_46 ?_
      refine g_putf hx hb hts in_X5 tyX5 tyX5_ok nmX5 hown hw 17 0 (ci_17 (by decide)) (bi_17 (by decide) hn) rfl 1 (by decide) rfl rfl kX5_28 (by decide +kernel) (by decide +kernel) (by simp) h dX5_records_47 ?_
      clear h hw; intro M22 H locs hw h
      exact hJ1 M22 h _ _ _ hw (lv_sub hl [0] rfl)
    clear h; intro K15 hK15 h
    refine loop_W (body := w_X5_records_L12 K15) (fun (x : Int32 × Mm) => ∀ (H : Heap) (locs : List Loc) (ls : Array Slot), WO o (WA o) s s.heap H locs x.2 → lv_has ls 2 [(0, .ref (o.2.1 17 0)), (1, .int x.1)] → W p l e rm_X5_records s m args below meth c H locs 0 0 (MQ below (QV o Q) args s 0 0 (WA o)) (F0 m 12 ls [])) ?_ n _ h _ _ _ hw (lv_sub hl [1, 0] rfl)
    clear h hw hl; clear ls; intro R16 x hR16 h H locs ls hw hl
    obtain ⟨v13, M14⟩ := x
    replace hl : lv_has ls 2 [(0, .ref (o.2.1 17 0)), (1, .int v13)] := hl
    dsimp only at hw
    unfold w_X5_records_L12 at h
    dsimp only at h
    refine lv_iload_n hx hb dX5_records_12 rfl (lv_at hl 1 rfl) ?_
    refine lv_sipush (v := 808) hx hb dX5_records_13 (by decide) ?_
    refine g_icmp_ge (tgt := 40) hx hb h dX5_records_16 (by decide) ?_ ?_
    · clear h; intro h
      exact hK15 (v13, M14) h _ _ _ hw (lv_sub hl [0] rfl)
    · clear h; intro h
      refine lv_aload_n hx hb dX5_records_19 rfl (lv_at hl 0 rfl) ?_
      refine g_getf hx hb hts in_X5 hown hw 17 0 (ci_17 (by decide)) (bi_17 (by decide) hn) rfl rfl 0 (by decide) kX5_7 rfl dX5_records_20 ?_
      refine lv_iload_n hx hb dX5_records_23 rfl (lv_at hl 1 rfl) ?_
      refine lv_aload_n hx hb dX5_records_24 rfl (lv_at hl 0 rfl) ?_
      refine g_getf hx hb hts in_X5 hown hw 17 0 (ci_17 (by decide)) (bi_17 (by decide) hn) rfl rfl 0 (by decide) kX5_7 rfl dX5_records_25 ?_
      refine lv_iload_n hx hb dX5_records_28 rfl (lv_at hl 1 rfl) ?_
      refine lv_bipush (v := 101) hx hb dX5_records_29 (by decide) ?_
      refine lv_iadd hx hb dX5_records_31 ?_
      refine g_iald hx hb hw 18 0 (ci_18 (by decide)) (bi_18 (by decide) hn) rfl h dX5_records_32 ?_
      clear h; intro v17 h
      refine g_iast hx hb hw 18 0 (ci_18 (by decide)) (bi_18 (by decide) hn) (fun _ => rfl) h dX5_records_33 ?_
      clear h hw; intro M18 H locs hw h
      refine g_iinc (k := 1) (v := (v13 + (1 : Int32))) (lv' := fun v19 => [(1, .int v19), (0, .ref (o.2.1 17 0))]) hx hb dX5_records_34 hl rfl rfl (by decide) (fun _ => rfl) h ?_
      clear h hl; clear ls; intro v19 ls h hl
      refine lv_goto (tgt := 12) hx hb dX5_records_37 (by decide) ?_
      exact hR16 (v19, M18) h _ _ _ hw (lv_sub hl [1, 0] rfl)
abbrev rm_X5_begins : Room := { frames := 0, cells := 0, slots := 0, locals := 0 }
set_option maxHeartbeats 4000000 in
set_option maxRecDepth 100000 in
theorem c_X5_begins {o : Om} {l : Launch} (hn : 122 ≤ o.2.2.2) {M : Mm} {x1 : Int32} {Q : Int32 → Mm → Prop} (h : w_X5_begins M x1 Q) : CI o l yX5_begins cX5_begins 2 rm_X5_begins [.ref (o.2.1 17 0), .int x1] M Q := by
  refine g_start (by decide +kernel) (Nat.le_of_ble_eq_true rfl) ?_
  intro p e s m args below meth c hx hb hr hlocks hml hown hts hw ls hl
  replace hl : lv_has ls 2 [(0, .ref (o.2.1 17 0)), (1, .int x1)] := hl
  unfold w_X5_begins at h
  refine lv_aload_n hx hb dX5_begins_0 rfl (lv_at hl 0 rfl) ?_
  refine g_getf hx hb hts in_X5 hown hw 17 0 (ci_17 (by decide)) (bi_17 (by decide) hn) rfl rfl 0 (by decide) kX5_7 rfl dX5_begins_1 ?_
  refine lv_iconst (v := 5) hx hb dX5_begins_4 (by decide) ?_
  refine lv_iconst (v := 4) hx hb dX5_begins_5 (by decide) ?_
  refine lv_iload_n hx hb dX5_begins_6 rfl (lv_at hl 1 rfl) ?_
  refine lv_imul hx hb dX5_begins_7 ?_
  refine lv_iadd hx hb dX5_begins_8 ?_
  refine g_iald hx hb hw 18 0 (ci_18 (by decide)) (bi_18 (by decide) hn) rfl h dX5_begins_9 ?_
  clear h; intro v1 h
  exact g_iret hx hb hr hlocks hw h dX5_begins_10
abbrev rm_X5_ends : Room := { frames := 0, cells := 0, slots := 0, locals := 0 }
set_option maxHeartbeats 4000000 in
set_option maxRecDepth 100000 in
theorem c_X5_ends {o : Om} {l : Launch} (hn : 122 ≤ o.2.2.2) {M : Mm} {x1 : Int32} {Q : Int32 → Mm → Prop} (h : w_X5_ends M x1 Q) : CI o l yX5_ends cX5_ends 2 rm_X5_ends [.ref (o.2.1 17 0), .int x1] M Q := by
  refine g_start (by decide +kernel) (Nat.le_of_ble_eq_true rfl) ?_
  intro p e s m args below meth c hx hb hr hlocks hml hown hts hw ls hl
  replace hl : lv_has ls 2 [(0, .ref (o.2.1 17 0)), (1, .int x1)] := hl
  unfold w_X5_ends at h
  refine lv_aload_n hx hb dX5_ends_0 rfl (lv_at hl 0 rfl) ?_
  refine g_getf hx hb hts in_X5 hown hw 17 0 (ci_17 (by decide)) (bi_17 (by decide) hn) rfl rfl 0 (by decide) kX5_7 rfl dX5_ends_1 ?_
  refine lv_iconst (v := 5) hx hb dX5_ends_4 (by decide) ?_
  refine lv_iconst (v := 4) hx hb dX5_ends_5 (by decide) ?_
  refine lv_iload_n hx hb dX5_ends_6 rfl (lv_at hl 1 rfl) ?_
  refine lv_imul hx hb dX5_ends_7 ?_
  refine lv_iadd hx hb dX5_ends_8 ?_
  refine lv_iconst (v := 1) hx hb dX5_ends_9 (by decide) ?_
  refine lv_iadd hx hb dX5_ends_10 ?_
  refine g_iald hx hb hw 18 0 (ci_18 (by decide)) (bi_18 (by decide) hn) rfl h dX5_ends_11 ?_
  clear h; intro v1 h
  exact g_iret hx hb hr hlocks hw h dX5_ends_12
abbrev rm_X5_timeOf : Room := { frames := 0, cells := 0, slots := 0, locals := 0 }
set_option maxHeartbeats 4000000 in
set_option maxRecDepth 100000 in
theorem c_X5_timeOf {o : Om} {l : Launch} (hn : 122 ≤ o.2.2.2) {M : Mm} {x1 : Int32} {Q : Int32 → Mm → Prop} (h : w_X5_timeOf M x1 Q) : CI o l yX5_timeOf cX5_timeOf 2 rm_X5_timeOf [.ref (o.2.1 17 0), .int x1] M Q := by
  refine g_start (by decide +kernel) (Nat.le_of_ble_eq_true rfl) ?_
  intro p e s m args below meth c hx hb hr hlocks hml hown hts hw ls hl
  replace hl : lv_has ls 2 [(0, .ref (o.2.1 17 0)), (1, .int x1)] := hl
  unfold w_X5_timeOf at h
  refine lv_aload_n hx hb dX5_timeOf_0 rfl (lv_at hl 0 rfl) ?_
  refine g_getf hx hb hts in_X5 hown hw 17 0 (ci_17 (by decide)) (bi_17 (by decide) hn) rfl rfl 0 (by decide) kX5_7 rfl dX5_timeOf_1 ?_
  refine lv_iconst (v := 5) hx hb dX5_timeOf_4 (by decide) ?_
  refine lv_iconst (v := 4) hx hb dX5_timeOf_5 (by decide) ?_
  refine lv_iload_n hx hb dX5_timeOf_6 rfl (lv_at hl 1 rfl) ?_
  refine lv_imul hx hb dX5_timeOf_7 ?_
  refine lv_iadd hx hb dX5_timeOf_8 ?_
  refine lv_iconst (v := 2) hx hb dX5_timeOf_9 (by decide) ?_
  refine lv_iadd hx hb dX5_timeOf_10 ?_
  refine g_iald hx hb hw 18 0 (ci_18 (by decide)) (bi_18 (by decide) hn) rfl h dX5_timeOf_11 ?_
  clear h; intro v1 h
  exact g_iret hx hb hr hlocks hw h dX5_timeOf_12
abbrev rm_X5_rankOf : Room := { frames := 0, cells := 0, slots := 0, locals := 0 }
set_option maxHeartbeats 4000000 in
set_option maxRecDepth 100000 in
theorem c_X5_rankOf {o : Om} {l : Launch} (hn : 122 ≤ o.2.2.2) {M : Mm} {x1 : Int32} {Q : Int32 → Mm → Prop} (h : w_X5_rankOf M x1 Q) : CI o l yX5_rankOf cX5_rankOf 2 rm_X5_rankOf [.ref (o.2.1 17 0), .int x1] M Q := by
  refine g_start (by decide +kernel) (Nat.le_of_ble_eq_true rfl) ?_
  intro p e s m args below meth c hx hb hr hlocks hml hown hts hw ls hl
  replace hl : lv_has ls 2 [(0, .ref (o.2.1 17 0)), (1, .int x1)] := hl
  unfold w_X5_rankOf at h
  refine lv_aload_n hx hb dX5_rankOf_0 rfl (lv_at hl 0 rfl) ?_
  refine g_getf hx hb hts in_X5 hown hw 17 0 (ci_17 (by decide)) (bi_17 (by decide) hn) rfl rfl 0 (by decide) kX5_7 rfl dX5_rankOf_1 ?_
  refine lv_iconst (v := 5) hx hb dX5_rankOf_4 (by decide) ?_
  refine lv_iconst (v := 4) hx hb dX5_rankOf_5 (by decide) ?_
  refine lv_iload_n hx hb dX5_rankOf_6 rfl (lv_at hl 1 rfl) ?_
  refine lv_imul hx hb dX5_rankOf_7 ?_
  refine lv_iadd hx hb dX5_rankOf_8 ?_
  refine lv_iconst (v := 3) hx hb dX5_rankOf_9 (by decide) ?_
  refine lv_iadd hx hb dX5_rankOf_10 ?_
  refine g_iald hx hb hw 18 0 (ci_18 (by decide)) (bi_18 (by decide) hn) rfl h dX5_rankOf_11 ?_
  clear h; intro v1 h
  exact g_iret hx hb hr hlocks hw h dX5_rankOf_12
abbrev rm_X5_isEntry : Room := { frames := 1, cells := 0, slots := 0, locals := 22 }
set_option maxHeartbeats 4000000 in
set_option maxRecDepth 100000 in
theorem c_X5_isEntry {o : Om} {l : Launch} (hn : 122 ≤ o.2.2.2) {M : Mm} {x1 : Int32} {Q : Int32 → Mm → Prop} (h : w_X5_isEntry M x1 Q) : CZ o l yX5_isEntry cX5_isEntry 2 rm_X5_isEntry [.ref (o.2.1 17 0), .int x1] M Q := by
  refine g_start (by decide +kernel) (Nat.le_of_ble_eq_true rfl) ?_
  intro p e s m args below meth c hx hb hr hlocks hml hown hts hw ls hl
  replace hl : lv_has ls 2 [(0, .ref (o.2.1 17 0)), (1, .int x1)] := hl
  unfold w_X5_isEntry at h
  refine lv_iload_n hx hb dX5_isEntry_0 rfl (lv_at hl 1 rfl) ?_
  refine lv_iconst (v := 0) hx hb dX5_isEntry_1 (by decide) ?_
  refine lv_aload_n hx hb dX5_isEntry_2 rfl (lv_at hl 0 rfl) ?_
  refine g_getf hx hb hts in_X5 hown hw 17 0 (ci_17 (by decide)) (bi_17 (by decide) hn) rfl rfl 0 (by decide) kX5_7 rfl dX5_isEntry_3 ?_
  refine lv_iconst (v := 4) hx hb dX5_isEntry_6 (by decide) ?_
  refine g_iald hx hb hw 18 0 (ci_18 (by decide)) (bi_18 (by decide) hn) rfl h dX5_isEntry_7 ?_
  clear h; intro v1 h
  refine lv_iconst (v := 1) hx hb dX5_isEntry_8 (by decide) ?_
  refine lv_isub hx hb dX5_isEntry_9 ?_
  refine g_cz hw (g_runS (As := [.int x1, .int (0 : Int32), .int (v1 - (1 : Int32))]) (rest := []) hx hb hml hown hts mX5_in sX5_in kX5_32 hw (c_X5_in hn h) rfl rfl ⟨Nat.le_of_ble_eq_true rfl, Nat.le_of_ble_eq_true rfl⟩ rfl hl.1 rfl (Nat.le_of_ble_eq_true rfl) dX5_isEntry_10 ⟨Nat.zero_le _, Nat.zero_le _⟩) ?_
  clear h hw; intro v3 M2 H locs hw hz_v3 h
  exact g_zret hx hb hr hlocks hw hz_v3 h dX5_isEntry_13
abbrev rm_X5_isDay : Room := { frames := 1, cells := 0, slots := 0, locals := 22 }
set_option maxHeartbeats 4000000 in
set_option maxRecDepth 100000 in
theorem c_X5_isDay {o : Om} {l : Launch} (hn : 122 ≤ o.2.2.2) {M : Mm} {x0 : Int32} {Q : Int32 → Mm → Prop} (h : w_X5_isDay M x0 Q) : CZ o l yX5_isDay cX5_isDay 1 rm_X5_isDay [.int x0] M Q := by
  refine g_start (by decide +kernel) (Nat.le_of_ble_eq_true rfl) ?_
  intro p e s m args below meth c hx hb hr hlocks hml hown hts hw ls hl
  replace hl : lv_has ls 1 [(0, .int x0)] := hl
  unfold w_X5_isDay at h
  refine lv_iload_n hx hb dX5_isDay_0 rfl (lv_at hl 0 rfl) ?_
  refine lv_iconst (v := 0) hx hb dX5_isDay_1 (by decide) ?_
  refine lv_sipush (v := 999) hx hb dX5_isDay_2 (by decide) ?_
  refine g_cz hw (g_runS (As := [.int x0, .int (0 : Int32), .int (999 : Int32)]) (rest := []) hx hb hml hown hts mX5_in sX5_in kX5_32 hw (c_X5_in hn h) rfl rfl ⟨Nat.le_of_ble_eq_true rfl, Nat.le_of_ble_eq_true rfl⟩ rfl hl.1 rfl (Nat.le_of_ble_eq_true rfl) dX5_isDay_5 ⟨Nat.zero_le _, Nat.zero_le _⟩) ?_
  clear h hw; intro v2 M1 H locs hw hz_v2 h
  exact g_zret hx hb hr hlocks hw hz_v2 h dX5_isDay_8
abbrev rm_X5_isOnPage : Room := { frames := 1, cells := 0, slots := 0, locals := 22 }
set_option maxHeartbeats 4000000 in
set_option maxRecDepth 100000 in
theorem c_X5_isOnPage {o : Om} {l : Launch} (hn : 122 ≤ o.2.2.2) {M : Mm} {x1 : Int32} {Q : Int32 → Mm → Prop} (h : w_X5_isOnPage M x1 Q) : CZ o l yX5_isOnPage cX5_isOnPage 2 rm_X5_isOnPage [.ref (o.2.1 17 0), .int x1] M Q := by
  refine g_start (by decide +kernel) (Nat.le_of_ble_eq_true rfl) ?_
  intro p e s m args below meth c hx hb hr hlocks hml hown hts hw ls hl
  replace hl : lv_has ls 2 [(0, .ref (o.2.1 17 0)), (1, .int x1)] := hl
  unfold w_X5_isOnPage at h
  refine lv_iload_n hx hb dX5_isOnPage_0 rfl (lv_at hl 1 rfl) ?_
  refine lv_aload_n hx hb dX5_isOnPage_1 rfl (lv_at hl 0 rfl) ?_
  refine g_getf hx hb hts in_X5 hown hw 17 0 (ci_17 (by decide)) (bi_17 (by decide) hn) rfl rfl 0 (by decide) kX5_7 rfl dX5_isOnPage_2 ?_
  refine lv_iconst (v := 0) hx hb dX5_isOnPage_5 (by decide) ?_
  refine g_iald hx hb hw 18 0 (ci_18 (by decide)) (bi_18 (by decide) hn) rfl h dX5_isOnPage_6 ?_
  clear h; intro v1 h
  refine lv_aload_n hx hb dX5_isOnPage_7 rfl (lv_at hl 0 rfl) ?_
  refine g_getf hx hb hts in_X5 hown hw 17 0 (ci_17 (by decide)) (bi_17 (by decide) hn) rfl rfl 0 (by decide) kX5_7 rfl dX5_isOnPage_8 ?_
  refine lv_iconst (v := 1) hx hb dX5_isOnPage_11 (by decide) ?_
  refine g_iald hx hb hw 18 0 (ci_18 (by decide)) (bi_18 (by decide) hn) rfl h dX5_isOnPage_12 ?_
  clear h; intro v2 h
  refine g_cz hw (g_runS (As := [.int x1, .int v1, .int v2]) (rest := []) hx hb hml hown hts mX5_in sX5_in kX5_32 hw (c_X5_in hn h) rfl rfl ⟨Nat.le_of_ble_eq_true rfl, Nat.le_of_ble_eq_true rfl⟩ rfl hl.1 rfl (Nat.le_of_ble_eq_true rfl) dX5_isOnPage_13 ⟨Nat.zero_le _, Nat.zero_le _⟩) ?_
  clear h hw; intro v4 M3 H locs hw hz_v4 h
  exact g_zret hx hb hr hlocks hw hz_v4 h dX5_isOnPage_16
abbrev rm_X5_isLong : Room := { frames := 1, cells := 0, slots := 0, locals := 21 }
set_option maxHeartbeats 4000000 in
set_option maxRecDepth 100000 in
theorem c_X5_isLong {o : Om} {l : Launch} (hn : 122 ≤ o.2.2.2) {M : Mm} {x1 : Int32} {Q : Int32 → Mm → Prop} (h : w_X5_isLong M x1 Q) : CZ o l yX5_isLong cX5_isLong 2 rm_X5_isLong [.ref (o.2.1 17 0), .int x1] M Q := by
  refine g_start (by decide +kernel) (Nat.le_of_ble_eq_true rfl) ?_
  intro p e s m args below meth c hx hb hr hlocks hml hown hts hw ls hl
  replace hl : lv_has ls 2 [(0, .ref (o.2.1 17 0)), (1, .int x1)] := hl
  unfold w_X5_isLong at h
  refine lv_aload_n hx hb dX5_isLong_0 rfl (lv_at hl 0 rfl) ?_
  refine lv_iload_n hx hb dX5_isLong_1 rfl (lv_at hl 1 rfl) ?_
  refine g_ci hw (g_runV (As := [.int x1]) (rest := []) hx hb hml hown hts mX5_ends vX5_ends kX5_36 hw 17 0 (ci_17 (by decide)) (bi_17 (by decide) hn) rfl rfl (c_X5_ends hn h) rfl rfl ⟨Nat.le_of_ble_eq_true rfl, Nat.le_of_ble_eq_true rfl⟩ rfl hl.1 rfl (Nat.le_of_ble_eq_true rfl) dX5_isLong_2 ⟨Nat.zero_le _, Nat.zero_le _⟩) ?_
  clear h hw; intro v2 M1 H locs hw h
  refine lv_aload_n hx hb dX5_isLong_5 rfl (lv_at hl 0 rfl) ?_
  refine lv_iload_n hx hb dX5_isLong_6 rfl (lv_at hl 1 rfl) ?_
  refine g_ci hw (g_runV (As := [.int x1]) (rest := [.int v2]) hx hb hml hown hts mX5_begins vX5_begins kX5_40 hw 17 0 (ci_17 (by decide)) (bi_17 (by decide) hn) rfl rfl (c_X5_begins hn h) rfl rfl ⟨Nat.le_of_ble_eq_true rfl, Nat.le_of_ble_eq_true rfl⟩ rfl hl.1 rfl (Nat.le_of_ble_eq_true rfl) dX5_isLong_7 ⟨Nat.zero_le _, Nat.zero_le _⟩) ?_
  clear h hw; intro v4 M3 H locs hw h
  refine g_icmp_gt (tgt := 23) hx hb h dX5_isLong_10 (by decide) ?_ ?_
  · clear h; intro h
    refine lv_iconst (v := 1) hx hb dX5_isLong_23 (by decide) ?_
    refine lv_goto (tgt := 28) hx hb dX5_isLong_24 (by decide) ?_
    exact g_zret hx hb hr hlocks hw (Or.inr rfl) h dX5_isLong_28
  · clear h; intro h
    refine lv_aload_n hx hb dX5_isLong_13 rfl (lv_at hl 0 rfl) ?_
    refine lv_iload_n hx hb dX5_isLong_14 rfl (lv_at hl 1 rfl) ?_
    refine g_ci hw (g_runV (As := [.int x1]) (rest := []) hx hb hml hown hts mX5_timeOf vX5_timeOf kX5_43 hw 17 0 (ci_17 (by decide)) (bi_17 (by decide) hn) rfl rfl (c_X5_timeOf hn h) rfl rfl ⟨Nat.le_of_ble_eq_true rfl, Nat.le_of_ble_eq_true rfl⟩ rfl hl.1 rfl (Nat.le_of_ble_eq_true rfl) dX5_isLong_15 ⟨Nat.zero_le _, Nat.zero_le _⟩) ?_
    clear h hw; intro v6 M5 H locs hw h
    refine lv_bipush (v := (-9)) hx hb dX5_isLong_18 (by decide) ?_
    refine g_icmp_ne (tgt := 27) hx hb h dX5_isLong_20 (by decide) ?_ ?_
    · clear h; intro h
      refine lv_iconst (v := 0) hx hb dX5_isLong_27 (by decide) ?_
      exact g_zret hx hb hr hlocks hw (Or.inl rfl) h dX5_isLong_28
    · clear h; intro h
      refine lv_iconst (v := 1) hx hb dX5_isLong_23 (by decide) ?_
      refine lv_goto (tgt := 28) hx hb dX5_isLong_24 (by decide) ?_
      exact g_zret hx hb hr hlocks hw (Or.inr rfl) h dX5_isLong_28
abbrev rm_X5_isOn : Room := { frames := 1, cells := 0, slots := 0, locals := 22 }
set_option maxHeartbeats 4000000 in
set_option maxRecDepth 100000 in
theorem c_X5_isOn {o : Om} {l : Launch} (hn : 122 ≤ o.2.2.2) {M : Mm} {x1 : Int32} {x2 : Int32} {Q : Int32 → Mm → Prop} (h : w_X5_isOn M x1 x2 Q) : CZ o l yX5_isOn cX5_isOn 3 rm_X5_isOn [.ref (o.2.1 17 0), .int x1, .int x2] M Q := by
  refine g_start (by decide +kernel) (Nat.le_of_ble_eq_true rfl) ?_
  intro p e s m args below meth c hx hb hr hlocks hml hown hts hw ls hl
  replace hl : lv_has ls 3 [(0, .ref (o.2.1 17 0)), (1, .int x1), (2, .int x2)] := hl
  unfold w_X5_isOn at h
  refine lv_iload_n hx hb dX5_isOn_0 rfl (lv_at hl 2 rfl) ?_
  refine lv_aload_n hx hb dX5_isOn_1 rfl (lv_at hl 0 rfl) ?_
  refine lv_iload_n hx hb dX5_isOn_2 rfl (lv_at hl 1 rfl) ?_
  refine g_ci hw (g_runV (As := [.int x1]) (rest := [.int x2]) hx hb hml hown hts mX5_begins vX5_begins kX5_40 hw 17 0 (ci_17 (by decide)) (bi_17 (by decide) hn) rfl rfl (c_X5_begins hn h) rfl rfl ⟨Nat.le_of_ble_eq_true rfl, Nat.le_of_ble_eq_true rfl⟩ rfl hl.1 rfl (Nat.le_of_ble_eq_true rfl) dX5_isOn_3 ⟨Nat.zero_le _, Nat.zero_le _⟩) ?_
  clear h hw; intro v2 M1 H locs hw h
  refine lv_aload_n hx hb dX5_isOn_6 rfl (lv_at hl 0 rfl) ?_
  refine lv_iload_n hx hb dX5_isOn_7 rfl (lv_at hl 1 rfl) ?_
  refine g_ci hw (g_runV (As := [.int x1]) (rest := [.int v2, .int x2]) hx hb hml hown hts mX5_ends vX5_ends kX5_36 hw 17 0 (ci_17 (by decide)) (bi_17 (by decide) hn) rfl rfl (c_X5_ends hn h) rfl rfl ⟨Nat.le_of_ble_eq_true rfl, Nat.le_of_ble_eq_true rfl⟩ rfl hl.1 rfl (Nat.le_of_ble_eq_true rfl) dX5_isOn_8 ⟨Nat.zero_le _, Nat.zero_le _⟩) ?_
  clear h hw; intro v4 M3 H locs hw h
  refine g_cz hw (g_runS (As := [.int x2, .int v2, .int v4]) (rest := []) hx hb hml hown hts mX5_in sX5_in kX5_32 hw (c_X5_in hn h) rfl rfl ⟨Nat.le_of_ble_eq_true rfl, Nat.le_of_ble_eq_true rfl⟩ rfl hl.1 rfl (Nat.le_of_ble_eq_true rfl) dX5_isOn_11 ⟨Nat.zero_le _, Nat.zero_le _⟩) ?_
  clear h hw; intro v6 M5 H locs hw hz_v6 h
  exact g_zret hx hb hr hlocks hw hz_v6 h dX5_isOn_14
abbrev rm_X5_weekOf : Room := { frames := 0, cells := 0, slots := 0, locals := 0 }
set_option maxHeartbeats 4000000 in
set_option maxRecDepth 100000 in
theorem c_X5_weekOf {o : Om} {l : Launch} (hn : 122 ≤ o.2.2.2) {M : Mm} {x1 : Int32} {Q : Int32 → Mm → Prop} (h : w_X5_weekOf M x1 Q) : CI o l yX5_weekOf cX5_weekOf 4 rm_X5_weekOf [.ref (o.2.1 17 0), .int x1] M Q := by
  refine g_start (by decide +kernel) (Nat.le_of_ble_eq_true rfl) ?_
  intro p e s m args below meth c hx hb hr hlocks hml hown hts hw ls hl
  replace hl : lv_has ls 4 [(0, .ref (o.2.1 17 0)), (1, .int x1)] := hl
  unfold w_X5_weekOf at h
  refine lv_iconst (v := 0) hx hb dX5_weekOf_0 (by decide) ?_
  refine lv_istore_n (lv' := [(2, .int (0 : Int32)), (0, .ref (o.2.1 17 0)), (1, .int x1)]) hx hb dX5_weekOf_1 rfl hl (by decide) rfl ?_
  clear hl; clear ls; intro ls hl
  refine lv_aload_n hx hb dX5_weekOf_2 rfl (lv_at hl 1 rfl) ?_
  refine g_getf hx hb hts in_X5 hown hw 17 0 (ci_17 (by decide)) (bi_17 (by decide) hn) rfl rfl 0 (by decide) kX5_7 rfl dX5_weekOf_3 ?_
  refine lv_iconst (v := 0) hx hb dX5_weekOf_6 (by decide) ?_
  refine g_iald hx hb hw 18 0 (ci_18 (by decide)) (bi_18 (by decide) hn) rfl h dX5_weekOf_7 ?_
  clear h; intro v1 h
  refine lv_iconst (v := 1) hx hb dX5_weekOf_8 (by decide) ?_
  refine lv_iadd hx hb dX5_weekOf_9 ?_
  refine g_topi h ?_
  clear h; intro v2 h
  refine lv_istore_n (lv' := [(3, .int v2), (2, .int (0 : Int32)), (0, .ref (o.2.1 17 0)), (1, .int x1)]) hx hb dX5_weekOf_10 rfl hl (by decide) rfl ?_
  clear hl; clear ls; intro ls hl
  obtain ⟨n, h⟩ := h
  refine letK_W (body := fun K => w_X5_weekOf_L11 x1 K) (fun (x : Int32 × Int32 × Mm) => ∀ (H : Heap) (locs : List Loc) (ls : Array Slot), WO o (WA o) s s.heap H locs x.2.2 → lv_has ls 4 [(2, .int x.1)] → W p l e rm_X5_weekOf s m args below meth c H locs 0 0 (MQ below (QI o Q) args s 0 0 (WA o)) (F0 m 43 ls [])) h ?_ ?_
  · clear h hw hl; clear ls; intro x h H locs ls hw hl
    obtain ⟨v13, v14, M15⟩ := x
    replace hl : lv_has ls 4 [(2, .int v13)] := hl
    dsimp only at h hw
    refine lv_iload_n hx hb dX5_weekOf_43 rfl (lv_at hl 0 rfl) ?_
    exact g_iret hx hb hr hlocks hw h dX5_weekOf_44
  clear h; intro K6 hK6 h
  refine loop_W (body := w_X5_weekOf_L11 x1 K6) (fun (x : Int32 × Int32 × Mm) => ∀ (H : Heap) (locs : List Loc) (ls : Array Slot), WO o (WA o) s s.heap H locs x.2.2 → lv_has ls 4 [(0, .ref (o.2.1 17 0)), (1, .int x1), (2, .int x.1), (3, .int x.2.1)] → W p l e rm_X5_weekOf s m args below meth c H locs 0 0 (MQ below (QI o Q) args s 0 0 (WA o)) (F0 m 11 ls [])) ?_ n _ h _ _ _ hw (lv_sub hl [2, 3, 1, 0] rfl)
  clear h hw hl; clear ls; intro R7 x hR7 h H locs ls hw hl
  obtain ⟨v3, v4, M5⟩ := x
  replace hl : lv_has ls 4 [(0, .ref (o.2.1 17 0)), (1, .int x1), (2, .int v3), (3, .int v4)] := hl
  dsimp only at hw
  unfold w_X5_weekOf_L11 at h
  dsimp only at h
  refine lv_iload_n hx hb dX5_weekOf_11 rfl (lv_at hl 3 rfl) ?_
  refine lv_iload_n hx hb dX5_weekOf_12 rfl (lv_at hl 1 rfl) ?_
  refine g_icmp_gt (tgt := 43) hx hb h dX5_weekOf_13 (by decide) ?_ ?_
  · clear h; intro h
    exact hK6 (v3, v4, M5) h _ _ _ hw (lv_sub hl [2] rfl)
  · clear h; intro h
    refine lv_iload_n hx hb dX5_weekOf_16 rfl (lv_at hl 2 rfl) ?_
    refine lv_iload_n hx hb dX5_weekOf_17 rfl (lv_at hl 3 rfl) ?_
    refine lv_bipush (v := 7) hx hb dX5_weekOf_18 (by decide) ?_
    refine lv_irem hx hb dX5_weekOf_20 (by decide) ?_
    refine lv_aload_n hx hb dX5_weekOf_21 rfl (lv_at hl 0 rfl) ?_
    refine g_getf hx hb hts in_X5 hown hw 17 0 (ci_17 (by decide)) (bi_17 (by decide) hn) rfl rfl 0 (by decide) kX5_7 rfl dX5_weekOf_22 ?_
    refine lv_iconst (v := 2) hx hb dX5_weekOf_25 (by decide) ?_
    refine g_iald hx hb hw 18 0 (ci_18 (by decide)) (bi_18 (by decide) hn) rfl h dX5_weekOf_26 ?_
    clear h; intro v8 h
    refine g_icmp_ne (tgt := 34) hx hb h dX5_weekOf_27 (by decide) ?_ ?_
    · clear h; intro h
      refine lv_iconst (v := 0) hx hb dX5_weekOf_34 (by decide) ?_
      refine lv_iadd hx hb dX5_weekOf_35 ?_
      refine g_topi h ?_
      clear h; intro v9 h
      refine lv_istore_n (lv' := [(2, .int v9), (0, .ref (o.2.1 17 0)), (1, .int x1), (3, .int v4)]) hx hb dX5_weekOf_36 rfl hl (by decide) rfl ?_
      clear hl; clear ls; intro ls hl
      refine g_iinc (k := 3) (v := (v4 + (1 : Int32))) (lv' := fun v10 => [(3, .int v10), (2, .int v9), (0, .ref (o.2.1 17 0)), (1, .int x1)]) hx hb dX5_weekOf_37 hl rfl rfl (by decide) (fun _ => rfl) h ?_
      clear h hl; clear ls; intro v10 ls h hl
      refine lv_goto (tgt := 11) hx hb dX5_weekOf_40 (by decide) ?_
      exact hR7 (v9, v10, M5) h _ _ _ hw (lv_sub hl [2, 3, 1, 0] rfl)
    · clear h; intro h
      refine lv_iconst (v := 1) hx hb dX5_weekOf_30 (by decide) ?_
      refine lv_goto (tgt := 35) hx hb dX5_weekOf_31 (by decide) ?_
      refine lv_iadd hx hb dX5_weekOf_35 ?_
      refine g_topi h ?_
      clear h; intro v11 h
      refine lv_istore_n (lv' := [(2, .int v11), (0, .ref (o.2.1 17 0)), (1, .int x1), (3, .int v4)]) hx hb dX5_weekOf_36 rfl hl (by decide) rfl ?_
      clear hl; clear ls; intro ls hl
      refine g_iinc (k := 3) (v := (v4 + (1 : Int32))) (lv' := fun v12 => [(3, .int v12), (2, .int v11), (0, .ref (o.2.1 17 0)), (1, .int x1)]) hx hb dX5_weekOf_37 hl rfl rfl (by decide) (fun _ => rfl) h ?_
      clear h hl; clear ls; intro v12 ls h hl
      refine lv_goto (tgt := 11) hx hb dX5_weekOf_40 (by decide) ?_
      exact hR7 (v11, v12, M5) h _ _ _ hw (lv_sub hl [2, 3, 1, 0] rfl)
abbrev rm_X5_weeks : Room := { frames := 1, cells := 0, slots := 0, locals := 23 }
set_option maxHeartbeats 4000000 in
set_option maxRecDepth 100000 in
theorem c_X5_weeks {o : Om} {l : Launch} (hn : 122 ≤ o.2.2.2) {M : Mm} {Q : Int32 → Mm → Prop} (h : w_X5_weeks M Q) : CI o l yX5_weeks cX5_weeks 1 rm_X5_weeks [.ref (o.2.1 17 0)] M Q := by
  refine g_start (by decide +kernel) (Nat.le_of_ble_eq_true rfl) ?_
  intro p e s m args below meth c hx hb hr hlocks hml hown hts hw ls hl
  replace hl : lv_has ls 1 [(0, .ref (o.2.1 17 0))] := hl
  unfold w_X5_weeks at h
  refine lv_aload_n hx hb dX5_weeks_0 rfl (lv_at hl 0 rfl) ?_
  refine lv_aload_n hx hb dX5_weeks_1 rfl (lv_at hl 0 rfl) ?_
  refine g_getf hx hb hts in_X5 hown hw 17 0 (ci_17 (by decide)) (bi_17 (by decide) hn) rfl rfl 0 (by decide) kX5_7 rfl dX5_weeks_2 ?_
  refine lv_iconst (v := 1) hx hb dX5_weeks_5 (by decide) ?_
  refine g_iald hx hb hw 18 0 (ci_18 (by decide)) (bi_18 (by decide) hn) rfl h dX5_weeks_6 ?_
  clear h; intro v1 h
  refine g_ci hw (g_runV (As := [.int v1]) (rest := []) hx hb hml hown hts mX5_weekOf vX5_weekOf kX5_46 hw 17 0 (ci_17 (by decide)) (bi_17 (by decide) hn) rfl rfl (c_X5_weekOf hn h) rfl rfl ⟨Nat.le_of_ble_eq_true rfl, Nat.le_of_ble_eq_true rfl⟩ rfl hl.1 rfl (Nat.le_of_ble_eq_true rfl) dX5_weeks_7 ⟨Nat.zero_le _, Nat.zero_le _⟩) ?_
  clear h hw; intro v3 M2 H locs hw h
  refine lv_iconst (v := 1) hx hb dX5_weeks_10 (by decide) ?_
  refine lv_iadd hx hb dX5_weeks_11 ?_
  exact g_iret hx hb hr hlocks hw h dX5_weeks_12
abbrev rm_X5_weekFirst : Room := { frames := 1, cells := 0, slots := 0, locals := 23 }
set_option maxHeartbeats 4000000 in
set_option maxRecDepth 100000 in
theorem c_X5_weekFirst {o : Om} {l : Launch} (hn : 122 ≤ o.2.2.2) {M : Mm} {x1 : Int32} {Q : Int32 → Mm → Prop} (h : w_X5_weekFirst M x1 Q) : CI o l yX5_weekFirst cX5_weekFirst 3 rm_X5_weekFirst [.ref (o.2.1 17 0), .int x1] M Q := by
  refine g_start (by decide +kernel) (Nat.le_of_ble_eq_true rfl) ?_
  intro p e s m args below meth c hx hb hr hlocks hml hown hts hw ls hl
  replace hl : lv_has ls 3 [(0, .ref (o.2.1 17 0)), (1, .int x1)] := hl
  unfold w_X5_weekFirst at h
  refine lv_aload_n hx hb dX5_weekFirst_0 rfl (lv_at hl 0 rfl) ?_
  refine g_getf hx hb hts in_X5 hown hw 17 0 (ci_17 (by decide)) (bi_17 (by decide) hn) rfl rfl 0 (by decide) kX5_7 rfl dX5_weekFirst_1 ?_
  refine lv_iconst (v := 0) hx hb dX5_weekFirst_4 (by decide) ?_
  refine g_iald hx hb hw 18 0 (ci_18 (by decide)) (bi_18 (by decide) hn) rfl h dX5_weekFirst_5 ?_
  clear h; intro v1 h
  refine lv_istore_n (lv' := [(2, .int v1), (0, .ref (o.2.1 17 0)), (1, .int x1)]) hx hb dX5_weekFirst_6 rfl hl (by decide) rfl ?_
  clear hl; clear ls; intro ls hl
  obtain ⟨n, h⟩ := h
  refine letK_W (body := fun K => w_X5_weekFirst_L7 x1 K) (fun (x : Int32 × Mm) => ∀ (H : Heap) (locs : List Loc) (ls : Array Slot), WO o (WA o) s s.heap H locs x.2 → lv_has ls 3 [(2, .int x.1)] → W p l e rm_X5_weekFirst s m args below meth c H locs 0 0 (MQ below (QI o Q) args s 0 0 (WA o)) (F0 m 22 ls [])) h ?_ ?_
  · clear h hw hl; clear ls; intro x h H locs ls hw hl
    obtain ⟨v9, M10⟩ := x
    replace hl : lv_has ls 3 [(2, .int v9)] := hl
    dsimp only at h hw
    refine lv_iload_n hx hb dX5_weekFirst_22 rfl (lv_at hl 0 rfl) ?_
    exact g_iret hx hb hr hlocks hw h dX5_weekFirst_23
  clear h; intro K4 hK4 h
  refine loop_W (body := w_X5_weekFirst_L7 x1 K4) (fun (x : Int32 × Mm) => ∀ (H : Heap) (locs : List Loc) (ls : Array Slot), WO o (WA o) s s.heap H locs x.2 → lv_has ls 3 [(0, .ref (o.2.1 17 0)), (1, .int x1), (2, .int x.1)] → W p l e rm_X5_weekFirst s m args below meth c H locs 0 0 (MQ below (QI o Q) args s 0 0 (WA o)) (F0 m 7 ls [])) ?_ n _ h _ _ _ hw (lv_sub hl [1, 2, 0] rfl)
  clear h hw hl; clear ls; intro R5 x hR5 h H locs ls hw hl
  obtain ⟨v2, M3⟩ := x
  replace hl : lv_has ls 3 [(0, .ref (o.2.1 17 0)), (1, .int x1), (2, .int v2)] := hl
  dsimp only at hw
  unfold w_X5_weekFirst_L7 at h
  dsimp only at h
  refine lv_aload_n hx hb dX5_weekFirst_7 rfl (lv_at hl 0 rfl) ?_
  refine lv_iload_n hx hb dX5_weekFirst_8 rfl (lv_at hl 2 rfl) ?_
  refine g_ci hw (g_runV (As := [.int v2]) (rest := []) hx hb hml hown hts mX5_weekOf vX5_weekOf kX5_46 hw 17 0 (ci_17 (by decide)) (bi_17 (by decide) hn) rfl rfl (c_X5_weekOf hn h) rfl rfl ⟨Nat.le_of_ble_eq_true rfl, Nat.le_of_ble_eq_true rfl⟩ rfl hl.1 rfl (Nat.le_of_ble_eq_true rfl) dX5_weekFirst_9 ⟨Nat.zero_le _, Nat.zero_le _⟩) ?_
  clear h hw; intro v7 M6 H locs hw h
  refine lv_iload_n hx hb dX5_weekFirst_12 rfl (lv_at hl 1 rfl) ?_
  refine g_icmp_ge (tgt := 22) hx hb h dX5_weekFirst_13 (by decide) ?_ ?_
  · clear h; intro h
    exact hK4 (v2, M6) h _ _ _ hw (lv_sub hl [2] rfl)
  · clear h; intro h
    refine g_iinc (k := 2) (v := (v2 + (1 : Int32))) (lv' := fun v8 => [(2, .int v8), (0, .ref (o.2.1 17 0)), (1, .int x1)]) hx hb dX5_weekFirst_16 hl rfl rfl (by decide) (fun _ => rfl) h ?_
    clear h hl; clear ls; intro v8 ls h hl
    refine lv_goto (tgt := 7) hx hb dX5_weekFirst_19 (by decide) ?_
    exact hR5 (v8, M6) h _ _ _ hw (lv_sub hl [1, 2, 0] rfl)
abbrev rm_X5_weekLast : Room := { frames := 1, cells := 0, slots := 0, locals := 23 }
set_option maxHeartbeats 4000000 in
set_option maxRecDepth 100000 in
theorem c_X5_weekLast {o : Om} {l : Launch} (hn : 122 ≤ o.2.2.2) {M : Mm} {x1 : Int32} {Q : Int32 → Mm → Prop} (h : w_X5_weekLast M x1 Q) : CI o l yX5_weekLast cX5_weekLast 3 rm_X5_weekLast [.ref (o.2.1 17 0), .int x1] M Q := by
  refine g_start (by decide +kernel) (Nat.le_of_ble_eq_true rfl) ?_
  intro p e s m args below meth c hx hb hr hlocks hml hown hts hw ls hl
  replace hl : lv_has ls 3 [(0, .ref (o.2.1 17 0)), (1, .int x1)] := hl
  unfold w_X5_weekLast at h
  refine lv_aload_n hx hb dX5_weekLast_0 rfl (lv_at hl 0 rfl) ?_
  refine g_getf hx hb hts in_X5 hown hw 17 0 (ci_17 (by decide)) (bi_17 (by decide) hn) rfl rfl 0 (by decide) kX5_7 rfl dX5_weekLast_1 ?_
  refine lv_iconst (v := 1) hx hb dX5_weekLast_4 (by decide) ?_
  refine g_iald hx hb hw 18 0 (ci_18 (by decide)) (bi_18 (by decide) hn) rfl h dX5_weekLast_5 ?_
  clear h; intro v1 h
  refine lv_istore_n (lv' := [(2, .int v1), (0, .ref (o.2.1 17 0)), (1, .int x1)]) hx hb dX5_weekLast_6 rfl hl (by decide) rfl ?_
  clear hl; clear ls; intro ls hl
  obtain ⟨n, h⟩ := h
  refine letK_W (body := fun K => w_X5_weekLast_L7 x1 K) (fun (x : Int32 × Mm) => ∀ (H : Heap) (locs : List Loc) (ls : Array Slot), WO o (WA o) s s.heap H locs x.2 → lv_has ls 3 [(2, .int x.1)] → W p l e rm_X5_weekLast s m args below meth c H locs 0 0 (MQ below (QI o Q) args s 0 0 (WA o)) (F0 m 22 ls [])) h ?_ ?_
  · clear h hw hl; clear ls; intro x h H locs ls hw hl
    obtain ⟨v9, M10⟩ := x
    replace hl : lv_has ls 3 [(2, .int v9)] := hl
    dsimp only at h hw
    refine lv_iload_n hx hb dX5_weekLast_22 rfl (lv_at hl 0 rfl) ?_
    exact g_iret hx hb hr hlocks hw h dX5_weekLast_23
  clear h; intro K4 hK4 h
  refine loop_W (body := w_X5_weekLast_L7 x1 K4) (fun (x : Int32 × Mm) => ∀ (H : Heap) (locs : List Loc) (ls : Array Slot), WO o (WA o) s s.heap H locs x.2 → lv_has ls 3 [(0, .ref (o.2.1 17 0)), (1, .int x1), (2, .int x.1)] → W p l e rm_X5_weekLast s m args below meth c H locs 0 0 (MQ below (QI o Q) args s 0 0 (WA o)) (F0 m 7 ls [])) ?_ n _ h _ _ _ hw (lv_sub hl [1, 2, 0] rfl)
  clear h hw hl; clear ls; intro R5 x hR5 h H locs ls hw hl
  obtain ⟨v2, M3⟩ := x
  replace hl : lv_has ls 3 [(0, .ref (o.2.1 17 0)), (1, .int x1), (2, .int v2)] := hl
  dsimp only at hw
  unfold w_X5_weekLast_L7 at h
  dsimp only at h
  refine lv_aload_n hx hb dX5_weekLast_7 rfl (lv_at hl 0 rfl) ?_
  refine lv_iload_n hx hb dX5_weekLast_8 rfl (lv_at hl 2 rfl) ?_
  refine g_ci hw (g_runV (As := [.int v2]) (rest := []) hx hb hml hown hts mX5_weekOf vX5_weekOf kX5_46 hw 17 0 (ci_17 (by decide)) (bi_17 (by decide) hn) rfl rfl (c_X5_weekOf hn h) rfl rfl ⟨Nat.le_of_ble_eq_true rfl, Nat.le_of_ble_eq_true rfl⟩ rfl hl.1 rfl (Nat.le_of_ble_eq_true rfl) dX5_weekLast_9 ⟨Nat.zero_le _, Nat.zero_le _⟩) ?_
  clear h hw; intro v7 M6 H locs hw h
  refine lv_iload_n hx hb dX5_weekLast_12 rfl (lv_at hl 1 rfl) ?_
  refine g_icmp_le (tgt := 22) hx hb h dX5_weekLast_13 (by decide) ?_ ?_
  · clear h; intro h
    exact hK4 (v2, M6) h _ _ _ hw (lv_sub hl [2] rfl)
  · clear h; intro h
    refine g_iinc (k := 2) (v := (v2 + (-1 : Int32))) (lv' := fun v8 => [(2, .int v8), (0, .ref (o.2.1 17 0)), (1, .int x1)]) hx hb dX5_weekLast_16 hl rfl rfl (by decide) (fun _ => rfl) h ?_
    clear h hl; clear ls; intro v8 ls h hl
    refine lv_goto (tgt := 7) hx hb dX5_weekLast_19 (by decide) ?_
    exact hR5 (v8, M6) h _ _ _ hw (lv_sub hl [1, 2, 0] rfl)
abbrev rm_X5_setPage : Room := { frames := 2, cells := 0, slots := 0, locals := 43 }
set_option maxHeartbeats 4000000 in
set_option maxRecDepth 100000 in
theorem c_X5_setPage {o : Om} {l : Launch} (hn : 122 ≤ o.2.2.2) {M : Mm} {x1 : Int32} {x2 : Int32} {Q : Int32 → Mm → Prop} (h : w_X5_setPage M x1 x2 Q) : CI o l yX5_setPage cX5_setPage 3 rm_X5_setPage [.ref (o.2.1 17 0), .int x1, .int x2] M Q := by
  refine g_start (by decide +kernel) (Nat.le_of_ble_eq_true rfl) ?_
  intro p e s m args below meth c hx hb hr hlocks hml hown hts hw ls hl
  replace hl : lv_has ls 3 [(0, .ref (o.2.1 17 0)), (1, .int x1), (2, .int x2)] := hl
  unfold w_X5_setPage at h
  refine lv_iload_n hx hb dX5_setPage_0 rfl (lv_at hl 1 rfl) ?_
  refine g_cz hw (g_runS (As := [.int x1]) (rest := []) hx hb hml hown hts mX5_isDay sX5_isDay kX5_49 hw (c_X5_isDay hn h) rfl rfl ⟨Nat.le_of_ble_eq_true rfl, Nat.le_of_ble_eq_true rfl⟩ rfl hl.1 rfl (Nat.le_of_ble_eq_true rfl) dX5_setPage_1 ⟨Nat.zero_le _, Nat.zero_le _⟩) ?_
  clear h hw; intro v2 M1 H locs hw hz_v2 h
  refine g_if_eq (tgt := 27) hx hb h dX5_setPage_4 (by decide) ?_ ?_
  · clear h; intro h
    refine lv_iconst (v := (-1)) hx hb dX5_setPage_27 (by decide) ?_
    exact g_iret hx hb hr hlocks hw h dX5_setPage_28
  · clear h; intro h
    refine lv_iload_n hx hb dX5_setPage_7 rfl (lv_at hl 2 rfl) ?_
    refine g_cz hw (g_runS (As := [.int x2]) (rest := []) hx hb hml hown hts mX5_isDay sX5_isDay kX5_49 hw (c_X5_isDay hn h) rfl rfl ⟨Nat.le_of_ble_eq_true rfl, Nat.le_of_ble_eq_true rfl⟩ rfl hl.1 rfl (Nat.le_of_ble_eq_true rfl) dX5_setPage_8 ⟨Nat.zero_le _, Nat.zero_le _⟩) ?_
    clear h hw; intro v4 M3 H locs hw hz_v4 h
    refine g_if_eq (tgt := 27) hx hb h dX5_setPage_11 (by decide) ?_ ?_
    · clear h; intro h
      refine lv_iconst (v := (-1)) hx hb dX5_setPage_27 (by decide) ?_
      exact g_iret hx hb hr hlocks hw h dX5_setPage_28
    · clear h; intro h
      refine lv_iload_n hx hb dX5_setPage_14 rfl (lv_at hl 2 rfl) ?_
      refine lv_iload_n hx hb dX5_setPage_15 rfl (lv_at hl 1 rfl) ?_
      refine g_icmp_lt (tgt := 27) hx hb h dX5_setPage_16 (by decide) ?_ ?_
      · clear h; intro h
        refine lv_iconst (v := (-1)) hx hb dX5_setPage_27 (by decide) ?_
        exact g_iret hx hb hr hlocks hw h dX5_setPage_28
      · clear h; intro h
        refine lv_iload_n hx hb dX5_setPage_19 rfl (lv_at hl 2 rfl) ?_
        refine lv_iload_n hx hb dX5_setPage_20 rfl (lv_at hl 1 rfl) ?_
        refine lv_bipush (v := 41) hx hb dX5_setPage_21 (by decide) ?_
        refine lv_iadd hx hb dX5_setPage_23 ?_
        refine g_icmp_le (tgt := 29) hx hb h dX5_setPage_24 (by decide) ?_ ?_
        · clear h; intro h
          refine lv_aload_n hx hb dX5_setPage_29 rfl (lv_at hl 0 rfl) ?_
          refine g_cv hw (g_runV (As := []) (rest := []) hx hb hml hown hts mX5_records vX5_records kX5_53 hw 17 0 (ci_17 (by decide)) (bi_17 (by decide) hn) rfl rfl (c_X5_records hn h) rfl rfl ⟨Nat.le_of_ble_eq_true rfl, Nat.le_of_ble_eq_true rfl⟩ rfl hl.1 rfl (Nat.le_of_ble_eq_true rfl) dX5_setPage_30 ⟨Nat.zero_le _, Nat.zero_le _⟩) ?_
          clear h hw; intro M5 H locs hw h
          refine lv_aload_n hx hb dX5_setPage_33 rfl (lv_at hl 0 rfl) ?_
          refine g_getf hx hb hts in_X5 hown hw 17 0 (ci_17 (by decide)) (bi_17 (by decide) hn) rfl rfl 0 (by decide) kX5_7 rfl dX5_setPage_34 ?_
          refine lv_iconst (v := 0) hx hb dX5_setPage_37 (by decide) ?_
          refine lv_iload_n hx hb dX5_setPage_38 rfl (lv_at hl 1 rfl) ?_
          refine g_iast hx hb hw 18 0 (ci_18 (by decide)) (bi_18 (by decide) hn) (fun _ => rfl) h dX5_setPage_39 ?_
          clear h hw; intro M6 H locs hw h
          refine lv_aload_n hx hb dX5_setPage_40 rfl (lv_at hl 0 rfl) ?_
          refine g_getf hx hb hts in_X5 hown hw 17 0 (ci_17 (by decide)) (bi_17 (by decide) hn) rfl rfl 0 (by decide) kX5_7 rfl dX5_setPage_41 ?_
          refine lv_iconst (v := 1) hx hb dX5_setPage_44 (by decide) ?_
          refine lv_iload_n hx hb dX5_setPage_45 rfl (lv_at hl 2 rfl) ?_
          refine g_iast hx hb hw 18 0 (ci_18 (by decide)) (bi_18 (by decide) hn) (fun _ => rfl) h dX5_setPage_46 ?_
          clear h hw; intro M7 H locs hw h
          refine lv_aload_n hx hb dX5_setPage_47 rfl (lv_at hl 0 rfl) ?_
          refine g_ci hw (g_runV (As := []) (rest := []) hx hb hml hown hts mX5_weeks vX5_weeks kX5_56 hw 17 0 (ci_17 (by decide)) (bi_17 (by decide) hn) rfl rfl (c_X5_weeks hn h) rfl rfl ⟨Nat.le_of_ble_eq_true rfl, Nat.le_of_ble_eq_true rfl⟩ rfl hl.1 rfl (Nat.le_of_ble_eq_true rfl) dX5_setPage_48 ⟨Nat.zero_le _, Nat.zero_le _⟩) ?_
          clear h hw; intro v9 M8 H locs hw h
          exact g_iret hx hb hr hlocks hw h dX5_setPage_51
        · clear h; intro h
          refine lv_iconst (v := (-1)) hx hb dX5_setPage_27 (by decide) ?_
          exact g_iret hx hb hr hlocks hw h dX5_setPage_28
abbrev rm_X5_setWeek : Room := { frames := 2, cells := 0, slots := 0, locals := 43 }
set_option maxHeartbeats 4000000 in
set_option maxRecDepth 100000 in
theorem c_X5_setWeek {o : Om} {l : Launch} (hn : 122 ≤ o.2.2.2) {M : Mm} {x1 : Int32} {Q : Int32 → Mm → Prop} (h : w_X5_setWeek M x1 Q) : CI o l yX5_setWeek cX5_setWeek 2 rm_X5_setWeek [.ref (o.2.1 17 0), .int x1] M Q := by
  refine g_start (by decide +kernel) (Nat.le_of_ble_eq_true rfl) ?_
  intro p e s m args below meth c hx hb hr hlocks hml hown hts hw ls hl
  replace hl : lv_has ls 2 [(0, .ref (o.2.1 17 0)), (1, .int x1)] := hl
  unfold w_X5_setWeek at h
  refine lv_iload_n hx hb dX5_setWeek_0 rfl (lv_at hl 1 rfl) ?_
  refine lv_iconst (v := 0) hx hb dX5_setWeek_1 (by decide) ?_
  refine lv_bipush (v := 6) hx hb dX5_setWeek_2 (by decide) ?_
  refine g_cz hw (g_runS (As := [.int x1, .int (0 : Int32), .int (6 : Int32)]) (rest := []) hx hb hml hown hts mX5_in sX5_in kX5_32 hw (c_X5_in hn h) rfl rfl ⟨Nat.le_of_ble_eq_true rfl, Nat.le_of_ble_eq_true rfl⟩ rfl hl.1 rfl (Nat.le_of_ble_eq_true rfl) dX5_setWeek_4 ⟨Nat.zero_le _, Nat.zero_le _⟩) ?_
  clear h hw; intro v2 M1 H locs hw hz_v2 h
  refine g_if_ne (tgt := 12) hx hb h dX5_setWeek_7 (by decide) ?_ ?_
  · clear h; intro h
    refine lv_aload_n hx hb dX5_setWeek_12 rfl (lv_at hl 0 rfl) ?_
    refine g_cv hw (g_runV (As := []) (rest := []) hx hb hml hown hts mX5_records vX5_records kX5_53 hw 17 0 (ci_17 (by decide)) (bi_17 (by decide) hn) rfl rfl (c_X5_records hn h) rfl rfl ⟨Nat.le_of_ble_eq_true rfl, Nat.le_of_ble_eq_true rfl⟩ rfl hl.1 rfl (Nat.le_of_ble_eq_true rfl) dX5_setWeek_13 ⟨Nat.zero_le _, Nat.zero_le _⟩) ?_
    clear h hw; intro M3 H locs hw h
    refine lv_aload_n hx hb dX5_setWeek_16 rfl (lv_at hl 0 rfl) ?_
    refine g_getf hx hb hts in_X5 hown hw 17 0 (ci_17 (by decide)) (bi_17 (by decide) hn) rfl rfl 0 (by decide) kX5_7 rfl dX5_setWeek_17 ?_
    refine lv_iconst (v := 2) hx hb dX5_setWeek_20 (by decide) ?_
    refine lv_iload_n hx hb dX5_setWeek_21 rfl (lv_at hl 1 rfl) ?_
    refine g_iast hx hb hw 18 0 (ci_18 (by decide)) (bi_18 (by decide) hn) (fun _ => rfl) h dX5_setWeek_22 ?_
    clear h hw; intro M4 H locs hw h
    refine lv_aload_n hx hb dX5_setWeek_23 rfl (lv_at hl 0 rfl) ?_
    refine g_ci hw (g_runV (As := []) (rest := []) hx hb hml hown hts mX5_weeks vX5_weeks kX5_56 hw 17 0 (ci_17 (by decide)) (bi_17 (by decide) hn) rfl rfl (c_X5_weeks hn h) rfl rfl ⟨Nat.le_of_ble_eq_true rfl, Nat.le_of_ble_eq_true rfl⟩ rfl hl.1 rfl (Nat.le_of_ble_eq_true rfl) dX5_setWeek_24 ⟨Nat.zero_le _, Nat.zero_le _⟩) ?_
    clear h hw; intro v6 M5 H locs hw h
    exact g_iret hx hb hr hlocks hw h dX5_setWeek_27
  · clear h; intro h
    refine lv_iconst (v := (-1)) hx hb dX5_setWeek_10 (by decide) ?_
    exact g_iret hx hb hr hlocks hw h dX5_setWeek_11
abbrev rm_X5_setRows : Room := { frames := 1, cells := 0, slots := 0, locals := 22 }
set_option maxHeartbeats 4000000 in
set_option maxRecDepth 100000 in
theorem c_X5_setRows {o : Om} {l : Launch} (hn : 122 ≤ o.2.2.2) {M : Mm} {x1 : Int32} {Q : Int32 → Mm → Prop} (h : w_X5_setRows M x1 Q) : CI o l yX5_setRows cX5_setRows 3 rm_X5_setRows [.ref (o.2.1 17 0), .int x1] M Q := by
  refine g_start (by decide +kernel) (Nat.le_of_ble_eq_true rfl) ?_
  intro p e s m args below meth c hx hb hr hlocks hml hown hts hw ls hl
  replace hl : lv_has ls 3 [(0, .ref (o.2.1 17 0)), (1, .int x1)] := hl
  unfold w_X5_setRows at h
  refine lv_iload_n hx hb dX5_setRows_0 rfl (lv_at hl 1 rfl) ?_
  refine lv_iconst (v := 1) hx hb dX5_setRows_1 (by decide) ?_
  refine lv_bipush (v := 12) hx hb dX5_setRows_2 (by decide) ?_
  refine g_cz hw (g_runS (As := [.int x1, .int (1 : Int32), .int (12 : Int32)]) (rest := []) hx hb hml hown hts mX5_in sX5_in kX5_32 hw (c_X5_in hn h) rfl rfl ⟨Nat.le_of_ble_eq_true rfl, Nat.le_of_ble_eq_true rfl⟩ rfl hl.1 rfl (Nat.le_of_ble_eq_true rfl) dX5_setRows_4 ⟨Nat.zero_le _, Nat.zero_le _⟩) ?_
  clear h hw; intro v2 M1 H locs hw hz_v2 h
  refine g_if_ne (tgt := 12) hx hb h dX5_setRows_7 (by decide) ?_ ?_
  · clear h; intro h
    refine lv_aload_n hx hb dX5_setRows_12 rfl (lv_at hl 0 rfl) ?_
    refine g_cv hw (g_runV (As := []) (rest := []) hx hb hml hown hts mX5_records vX5_records kX5_53 hw 17 0 (ci_17 (by decide)) (bi_17 (by decide) hn) rfl rfl (c_X5_records hn h) rfl rfl ⟨Nat.le_of_ble_eq_true rfl, Nat.le_of_ble_eq_true rfl⟩ rfl hl.1 rfl (Nat.le_of_ble_eq_true rfl) dX5_setRows_13 ⟨Nat.zero_le _, Nat.zero_le _⟩) ?_
    clear h hw; intro M3 H locs hw h
    refine lv_aload_n hx hb dX5_setRows_16 rfl (lv_at hl 0 rfl) ?_
    refine g_getf hx hb hts in_X5 hown hw 17 0 (ci_17 (by decide)) (bi_17 (by decide) hn) rfl rfl 0 (by decide) kX5_7 rfl dX5_setRows_17 ?_
    refine lv_iconst (v := 3) hx hb dX5_setRows_20 (by decide) ?_
    refine g_iald hx hb hw 18 0 (ci_18 (by decide)) (bi_18 (by decide) hn) rfl h dX5_setRows_21 ?_
    clear h; intro v4 h
    refine lv_istore_n (lv' := [(2, .int v4), (0, .ref (o.2.1 17 0)), (1, .int x1)]) hx hb dX5_setRows_22 rfl hl (by decide) rfl ?_
    clear hl; clear ls; intro ls hl
    refine lv_aload_n hx hb dX5_setRows_23 rfl (lv_at hl 1 rfl) ?_
    refine g_getf hx hb hts in_X5 hown hw 17 0 (ci_17 (by decide)) (bi_17 (by decide) hn) rfl rfl 0 (by decide) kX5_7 rfl dX5_setRows_24 ?_
    refine lv_iconst (v := 3) hx hb dX5_setRows_27 (by decide) ?_
    refine lv_iload_n hx hb dX5_setRows_28 rfl (lv_at hl 2 rfl) ?_
    refine g_iast hx hb hw 18 0 (ci_18 (by decide)) (bi_18 (by decide) hn) (fun _ => rfl) h dX5_setRows_29 ?_
    clear h hw; intro M5 H locs hw h
    refine lv_iload_n hx hb dX5_setRows_30 rfl (lv_at hl 0 rfl) ?_
    exact g_iret hx hb hr hlocks hw h dX5_setRows_31
  · clear h; intro h
    refine lv_iconst (v := (-1)) hx hb dX5_setRows_10 (by decide) ?_
    exact g_iret hx hb hr hlocks hw h dX5_setRows_11
abbrev rm_X5_weekAt : Room := { frames := 0, cells := 0, slots := 0, locals := 0 }
set_option maxHeartbeats 4000000 in
set_option maxRecDepth 100000 in
theorem c_X5_weekAt {o : Om} {l : Launch} (hn : 122 ≤ o.2.2.2) {M : Mm} {x1 : Int32} {Q : Int32 → Mm → Prop} (h : w_X5_weekAt M x1 Q) : CI o l yX5_weekAt cX5_weekAt 3 rm_X5_weekAt [.ref (o.2.1 17 0), .int x1] M Q := by
  refine g_start (by decide +kernel) (Nat.le_of_ble_eq_true rfl) ?_
  intro p e s m args below meth c hx hb hr hlocks hml hown hts hw ls hl
  replace hl : lv_has ls 3 [(0, .ref (o.2.1 17 0)), (1, .int x1)] := hl
  unfold w_X5_weekAt at h
  refine lv_iconst (v := 0) hx hb dX5_weekAt_0 (by decide) ?_
  refine lv_istore_n (lv' := [(2, .int (0 : Int32)), (0, .ref (o.2.1 17 0)), (1, .int x1)]) hx hb dX5_weekAt_1 rfl hl (by decide) rfl ?_
  clear hl; clear ls; intro ls hl
  obtain ⟨n, h⟩ := h
  refine letK_W (body := fun K => w_X5_weekAt_L2 x1 K) (fun (x : Int32 × Mm) => ∀ (H : Heap) (locs : List Loc) (ls : Array Slot), WO o (WA o) s s.heap H locs x.2 → lv_has ls 3 [(2, .int x.1)] → W p l e rm_X5_weekAt s m args below meth c H locs 0 0 (MQ below (QI o Q) args s 0 0 (WA o)) (F0 m 20 ls [])) h ?_ ?_
  · clear h hw hl; clear ls; intro x h H locs ls hw hl
    obtain ⟨v7, M8⟩ := x
    replace hl : lv_has ls 3 [(2, .int v7)] := hl
    dsimp only at h hw
    refine lv_iload_n hx hb dX5_weekAt_20 rfl (lv_at hl 0 rfl) ?_
    exact g_iret hx hb hr hlocks hw h dX5_weekAt_21
  clear h; intro K3 hK3 h
  refine loop_W (body := w_X5_weekAt_L2 x1 K3) (fun (x : Int32 × Mm) => ∀ (H : Heap) (locs : List Loc) (ls : Array Slot), WO o (WA o) s s.heap H locs x.2 → lv_has ls 3 [(0, .ref (o.2.1 17 0)), (1, .int x1), (2, .int x.1)] → W p l e rm_X5_weekAt s m args below meth c H locs 0 0 (MQ below (QI o Q) args s 0 0 (WA o)) (F0 m 2 ls [])) ?_ n _ h _ _ _ hw (lv_sub hl [1, 2, 0] rfl)
  clear h hw hl; clear ls; intro R4 x hR4 h H locs ls hw hl
  obtain ⟨v1, M2⟩ := x
  replace hl : lv_has ls 3 [(0, .ref (o.2.1 17 0)), (1, .int x1), (2, .int v1)] := hl
  dsimp only at hw
  unfold w_X5_weekAt_L2 at h
  dsimp only at h
  refine lv_iload_n hx hb dX5_weekAt_2 rfl (lv_at hl 1 rfl) ?_
  refine lv_aload_n hx hb dX5_weekAt_3 rfl (lv_at hl 0 rfl) ?_
  refine g_getf hx hb hts in_X5 hown hw 17 0 (ci_17 (by decide)) (bi_17 (by decide) hn) rfl rfl 6 (by decide) kX5_22 rfl dX5_weekAt_4 ?_
  refine lv_iload_n hx hb dX5_weekAt_7 rfl (lv_at hl 2 rfl) ?_
  refine lv_iconst (v := 1) hx hb dX5_weekAt_8 (by decide) ?_
  refine lv_iadd hx hb dX5_weekAt_9 ?_
  refine g_iald hx hb hw 22 0 (ci_22 (by decide)) (bi_22 (by decide) hn) rfl h dX5_weekAt_10 ?_
  clear h; intro v5 h
  refine g_icmp_lt (tgt := 20) hx hb h dX5_weekAt_11 (by decide) ?_ ?_
  · clear h; intro h
    exact hK3 (v1, M2) h _ _ _ hw (lv_sub hl [2] rfl)
  · clear h; intro h
    refine g_iinc (k := 2) (v := (v1 + (1 : Int32))) (lv' := fun v6 => [(2, .int v6), (0, .ref (o.2.1 17 0)), (1, .int x1)]) hx hb dX5_weekAt_14 hl rfl rfl (by decide) (fun _ => rfl) h ?_
    clear h hl; clear ls; intro v6 ls h hl
    refine lv_goto (tgt := 2) hx hb dX5_weekAt_17 (by decide) ?_
    exact hR4 (v6, M2) h _ _ _ hw (lv_sub hl [1, 2, 0] rfl)
abbrev rm_X5_isIn : Room := { frames := 1, cells := 0, slots := 0, locals := 21 }
set_option maxHeartbeats 4000000 in
set_option maxRecDepth 100000 in
theorem c_X5_isIn {o : Om} {l : Launch} (hn : 122 ≤ o.2.2.2) {M : Mm} {x1 : Int32} {x2 : Int32} {Q : Int32 → Mm → Prop} (h : w_X5_isIn M x1 x2 Q) : CZ o l yX5_isIn cX5_isIn 3 rm_X5_isIn [.ref (o.2.1 17 0), .int x1, .int x2] M Q := by
  refine g_start (by decide +kernel) (Nat.le_of_ble_eq_true rfl) ?_
  intro p e s m args below meth c hx hb hr hlocks hml hown hts hw ls hl
  replace hl : lv_has ls 3 [(0, .ref (o.2.1 17 0)), (1, .int x1), (2, .int x2)] := hl
  unfold w_X5_isIn at h
  refine lv_aload_n hx hb dX5_isIn_0 rfl (lv_at hl 0 rfl) ?_
  refine lv_iload_n hx hb dX5_isIn_1 rfl (lv_at hl 1 rfl) ?_
  refine g_ci hw (g_runV (As := [.int x1]) (rest := []) hx hb hml hown hts mX5_begins vX5_begins kX5_40 hw 17 0 (ci_17 (by decide)) (bi_17 (by decide) hn) rfl rfl (c_X5_begins hn h) rfl rfl ⟨Nat.le_of_ble_eq_true rfl, Nat.le_of_ble_eq_true rfl⟩ rfl hl.1 rfl (Nat.le_of_ble_eq_true rfl) dX5_isIn_2 ⟨Nat.zero_le _, Nat.zero_le _⟩) ?_
  clear h hw; intro v2 M1 H locs hw h
  refine lv_aload_n hx hb dX5_isIn_5 rfl (lv_at hl 0 rfl) ?_
  refine g_getf hx hb hts in_X5 hown hw 17 0 (ci_17 (by decide)) (bi_17 (by decide) hn) rfl rfl 6 (by decide) kX5_22 rfl dX5_isIn_6 ?_
  refine lv_iload_n hx hb dX5_isIn_9 rfl (lv_at hl 2 rfl) ?_
  refine lv_iconst (v := 1) hx hb dX5_isIn_10 (by decide) ?_
  refine lv_iadd hx hb dX5_isIn_11 ?_
  refine g_iald hx hb hw 22 0 (ci_22 (by decide)) (bi_22 (by decide) hn) rfl h dX5_isIn_12 ?_
  clear h; intro v3 h
  refine g_icmp_ge (tgt := 34) hx hb h dX5_isIn_13 (by decide) ?_ ?_
  · clear h; intro h
    refine lv_iconst (v := 0) hx hb dX5_isIn_34 (by decide) ?_
    exact g_zret hx hb hr hlocks hw (Or.inl rfl) h dX5_isIn_35
  · clear h; intro h
    refine lv_aload_n hx hb dX5_isIn_16 rfl (lv_at hl 0 rfl) ?_
    refine lv_iload_n hx hb dX5_isIn_17 rfl (lv_at hl 1 rfl) ?_
    refine g_ci hw (g_runV (As := [.int x1]) (rest := []) hx hb hml hown hts mX5_ends vX5_ends kX5_36 hw 17 0 (ci_17 (by decide)) (bi_17 (by decide) hn) rfl rfl (c_X5_ends hn h) rfl rfl ⟨Nat.le_of_ble_eq_true rfl, Nat.le_of_ble_eq_true rfl⟩ rfl hl.1 rfl (Nat.le_of_ble_eq_true rfl) dX5_isIn_18 ⟨Nat.zero_le _, Nat.zero_le _⟩) ?_
    clear h hw; intro v5 M4 H locs hw h
    refine lv_aload_n hx hb dX5_isIn_21 rfl (lv_at hl 0 rfl) ?_
    refine g_getf hx hb hts in_X5 hown hw 17 0 (ci_17 (by decide)) (bi_17 (by decide) hn) rfl rfl 6 (by decide) kX5_22 rfl dX5_isIn_22 ?_
    refine lv_iload_n hx hb dX5_isIn_25 rfl (lv_at hl 2 rfl) ?_
    refine g_iald hx hb hw 22 0 (ci_22 (by decide)) (bi_22 (by decide) hn) rfl h dX5_isIn_26 ?_
    clear h; intro v6 h
    refine g_icmp_lt (tgt := 34) hx hb h dX5_isIn_27 (by decide) ?_ ?_
    · clear h; intro h
      refine lv_iconst (v := 0) hx hb dX5_isIn_34 (by decide) ?_
      exact g_zret hx hb hr hlocks hw (Or.inl rfl) h dX5_isIn_35
    · clear h; intro h
      refine lv_iconst (v := 1) hx hb dX5_isIn_30 (by decide) ?_
      refine lv_goto (tgt := 35) hx hb dX5_isIn_31 (by decide) ?_
      exact g_zret hx hb hr hlocks hw (Or.inr rfl) h dX5_isIn_35
