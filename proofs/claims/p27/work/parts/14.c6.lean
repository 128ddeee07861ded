abbrev rm_X4_told : Room := { frames := 4, cells := 0, slots := 0, locals := 89 }
set_option maxHeartbeats 4000000 in
set_option maxRecDepth 100000 in
theorem c_X4_told {o : Om} {l : Launch} (hn : 115 ≤ o.2.2.2) {M : Mm} {x1 : Int32} {Q : Int32 → Mm → Prop} (h : w_X4_told M x1 Q) : CI o l yX4_told cX4_told 2 rm_X4_told [.ref (o.2.1 0 0), .int x1] M Q := by
  refine g_start (by decide +kernel) (Nat.le_of_ble_eq_true rfl) ?_
  intro p e s m args below meth c hx hb hr hlocks hml hown hts hw ls hl
  replace hl : lv_has ls 2 [(0, .ref (o.2.1 0 0)), (1, .int x1)] := hl
  unfold w_X4_told at h
  refine lv_iload_n hx hb dX4_told_0 rfl (lv_at hl 1 rfl) ?_
  by_cases c0 : x1 = (0 : Int32)
  · rw [if_pos c0] at h
    refine lv_tableIn (tgt := 64) hx hb dX4_told_1 (by rw [c0]; decide) (by rw [c0]; decide) (by rw [c0]; rfl) (by decide) ?_
    clear c0
    refine lv_aload_n hx hb dX4_told_64 rfl (lv_at hl 0 rfl) ?_
    refine g_getf hx hb hts in_X4 hown hw 0 0 (ci_0 (by decide)) (bi_0 (by decide) hn) rfl rfl 0 (by decide) kX4_10 rfl dX4_told_65 ?_
    refine g_getf hx hb hts in_X0 hown hw 5 0 (ci_5 (by decide)) (bi_5 (by decide) hn) rfl rfl 0 (by decide) kX4_40 rfl dX4_told_68 ?_
    refine g_getf hx hb hts in_X2 hown hw 11 0 (ci_11 (by decide)) (bi_11 (by decide) hn) rfl rfl 0 (by decide) kX4_48 rfl dX4_told_71 ?_
    exact g_iret hx hb hr hlocks hw h dX4_told_74
  rw [if_neg c0] at h
  by_cases c1 : x1 = (1 : Int32)
  · rw [if_pos c1] at h
    refine lv_tableIn (tgt := 75) hx hb dX4_told_1 (by rw [c1]; decide) (by rw [c1]; decide) (by rw [c1]; rfl) (by decide) ?_
    clear c1
    refine lv_aload_n hx hb dX4_told_75 rfl (lv_at hl 0 rfl) ?_
    refine g_getf hx hb hts in_X4 hown hw 0 0 (ci_0 (by decide)) (bi_0 (by decide) hn) rfl rfl 0 (by decide) kX4_10 rfl dX4_told_76 ?_
    refine g_getf hx hb hts in_X0 hown hw 5 0 (ci_5 (by decide)) (bi_5 (by decide) hn) rfl rfl 0 (by decide) kX4_40 rfl dX4_told_79 ?_
    refine g_getf hx hb hts in_X2 hown hw 11 0 (ci_11 (by decide)) (bi_11 (by decide) hn) rfl rfl 1 (by decide) kX4_54 rfl dX4_told_82 ?_
    exact g_iret hx hb hr hlocks hw h dX4_told_85
  rw [if_neg c1] at h
  by_cases c2 : x1 = (2 : Int32)
  · rw [if_pos c2] at h
    refine lv_tableIn (tgt := 86) hx hb dX4_told_1 (by rw [c2]; decide) (by rw [c2]; decide) (by rw [c2]; rfl) (by decide) ?_
    clear c2
    refine lv_aload_n hx hb dX4_told_86 rfl (lv_at hl 0 rfl) ?_
    refine g_getf hx hb hts in_X4 hown hw 0 0 (ci_0 (by decide)) (bi_0 (by decide) hn) rfl rfl 0 (by decide) kX4_10 rfl dX4_told_87 ?_
    refine g_getf hx hb hts in_X0 hown hw 5 0 (ci_5 (by decide)) (bi_5 (by decide) hn) rfl rfl 0 (by decide) kX4_40 rfl dX4_told_90 ?_
    refine g_getf hx hb hts in_X2 hown hw 11 0 (ci_11 (by decide)) (bi_11 (by decide) hn) rfl rfl 2 (by decide) kX4_64 rfl dX4_told_93 ?_
    exact g_iret hx hb hr hlocks hw h dX4_told_96
  rw [if_neg c2] at h
  by_cases c3 : x1 = (3 : Int32)
  · rw [if_pos c3] at h
    refine lv_tableIn (tgt := 97) hx hb dX4_told_1 (by rw [c3]; decide) (by rw [c3]; decide) (by rw [c3]; rfl) (by decide) ?_
    clear c3
    refine lv_aload_n hx hb dX4_told_97 rfl (lv_at hl 0 rfl) ?_
    refine g_getf hx hb hts in_X4 hown hw 0 0 (ci_0 (by decide)) (bi_0 (by decide) hn) rfl rfl 0 (by decide) kX4_10 rfl dX4_told_98 ?_
    refine g_getf hx hb hts in_X0 hown hw 5 0 (ci_5 (by decide)) (bi_5 (by decide) hn) rfl rfl 0 (by decide) kX4_40 rfl dX4_told_101 ?_
    refine g_getf hx hb hts in_X2 hown hw 11 0 (ci_11 (by decide)) (bi_11 (by decide) hn) rfl rfl 3 (by decide) kX4_67 rfl dX4_told_104 ?_
    exact g_iret hx hb hr hlocks hw h dX4_told_107
  rw [if_neg c3] at h
  by_cases c4 : x1 = (4 : Int32)
  · rw [if_pos c4] at h
    refine lv_tableIn (tgt := 108) hx hb dX4_told_1 (by rw [c4]; decide) (by rw [c4]; decide) (by rw [c4]; rfl) (by decide) ?_
    clear c4
    refine lv_aload_n hx hb dX4_told_108 rfl (lv_at hl 0 rfl) ?_
    refine g_getf hx hb hts in_X4 hown hw 0 0 (ci_0 (by decide)) (bi_0 (by decide) hn) rfl rfl 0 (by decide) kX4_10 rfl dX4_told_109 ?_
    refine g_getf hx hb hts in_X0 hown hw 5 0 (ci_5 (by decide)) (bi_5 (by decide) hn) rfl rfl 1 (by decide) kX4_57 rfl dX4_told_112 ?_
    exact g_iret hx hb hr hlocks hw h dX4_told_115
  rw [if_neg c4] at h
  by_cases c5 : x1 = (5 : Int32)
  · rw [if_pos c5] at h
    refine lv_tableIn (tgt := 116) hx hb dX4_told_1 (by rw [c5]; decide) (by rw [c5]; decide) (by rw [c5]; rfl) (by decide) ?_
    clear c5
    refine lv_aload_n hx hb dX4_told_116 rfl (lv_at hl 0 rfl) ?_
    refine g_getf hx hb hts in_X4 hown hw 0 0 (ci_0 (by decide)) (bi_0 (by decide) hn) rfl rfl 0 (by decide) kX4_10 rfl dX4_told_117 ?_
    refine g_getf hx hb hts in_X0 hown hw 5 0 (ci_5 (by decide)) (bi_5 (by decide) hn) rfl rfl 0 (by decide) kX4_40 rfl dX4_told_120 ?_
    refine g_getf hx hb hts in_X2 hown hw 11 0 (ci_11 (by decide)) (bi_11 (by decide) hn) rfl rfl 4 (by decide) kX4_105 rfl dX4_told_123 ?_
    exact g_iret hx hb hr hlocks hw h dX4_told_126
  rw [if_neg c5] at h
  by_cases c6 : x1 = (6 : Int32)
  · rw [if_pos c6] at h
    refine lv_tableIn (tgt := 127) hx hb dX4_told_1 (by rw [c6]; decide) (by rw [c6]; decide) (by rw [c6]; rfl) (by decide) ?_
    clear c6
    refine lv_aload_n hx hb dX4_told_127 rfl (lv_at hl 0 rfl) ?_
    refine g_getf hx hb hts in_X4 hown hw 0 0 (ci_0 (by decide)) (bi_0 (by decide) hn) rfl rfl 0 (by decide) kX4_10 rfl dX4_told_128 ?_
    refine g_getf hx hb hts in_X0 hown hw 5 0 (ci_5 (by decide)) (bi_5 (by decide) hn) rfl rfl 0 (by decide) kX4_40 rfl dX4_told_131 ?_
    refine g_ci hw (g_runV (As := []) (rest := []) hx hb hml hown hts mX2_allLongOnes vX2_allLongOnes kX4_195 hw 11 0 (ci_11 (by decide)) (bi_11 (by decide) hn) rfl rfl (c_X2_allLongOnes hn (by decide) h) rfl rfl ⟨Nat.le_of_ble_eq_true rfl, Nat.le_of_ble_eq_true rfl⟩ rfl hl.1 rfl (Nat.le_of_ble_eq_true rfl) dX4_told_134 ⟨Nat.zero_le _, Nat.zero_le _⟩) ?_
    clear h hw; intro v2 M1 H locs hw h
    exact g_iret hx hb hr hlocks hw h dX4_told_137
  rw [if_neg c6] at h
  by_cases c7 : x1 = (7 : Int32)
  · rw [if_pos c7] at h
    refine lv_tableIn (tgt := 138) hx hb dX4_told_1 (by rw [c7]; decide) (by rw [c7]; decide) (by rw [c7]; rfl) (by decide) ?_
    clear c7
    refine lv_aload_n hx hb dX4_told_138 rfl (lv_at hl 0 rfl) ?_
    refine g_getf hx hb hts in_X4 hown hw 0 0 (ci_0 (by decide)) (bi_0 (by decide) hn) rfl rfl 0 (by decide) kX4_10 rfl dX4_told_139 ?_
    refine g_getf hx hb hts in_X0 hown hw 5 0 (ci_5 (by decide)) (bi_5 (by decide) hn) rfl rfl 0 (by decide) kX4_40 rfl dX4_told_142 ?_
    refine g_ci hw (g_runV (As := []) (rest := []) hx hb hml hown hts mX2_allOnPage vX2_allOnPage kX4_199 hw 11 0 (ci_11 (by decide)) (bi_11 (by decide) hn) rfl rfl (c_X2_allOnPage hn (by decide) h) rfl rfl ⟨Nat.le_of_ble_eq_true rfl, Nat.le_of_ble_eq_true rfl⟩ rfl hl.1 rfl (Nat.le_of_ble_eq_true rfl) dX4_told_145 ⟨Nat.zero_le _, Nat.zero_le _⟩) ?_
    clear h hw; intro v4 M3 H locs hw h
    exact g_iret hx hb hr hlocks hw h dX4_told_148
  rw [if_neg c7] at h
  by_cases c8 : x1 = (8 : Int32)
  · rw [if_pos c8] at h
    refine lv_tableIn (tgt := 149) hx hb dX4_told_1 (by rw [c8]; decide) (by rw [c8]; decide) (by rw [c8]; rfl) (by decide) ?_
    clear c8
    refine lv_aload_n hx hb dX4_told_149 rfl (lv_at hl 0 rfl) ?_
    refine g_getf hx hb hts in_X4 hown hw 0 0 (ci_0 (by decide)) (bi_0 (by decide) hn) rfl rfl 0 (by decide) kX4_10 rfl dX4_told_150 ?_
    refine g_ci hw (g_runV (As := []) (rest := []) hx hb hml hown hts mX0_barsOnPage vX0_barsOnPage kX4_202 hw 5 0 (ci_5 (by decide)) (bi_5 (by decide) hn) rfl rfl (c_X0_barsOnPage hn (by decide) h) rfl rfl ⟨Nat.le_of_ble_eq_true rfl, Nat.le_of_ble_eq_true rfl⟩ rfl hl.1 rfl (Nat.le_of_ble_eq_true rfl) dX4_told_153 ⟨Nat.zero_le _, Nat.zero_le _⟩) ?_
    clear h hw; intro v6 M5 H locs hw h
    exact g_iret hx hb hr hlocks hw h dX4_told_156
  rw [if_neg c8] at h
  by_cases c9 : x1 = (9 : Int32)
  · rw [if_pos c9] at h
    refine lv_tableIn (tgt := 157) hx hb dX4_told_1 (by rw [c9]; decide) (by rw [c9]; decide) (by rw [c9]; rfl) (by decide) ?_
    clear c9
    refine lv_aload_n hx hb dX4_told_157 rfl (lv_at hl 0 rfl) ?_
    refine g_getf hx hb hts in_X4 hown hw 0 0 (ci_0 (by decide)) (bi_0 (by decide) hn) rfl rfl 0 (by decide) kX4_10 rfl dX4_told_158 ?_
    refine lv_aload_n hx hb dX4_told_161 rfl (lv_at hl 0 rfl) ?_
    refine g_getf hx hb hts in_X4 hown hw 0 0 (ci_0 (by decide)) (bi_0 (by decide) hn) rfl rfl 0 (by decide) kX4_10 rfl dX4_told_162 ?_
    refine g_getf hx hb hts in_X0 hown hw 5 0 (ci_5 (by decide)) (bi_5 (by decide) hn) rfl rfl 0 (by decide) kX4_40 rfl dX4_told_165 ?_
    refine g_getf hx hb hts in_X2 hown hw 11 0 (ci_11 (by decide)) (bi_11 (by decide) hn) rfl rfl 3 (by decide) kX4_67 rfl dX4_told_168 ?_
    refine g_ci hw (g_runV (As := [.int (M 11 0 3)]) (rest := []) hx hb hml hown hts mX0_hiddenOnPage vX0_hiddenOnPage kX4_185 hw 5 0 (ci_5 (by decide)) (bi_5 (by decide) hn) rfl rfl (c_X0_hiddenOnPage hn (by decide) h) rfl rfl ⟨Nat.le_of_ble_eq_true rfl, Nat.le_of_ble_eq_true rfl⟩ rfl hl.1 rfl (Nat.le_of_ble_eq_true rfl) dX4_told_171 ⟨Nat.zero_le _, Nat.zero_le _⟩) ?_
    clear h hw; intro v8 M7 H locs hw h
    exact g_iret hx hb hr hlocks hw h dX4_told_174
  rw [if_neg c9] at h
  by_cases c10 : x1 = (10 : Int32)
  · rw [if_pos c10] at h
    refine lv_tableIn (tgt := 175) hx hb dX4_told_1 (by rw [c10]; decide) (by rw [c10]; decide) (by rw [c10]; rfl) (by decide) ?_
    clear c10
    refine lv_aload_n hx hb dX4_told_175 rfl (lv_at hl 0 rfl) ?_
    refine g_getf hx hb hts in_X4 hown hw 0 0 (ci_0 (by decide)) (bi_0 (by decide) hn) rfl rfl 3 (by decide) kX4_29 rfl dX4_told_176 ?_
    refine g_getf hx hb hts in_X3 hown hw 3 0 (ci_3 (by decide)) (bi_3 (by decide) hn) rfl rfl 1 (by decide) kX4_91 rfl dX4_told_179 ?_
    exact g_iret hx hb hr hlocks hw h dX4_told_182
  rw [if_neg c10] at h
  by_cases c11 : x1 = (11 : Int32)
  · rw [if_pos c11] at h
    refine lv_tableIn (tgt := 183) hx hb dX4_told_1 (by rw [c11]; decide) (by rw [c11]; decide) (by rw [c11]; rfl) (by decide) ?_
    clear c11
    refine lv_aload_n hx hb dX4_told_183 rfl (lv_at hl 0 rfl) ?_
    refine g_getf hx hb hts in_X4 hown hw 0 0 (ci_0 (by decide)) (bi_0 (by decide) hn) rfl rfl 2 (by decide) kX4_22 rfl dX4_told_184 ?_
    refine g_getf hx hb hts in_X1 hown hw 1 0 (ci_1 (by decide)) (bi_1 (by decide) hn) rfl rfl 2 (by decide) kX4_205 rfl dX4_told_187 ?_
    exact g_iret hx hb hr hlocks hw h dX4_told_190
  rw [if_neg c11] at h
  refine lv_tableOut (tgt := 191) hx hb dX4_told_1 (tbl_out (fun k h1 => by rcases (show k = 0 ∨ k = 1 ∨ k = 2 ∨ k = 3 ∨ k = 4 ∨ k = 5 ∨ k = 6 ∨ k = 7 ∨ k = 8 ∨ k = 9 ∨ k = 10 ∨ k = 11 by omega) with rfl | rfl | rfl | rfl | rfl | rfl | rfl | rfl | rfl | rfl | rfl | rfl <;> assumption)) (by decide) ?_
  clear c0 c1 c2 c3 c4 c5 c6 c7 c8 c9 c10 c11
  refine lv_iconst (v := (-1)) hx hb dX4_told_191 (by decide) ?_
  exact g_iret hx hb hr hlocks hw h dX4_told_192
abbrev rm_X4_undo : Room := { frames := 4, cells := 0, slots := 0, locals := 91 }
set_option maxHeartbeats 4000000 in
set_option maxRecDepth 100000 in
theorem c_X4_undo {o : Om} {l : Launch} (hn : 115 ≤ o.2.2.2) {M : Mm} {Q : Int32 → Mm → Prop} (h : w_X4_undo M Q) : CI o l yX4_undo cX4_undo 1 rm_X4_undo [.ref (o.2.1 0 0)] M Q := by
  refine g_start (by decide +kernel) (Nat.le_of_ble_eq_true rfl) ?_
  intro p e s m args below meth c hx hb hr hlocks hml hown hts hw ls hl
  replace hl : lv_has ls 1 [(0, .ref (o.2.1 0 0))] := hl
  unfold w_X4_undo at h
  refine lv_aload_n hx hb dX4_undo_0 rfl (lv_at hl 0 rfl) ?_
  refine g_getf hx hb hts in_X4 hown hw 0 0 (ci_0 (by decide)) (bi_0 (by decide) hn) rfl rfl 2 (by decide) kX4_22 rfl dX4_undo_1 ?_
  refine g_getf hx hb hts in_X1 hown hw 1 0 (ci_1 (by decide)) (bi_1 (by decide) hn) rfl rfl 2 (by decide) kX4_205 rfl dX4_undo_4 ?_
  refine g_if_gt (tgt := 13) hx hb h dX4_undo_7 (by decide) ?_ ?_
  · clear h; intro h
    refine lv_aload_n hx hb dX4_undo_13 rfl (lv_at hl 0 rfl) ?_
    refine g_getf hx hb hts in_X4 hown hw 0 0 (ci_0 (by decide)) (bi_0 (by decide) hn) rfl rfl 2 (by decide) kX4_22 rfl dX4_undo_14 ?_
    refine lv_aload_n hx hb dX4_undo_17 rfl (lv_at hl 0 rfl) ?_
    refine g_getf hx hb hts in_X4 hown hw 0 0 (ci_0 (by decide)) (bi_0 (by decide) hn) rfl rfl 0 (by decide) kX4_10 rfl dX4_undo_18 ?_
    refine g_getf hx hb hts in_X0 hown hw 5 0 (ci_5 (by decide)) (bi_5 (by decide) hn) rfl rfl 0 (by decide) kX4_40 rfl dX4_undo_21 ?_
    refine g_cv hw (g_runV (As := [.ref (o.2.1 11 0)]) (rest := []) hx hb hml hown hts mX1_restore vX1_restore kX4_206 hw 1 0 (ci_1 (by decide)) (bi_1 (by decide) hn) rfl rfl (c_X1_restore hn (by decide) h) rfl rfl ⟨Nat.le_of_ble_eq_true rfl, Nat.le_of_ble_eq_true rfl⟩ rfl hl.1 rfl (Nat.le_of_ble_eq_true rfl) dX4_undo_24 ⟨Nat.zero_le _, Nat.zero_le _⟩) ?_
    clear h hw; intro M1 H locs hw h
    refine lv_aload_n hx hb dX4_undo_27 rfl (lv_at hl 0 rfl) ?_
    refine g_getf hx hb hts in_X4 hown hw 0 0 (ci_0 (by decide)) (bi_0 (by decide) hn) rfl rfl 0 (by decide) kX4_10 rfl dX4_undo_28 ?_
    refine g_cv hw (g_runV (As := []) (rest := []) hx hb hml hown hts mX0_lay vX0_lay kX4_33 hw 5 0 (ci_5 (by decide)) (bi_5 (by decide) hn) rfl rfl (c_X0_lay hn (by decide) h) rfl rfl ⟨Nat.le_of_ble_eq_true rfl, Nat.le_of_ble_eq_true rfl⟩ rfl hl.1 rfl (Nat.le_of_ble_eq_true rfl) dX4_undo_31 ⟨Nat.zero_le _, Nat.zero_le _⟩) ?_
    clear h hw; intro M2 H locs hw h
    refine lv_aload_n hx hb dX4_undo_34 rfl (lv_at hl 0 rfl) ?_
    refine g_getf hx hb hts in_X4 hown hw 0 0 (ci_0 (by decide)) (bi_0 (by decide) hn) rfl rfl 2 (by decide) kX4_22 rfl dX4_undo_35 ?_
    refine g_getf hx hb hts in_X1 hown hw 1 0 (ci_1 (by decide)) (bi_1 (by decide) hn) rfl rfl 2 (by decide) kX4_205 rfl dX4_undo_38 ?_
    exact g_iret hx hb hr hlocks hw h dX4_undo_41
  · clear h; intro h
    refine lv_bipush (v := (-2)) hx hb dX4_undo_10 (by decide) ?_
    exact g_iret hx hb hr hlocks hw h dX4_undo_12
abbrev rm_L_cell : Room := { frames := 0, cells := 0, slots := 0, locals := 0 }
set_option maxHeartbeats 4000000 in
set_option maxRecDepth 100000 in
theorem c_L_cell {o : Om} {l : Launch} (hn : 115 ≤ o.2.2.2) {b L : Nat} {xs : Nat → Int32} {M : Mm} {x1 : Int32} {Q : Int32 → Mm → Prop} (h : w_L_cell L xs M x1 Q) : CIs o l yL_cell cL_cell 2 rm_L_cell [.ref b, .int x1] b L xs M Q := by
  refine g_startS (by decide +kernel) (Nat.le_of_ble_eq_true rfl) ?_
  intro p e s m args below meth c hx hb hr hlocks hml hown hts hw hX hbl hbA ls hl
  replace hl : lv_has ls 2 [(0, .ref b), (1, .int x1)] := hl
  unfold w_L_cell at h
  refine lv_iload_n hx hb dL_cell_0 rfl (lv_at hl 1 rfl) ?_
  refine lv_aload_n hx hb dL_cell_1 rfl (lv_at hl 0 rfl) ?_
  refine g_slen hx hb hX hbl hbA hw dL_cell_2 ?_
  refine g_icmp_ge (tgt := 12) hx hb h dL_cell_3 (by decide) ?_ ?_
  · clear h; intro h
    refine lv_ldc hx hb hown (hts _ kL_7) dL_cell_12 ?_
    refine lv_iload_n hx hb dL_cell_14 rfl (lv_at hl 1 rfl) ?_
    refine lv_imul hx hb dL_cell_15 ?_
    refine lv_sipush (v := 2003) hx hb dL_cell_16 (by decide) ?_
    refine lv_iadd hx hb dL_cell_19 ?_
    refine lv_ldc hx hb hown (hts _ kL_8) dL_cell_20 ?_
    refine lv_iand hx hb dL_cell_22 ?_
    exact g_iret hx hb hr hlocks hw h dL_cell_23
  · clear h; intro h
    refine lv_aload_n hx hb dL_cell_6 rfl (lv_at hl 0 rfl) ?_
    refine lv_iload_n hx hb dL_cell_7 rfl (lv_at hl 1 rfl) ?_
    refine g_sld hx hb hX hbl hbA hw h dL_cell_8 ?_
    clear h; intro v1 h
    refine lv_goto (tgt := 20) hx hb dL_cell_9 (by decide) ?_
    refine lv_ldc hx hb hown (hts _ kL_8) dL_cell_20 ?_
    refine lv_iand hx hb dL_cell_22 ?_
    exact g_iret hx hb hr hlocks hw h dL_cell_23
abbrev rm_L_sets : Room := { frames := 5, cells := 0, slots := 0, locals := 115 }
set_option maxHeartbeats 4000000 in
set_option maxRecDepth 100000 in
theorem c_L_sets {o : Om} {l : Launch} (hn : 115 ≤ o.2.2.2) {b L : Nat} {xs : Nat → Int32} {M : Mm} {Q : Int32 → Mm → Prop} (h : w_L_sets L xs M Q) : CZs o l yL_sets cL_sets 10 rm_L_sets [.ref (o.2.1 0 0), .ref b] b L xs M Q := by
  refine g_startS (by decide +kernel) (Nat.le_of_ble_eq_true rfl) ?_
  intro p e s m args below meth c hx hb hr hlocks hml hown hts hw hX hbl hbA ls hl
  replace hl : lv_has ls 10 [(0, .ref (o.2.1 0 0)), (1, .ref b)] := hl
  unfold w_L_sets at h
  refine lv_aload_n hx hb dL_sets_0 rfl (lv_at hl 1 rfl) ?_
  refine lv_iconst (v := 0) hx hb dL_sets_1 (by decide) ?_
  refine g_ci hw (g_runSs (As := [.ref b, .int (0 : Int32)]) (rest := []) hx hb hml hown hts mL_cell sL_cell kL_9 hw hX hbl hbA (c_L_cell hn h) rfl rfl ⟨Nat.le_of_ble_eq_true rfl, Nat.le_of_ble_eq_true rfl⟩ rfl hl.1 rfl (Nat.le_of_ble_eq_true rfl) dL_sets_2 ⟨Nat.zero_le _, Nat.zero_le _⟩) ?_
  clear h hw; intro v2 M1 H locs hw h
  refine lv_sipush (v := 900) hx hb dL_sets_5 (by decide) ?_
  refine lv_irem hx hb dL_sets_8 (by decide) ?_
  refine g_topi h ?_
  clear h; intro v3 h
  refine lv_istore_n (lv' := [(2, .int v3), (0, .ref (o.2.1 0 0)), (1, .ref b)]) hx hb dL_sets_9 rfl hl (by decide) rfl ?_
  clear hl; clear ls; intro ls hl
  refine lv_iload_n hx hb dL_sets_10 rfl (lv_at hl 0 rfl) ?_
  refine lv_aload_n hx hb dL_sets_11 rfl (lv_at hl 2 rfl) ?_
  refine lv_iconst (v := 1) hx hb dL_sets_12 (by decide) ?_
  refine g_ci hw (g_runSs (As := [.ref b, .int (1 : Int32)]) (rest := [.int v3]) hx hb hml hown hts mL_cell sL_cell kL_9 hw hX hbl hbA (c_L_cell hn h) rfl rfl ⟨Nat.le_of_ble_eq_true rfl, Nat.le_of_ble_eq_true rfl⟩ rfl hl.1 rfl (Nat.le_of_ble_eq_true rfl) dL_sets_13 ⟨Nat.zero_le _, Nat.zero_le _⟩) ?_
  clear h hw; intro v5 M4 H locs hw h
  refine lv_bipush (v := 42) hx hb dL_sets_16 (by decide) ?_
  refine lv_irem hx hb dL_sets_18 (by decide) ?_
  refine lv_iadd hx hb dL_sets_19 ?_
  refine g_topi h ?_
  clear h; intro v6 h
  refine lv_istore_n (lv' := [(3, .int v6), (2, .int v3), (0, .ref (o.2.1 0 0)), (1, .ref b)]) hx hb dL_sets_20 rfl hl (by decide) rfl ?_
  clear hl; clear ls; intro ls hl
  refine lv_aload_n hx hb dL_sets_21 rfl (lv_at hl 2 rfl) ?_
  refine lv_aload_n hx hb dL_sets_22 rfl (lv_at hl 3 rfl) ?_
  refine lv_iconst (v := 2) hx hb dL_sets_23 (by decide) ?_
  refine g_ci hw (g_runSs (As := [.ref b, .int (2 : Int32)]) (rest := [.ref (o.2.1 0 0)]) hx hb hml hown hts mL_cell sL_cell kL_9 hw hX hbl hbA (c_L_cell hn h) rfl rfl ⟨Nat.le_of_ble_eq_true rfl, Nat.le_of_ble_eq_true rfl⟩ rfl hl.1 rfl (Nat.le_of_ble_eq_true rfl) dL_sets_24 ⟨Nat.zero_le _, Nat.zero_le _⟩) ?_
  clear h hw; intro v8 M7 H locs hw h
  refine lv_bipush (v := 7) hx hb dL_sets_27 (by decide) ?_
  refine lv_irem hx hb dL_sets_29 (by decide) ?_
  refine g_ci hw (g_runV (As := [.int (v8 - v8 / (7 : Int32) * (7 : Int32))]) (rest := []) hx hb hml hown hts mX4_setWeek vX4_setWeek kL_15 hw 0 0 (ci_0 (by decide)) (bi_0 (by decide) hn) rfl rfl (c_X4_setWeek hn h) rfl rfl ⟨Nat.le_of_ble_eq_true rfl, Nat.le_of_ble_eq_true rfl⟩ rfl hl.1 rfl (Nat.le_of_ble_eq_true rfl) dL_sets_30 ⟨Nat.zero_le _, Nat.zero_le _⟩) ?_
  clear h hw; intro v10 M9 H locs hw h
  refine letJ_W (fun (x : Int32 × Mm) => ∀ (H : Heap) (locs : List Loc) (ls : Array Slot), WO o (WA o) s s.heap H locs x.2 → lv_has ls 10 [(0, .ref (o.2.1 0 0)), (1, .ref b), (2, .int v3), (3, .int v6)] → W p l e rm_L_sets s m args below meth c H locs 0 0 (MQ below (QZ o Q) args s 0 0 (WA o)) (F0 m 68 ls [.int x.1])) h ?_ ?_
  · clear h hw hl; clear ls; intro x h H locs ls hw hl
    obtain ⟨v11, M13⟩ := x
    replace hl : lv_has ls 10 [(0, .ref (o.2.1 0 0)), (1, .ref b), (2, .int v3), (3, .int v6)] := hl
    dsimp only at h
    dsimp only at hw
    refine lv_istore (lv' := [(4, .int v11), (0, .ref (o.2.1 0 0)), (1, .ref b), (2, .int v3), (3, .int v6)]) hx hb dL_sets_68 hl (by decide) rfl ?_
    clear hl; clear ls; intro ls hl
    refine lv_iconst (v := 1) hx hb dL_sets_70 (by decide) ?_
    refine lv_aload_n hx hb dL_sets_71 rfl (lv_at hl 2 rfl) ?_
    refine lv_iconst (v := 4) hx hb dL_sets_72 (by decide) ?_
    refine g_ci hw (g_runSs (As := [.ref b, .int (4 : Int32)]) (rest := [.int (1 : Int32)]) hx hb hml hown hts mL_cell sL_cell kL_9 hw hX hbl hbA (c_L_cell hn h) rfl rfl ⟨Nat.le_of_ble_eq_true rfl, Nat.le_of_ble_eq_true rfl⟩ rfl hl.1 rfl (Nat.le_of_ble_eq_true rfl) dL_sets_73 ⟨Nat.zero_le _, Nat.zero_le _⟩) ?_
    clear h hw; intro v15 M14 H locs hw h
    refine lv_bipush (v := 12) hx hb dL_sets_76 (by decide) ?_
    refine lv_irem hx hb dL_sets_78 (by decide) ?_
    refine lv_iadd hx hb dL_sets_79 ?_
    refine g_topi h ?_
    clear h; intro v16 h
    refine lv_istore (lv' := [(5, .int v16), (4, .int v11), (0, .ref (o.2.1 0 0)), (1, .ref b), (2, .int v3), (3, .int v6)]) hx hb dL_sets_80 hl (by decide) rfl ?_
    clear hl; clear ls; intro ls hl
    refine lv_iconst (v := 0) hx hb dL_sets_82 (by decide) ?_
    refine lv_istore (lv' := [(6, .int (0 : Int32)), (5, .int v16), (4, .int v11), (0, .ref (o.2.1 0 0)), (1, .ref b), (2, .int v3), (3, .int v6)]) hx hb dL_sets_83 hl (by decide) rfl ?_
    clear hl; clear ls; intro ls hl
    obtain ⟨n, h⟩ := h
    refine letK_W (body := fun K => w_L_sets_L85 L xs v3 v6 v16 K) (fun (x : Int32 × Int32 × Mm) => ∀ (H : Heap) (locs : List Loc) (ls : Array Slot), WO o (WA o) s s.heap H locs x.2.2 → lv_has ls 10 [(4, .int x.1)] → W p l e rm_L_sets s m args below meth c H locs 0 0 (MQ below (QZ o Q) args s 0 0 (WA o)) (F0 m 220 ls [])) h ?_ ?_
    · clear h hw hl; clear ls; intro x h H locs ls hw hl
      obtain ⟨v37, v38, M39⟩ := x
      replace hl : lv_has ls 10 [(4, .int v37)] := hl
      dsimp only at h hw
      refine lv_iload hx hb dL_sets_220 (lv_at hl 0 rfl) ?_
      exact g_zret hx hb hr hlocks hw h.1 h.2 dL_sets_222
    clear h; intro K20 hK20 h
    refine loop_W (body := w_L_sets_L85 L xs v3 v6 v16 K20) (fun (x : Int32 × Int32 × Mm) => ∀ (H : Heap) (locs : List Loc) (ls : Array Slot), WO o (WA o) s s.heap H locs x.2.2 → lv_has ls 10 [(0, .ref (o.2.1 0 0)), (1, .ref b), (2, .int v3), (3, .int v6), (4, .int x.1), (5, .int v16), (6, .int x.2.1)] → W p l e rm_L_sets s m args below meth c H locs 0 0 (MQ below (QZ o Q) args s 0 0 (WA o)) (F0 m 85 ls [])) ?_ n _ h _ _ _ hw (lv_sub hl [3, 4, 5, 6, 2, 1, 0] rfl)
    clear h hw hl; clear ls; intro R21 x hR21 h H locs ls hw hl
    obtain ⟨v17, v18, M19⟩ := x
    replace hl : lv_has ls 10 [(0, .ref (o.2.1 0 0)), (1, .ref b), (2, .int v3), (3, .int v6), (4, .int v17), (5, .int v16), (6, .int v18)] := hl
    dsimp only at hw
    unfold w_L_sets_L85 at h
    dsimp only at h
    refine lv_iload hx hb dL_sets_85 (lv_at hl 6 rfl) ?_
    refine lv_iload hx hb dL_sets_87 (lv_at hl 5 rfl) ?_
    refine g_icmp_ge (tgt := 220) hx hb h dL_sets_89 (by decide) ?_ ?_
    · clear h; intro h
      exact hK20 (v17, v18, M19) h _ _ _ hw (lv_sub hl [4] rfl)
    · clear h; intro h
      refine lv_iload hx hb dL_sets_92 (lv_at hl 4 rfl) ?_
      refine g_if_eq (tgt := 220) hx hb h dL_sets_94 (by decide) ?_ ?_
      · clear h; intro h
        exact hK20 (v17, v18, M19) h _ _ _ hw (lv_sub hl [4] rfl)
      · clear h; intro h
        refine lv_aload_n hx hb dL_sets_97 rfl (lv_at hl 1 rfl) ?_
        refine lv_iconst (v := 5) hx hb dL_sets_98 (by decide) ?_
        refine lv_iload hx hb dL_sets_99 (lv_at hl 6 rfl) ?_
        refine lv_iadd hx hb dL_sets_101 ?_
        refine g_ci hw (g_runSs (As := [.ref b, .int ((5 : Int32) + v18)]) (rest := []) hx hb hml hown hts mL_cell sL_cell kL_9 hw hX hbl hbA (c_L_cell hn h) rfl rfl ⟨Nat.le_of_ble_eq_true rfl, Nat.le_of_ble_eq_true rfl⟩ rfl hl.1 rfl (Nat.le_of_ble_eq_true rfl) dL_sets_102 ⟨Nat.zero_le _, Nat.zero_le _⟩) ?_
        clear h hw; intro v23 M22 H locs hw h
        refine lv_istore (lv' := [(7, .int v23), (0, .ref (o.2.1 0 0)), (1, .ref b), (2, .int v3), (3, .int v6), (4, .int v17), (5, .int v16), (6, .int v18)]) hx hb dL_sets_105 hl (by decide) rfl ?_
        clear hl; clear ls; intro ls hl
        refine lv_iload_n hx hb dL_sets_107 rfl (lv_at hl 3 rfl) ?_
        refine lv_iload hx hb dL_sets_108 (lv_at hl 0 rfl) ?_
        refine lv_iload_n hx hb dL_sets_110 rfl (lv_at hl 4 rfl) ?_
        refine lv_iload_n hx hb dL_sets_111 rfl (lv_at hl 3 rfl) ?_
        refine lv_isub hx hb dL_sets_112 ?_
        refine lv_bipush (v := 9) hx hb dL_sets_113 (by decide) ?_
        refine lv_iadd hx hb dL_sets_115 ?_
        obtain ⟨hnz, h⟩ := h
        obtain ⟨v24, h0v24⟩ : ∃ z, z = ((v6 - v3) + (9 : Int32)) := ⟨_, rfl⟩
        rw [← h0v24] at h hnz
        refine lv_irem hx hb dL_sets_116 (by rw [← h0v24]; exact hnz) ?_
        rw [← h0v24]
        clear hnz
        refine lv_iadd hx hb dL_sets_117 ?_
        refine lv_iconst (v := 4) hx hb dL_sets_118 (by decide) ?_
        refine lv_isub hx hb dL_sets_119 ?_
        refine g_topi h ?_
        clear h; intro v25 h
        refine lv_istore (lv' := [(8, .int v25), (7, .int v23), (0, .ref (o.2.1 0 0)), (1, .ref b), (2, .int v3), (3, .int v6), (4, .int v17), (5, .int v16), (6, .int v18)]) hx hb dL_sets_120 hl (by decide) rfl ?_
        clear hl; clear ls; intro ls hl
        refine lv_iload hx hb dL_sets_122 (lv_at hl 0 rfl) ?_
        refine letJ_W (fun (x : Int32) => ∀ (H : Heap) (locs : List Loc) (ls : Array Slot), WO o (WA o) s s.heap H locs M22 → lv_has ls 10 [(0, .ref (o.2.1 0 0)), (1, .ref b), (2, .int v3), (3, .int v6), (5, .int v16), (6, .int v18), (7, .int v23)] → W p l e rm_L_sets s m args below meth c H locs 0 0 (MQ below (QZ o Q) args s 0 0 (WA o)) (F0 m 133 ls [.int x])) h ?_ ?_
        · clear h hw hl; clear ls; intro x h H locs ls hw hl
          obtain ⟨v26, rfl⟩ : ∃ z, z = x := ⟨_, rfl⟩
          replace hl : lv_has ls 10 [(0, .ref (o.2.1 0 0)), (1, .ref b), (2, .int v3), (3, .int v6), (5, .int v16), (6, .int v18), (7, .int v23)] := hl
          refine lv_istore (lv' := [(8, .int v26), (0, .ref (o.2.1 0 0)), (1, .ref b), (2, .int v3), (3, .int v6), (5, .int v16), (6, .int v18), (7, .int v23)]) hx hb dL_sets_133 hl (by decide) rfl ?_
          clear hl; clear ls; intro ls hl
          refine lv_iload hx hb dL_sets_135 (lv_at hl 0 rfl) ?_
          refine lv_iload hx hb dL_sets_137 (lv_at hl 7 rfl) ?_
          refine lv_bipush (v := 6) hx hb dL_sets_139 (by decide) ?_
          refine lv_ishr hx hb dL_sets_141 ?_
          refine lv_iconst (v := 2) hx hb dL_sets_142 (by decide) ?_
          refine lv_irem hx hb dL_sets_143 (by decide) ?_
          refine letJ_W (fun (x : Int32) => ∀ (H : Heap) (locs : List Loc) (ls : Array Slot), WO o (WA o) s s.heap H locs M22 → lv_has ls 10 [(0, .ref (o.2.1 0 0)), (1, .ref b), (2, .int v3), (3, .int v6), (5, .int v16), (6, .int v18), (7, .int v23), (8, .int v26)] → W p l e rm_L_sets s m args below meth c H locs 0 0 (MQ below (QZ o Q) args s 0 0 (WA o)) (F0 m 159 ls [.int x, .int v26])) h ?_ ?_
          · clear h hw hl; clear ls; intro x h H locs ls hw hl
            obtain ⟨v28, rfl⟩ : ∃ z, z = x := ⟨_, rfl⟩
            replace hl : lv_has ls 10 [(0, .ref (o.2.1 0 0)), (1, .ref b), (2, .int v3), (3, .int v6), (5, .int v16), (6, .int v18), (7, .int v23), (8, .int v26)] := hl
            refine lv_iadd hx hb dL_sets_159 ?_
            refine g_topi h ?_
            clear h; intro v30 h
            refine lv_istore (lv' := [(9, .int v30), (0, .ref (o.2.1 0 0)), (1, .ref b), (2, .int v3), (3, .int v6), (5, .int v16), (6, .int v18), (7, .int v23), (8, .int v26)]) hx hb dL_sets_160 hl (by decide) rfl ?_
            clear hl; clear ls; intro ls hl
            refine lv_aload_n hx hb dL_sets_162 rfl (lv_at hl 1 rfl) ?_
            refine lv_iload hx hb dL_sets_163 (lv_at hl 8 rfl) ?_
            refine lv_iload hx hb dL_sets_165 (lv_at hl 0 rfl) ?_
            refine lv_iload hx hb dL_sets_167 (lv_at hl 7 rfl) ?_
            refine lv_bipush (v := 11) hx hb dL_sets_169 (by decide) ?_
            refine lv_ishr hx hb dL_sets_171 ?_
            refine lv_iconst (v := 2) hx hb dL_sets_172 (by decide) ?_
            refine lv_irem hx hb dL_sets_173 (by decide) ?_
            refine letJ_W (fun (x : Int32) => ∀ (H : Heap) (locs : List Loc) (ls : Array Slot), WO o (WA o) s s.heap H locs M22 → lv_has ls 10 [(0, .ref (o.2.1 0 0)), (1, .ref b), (2, .int v3), (3, .int v6), (5, .int v16), (6, .int v18), (7, .int v23)] → W p l e rm_L_sets s m args below meth c H locs 0 0 (MQ below (QZ o Q) args s 0 0 (WA o)) (F0 m 191 ls [.int x, .int v30, .int v26, .ref (o.2.1 0 0)])) h ?_ ?_
            · clear h hw hl; clear ls; intro x h H locs ls hw hl
              obtain ⟨v31, rfl⟩ : ∃ z, z = x := ⟨_, rfl⟩
              replace hl : lv_has ls 10 [(0, .ref (o.2.1 0 0)), (1, .ref b), (2, .int v3), (3, .int v6), (5, .int v16), (6, .int v18), (7, .int v23)] := hl
              refine lv_iload hx hb dL_sets_191 (lv_at hl 6 rfl) ?_
              refine lv_bipush (v := 23) hx hb dL_sets_193 (by decide) ?_
              refine lv_ishr hx hb dL_sets_195 ?_
              refine lv_bipush (v := 10) hx hb dL_sets_196 (by decide) ?_
              refine lv_irem hx hb dL_sets_198 (by decide) ?_
              refine g_ci hw (g_runV (As := [.int v26, .int v30, .int v31, .int ((v23 >>> ((23 : Int32) &&& 31)) - (v23 >>> ((23 : Int32) &&& 31)) / (10 : Int32) * (10 : Int32))]) (rest := []) hx hb hml hown hts mX4_add vX4_add kL_28 hw 0 0 (ci_0 (by decide)) (bi_0 (by decide) hn) rfl rfl (c_X4_add hn h) rfl rfl ⟨Nat.le_of_ble_eq_true rfl, Nat.le_of_ble_eq_true rfl⟩ rfl hl.1 rfl (Nat.le_of_ble_eq_true rfl) dL_sets_199 ⟨Nat.zero_le _, Nat.zero_le _⟩) ?_
              clear h hw; intro v34 M33 H locs hw h
              refine lv_iload hx hb dL_sets_202 (lv_at hl 5 rfl) ?_
              refine g_icmp_ne (tgt := 211) hx hb h dL_sets_204 (by decide) ?_ ?_
              · clear h; intro h
                refine lv_iconst (v := 0) hx hb dL_sets_211 (by decide) ?_
                refine lv_istore (lv' := [(4, .int (0 : Int32)), (0, .ref (o.2.1 0 0)), (1, .ref b), (2, .int v3), (3, .int v6), (5, .int v16), (6, .int v18), (7, .int v23)]) hx hb dL_sets_212 hl (by decide) rfl ?_
                clear hl; clear ls; intro ls hl
                refine g_iinc (k := 6) (v := (v18 + (1 : Int32))) (lv' := fun v35 => [(6, .int v35), (4, .int (0 : Int32)), (0, .ref (o.2.1 0 0)), (1, .ref b), (2, .int v3), (3, .int v6), (5, .int v16), (7, .int v23)]) hx hb dL_sets_214 hl rfl rfl (by decide) (fun _ => rfl) h ?_
                clear h hl; clear ls; intro v35 ls h hl
                refine lv_goto (tgt := 85) hx hb dL_sets_217 (by decide) ?_
                exact hR21 ((0 : Int32), v35, M33) h _ _ _ hw (lv_sub hl [2, 3, 4, 5, 1, 6, 0] rfl)
              · clear h; intro h
                refine lv_iconst (v := 1) hx hb dL_sets_207 (by decide) ?_
                refine lv_goto (tgt := 212) hx hb dL_sets_208 (by decide) ?_
                refine lv_istore (lv' := [(4, .int (1 : Int32)), (0, .ref (o.2.1 0 0)), (1, .ref b), (2, .int v3), (3, .int v6), (5, .int v16), (6, .int v18), (7, .int v23)]) hx hb dL_sets_212 hl (by decide) rfl ?_
                clear hl; clear ls; intro ls hl
                refine g_iinc (k := 6) (v := (v18 + (1 : Int32))) (lv' := fun v36 => [(6, .int v36), (4, .int (1 : Int32)), (0, .ref (o.2.1 0 0)), (1, .ref b), (2, .int v3), (3, .int v6), (5, .int v16), (7, .int v23)]) hx hb dL_sets_214 hl rfl rfl (by decide) (fun _ => rfl) h ?_
                clear h hl; clear ls; intro v36 ls h hl
                refine lv_goto (tgt := 85) hx hb dL_sets_217 (by decide) ?_
                exact hR21 ((1 : Int32), v36, M33) h _ _ _ hw (lv_sub hl [2, 3, 4, 5, 1, 6, 0] rfl)
            clear h; intro J32 hJ32 h
            refine g_if_ne (tgt := 182) hx hb h dL_sets_174 (by decide) ?_ ?_
            · clear h; intro h
              refine lv_iload hx hb dL_sets_182 (lv_at hl 7 rfl) ?_
              refine lv_bipush (v := 12) hx hb dL_sets_184 (by decide) ?_
              refine lv_ishr hx hb dL_sets_186 ?_
              refine lv_sipush (v := 1440) hx hb dL_sets_187 (by decide) ?_
              refine lv_irem hx hb dL_sets_190 (by decide) ?_
              exact hJ32 ((v23 >>> ((12 : Int32) &&& 31)) - (v23 >>> ((12 : Int32) &&& 31)) / (1440 : Int32) * (1440 : Int32)) h _ _ _ hw (lv_sub hl [1, 2, 3, 4, 5, 6, 7] rfl)
            · clear h; intro h
              refine lv_bipush (v := (-9)) hx hb dL_sets_177 (by decide) ?_
              refine lv_goto (tgt := 191) hx hb dL_sets_179 (by decide) ?_
              exact hJ32 (-9 : Int32) h _ _ _ hw (lv_sub hl [1, 2, 3, 4, 5, 6, 7] rfl)
          clear h; intro J29 hJ29 h
          refine g_if_ne (tgt := 151) hx hb h dL_sets_144 (by decide) ?_ ?_
          · clear h; intro h
            refine lv_iload hx hb dL_sets_151 (lv_at hl 7 rfl) ?_
            refine lv_bipush (v := 7) hx hb dL_sets_153 (by decide) ?_
            refine lv_ishr hx hb dL_sets_155 ?_
            refine lv_bipush (v := 12) hx hb dL_sets_156 (by decide) ?_
            refine lv_irem hx hb dL_sets_158 (by decide) ?_
            exact hJ29 ((v23 >>> ((7 : Int32) &&& 31)) - (v23 >>> ((7 : Int32) &&& 31)) / (12 : Int32) * (12 : Int32)) h _ _ _ hw (lv_sub hl [1, 2, 3, 4, 5, 6, 7, 0] rfl)
          · clear h; intro h
            refine lv_iconst (v := 0) hx hb dL_sets_147 (by decide) ?_
            refine lv_goto (tgt := 159) hx hb dL_sets_148 (by decide) ?_
            exact hJ29 (0 : Int32) h _ _ _ hw (lv_sub hl [1, 2, 3, 4, 5, 6, 7, 0] rfl)
        clear h; intro J27 hJ27 h
        refine g_if_ge (tgt := 131) hx hb h dL_sets_124 (by decide) ?_ ?_
        · clear h; intro h
          refine lv_iload hx hb dL_sets_131 (lv_at hl 0 rfl) ?_
          exact hJ27 v25 h _ _ _ hw (lv_sub hl [2, 3, 4, 5, 7, 8, 1] rfl)
        · clear h; intro h
          refine lv_iconst (v := 0) hx hb dL_sets_127 (by decide) ?_
          refine lv_goto (tgt := 133) hx hb dL_sets_128 (by decide) ?_
          exact hJ27 (0 : Int32) h _ _ _ hw (lv_sub hl [2, 3, 4, 5, 7, 8, 1] rfl)
  clear h; intro J12 hJ12 h
  refine letJ_W (fun (x : Mm) => ∀ (H : Heap) (locs : List Loc) (ls : Array Slot), WO o (WA o) s s.heap H locs x → lv_has ls 10 [(0, .ref (o.2.1 0 0)), (1, .ref b), (2, .int v3), (3, .int v6)] → W p l e rm_L_sets s m args below meth c H locs 0 0 (MQ below (QZ o Q) args s 0 0 (WA o)) (F0 m 67 ls [])) h ?_ ?_
  · clear h hw hl; clear ls; intro x h H locs ls hw hl
    obtain ⟨M41, rfl⟩ : ∃ z, z = x := ⟨_, rfl⟩
    replace hl : lv_has ls 10 [(0, .ref (o.2.1 0 0)), (1, .ref b), (2, .int v3), (3, .int v6)] := hl
    refine lv_iconst (v := 0) hx hb dL_sets_67 (by decide) ?_
    exact hJ12 ((0 : Int32), M41) h _ _ _ hw (lv_sub hl [0, 1, 2, 3] rfl)
  clear h; intro J40 hJ40 h
  refine g_if_le (tgt := 67) hx hb h dL_sets_33 (by decide) ?_ ?_
  · clear h; intro h
    exact hJ40 M9 h _ _ _ hw (lv_sub hl [2, 3, 1, 0] rfl)
  · clear h; intro h
    refine lv_aload_n hx hb dL_sets_36 rfl (lv_at hl 2 rfl) ?_
    refine lv_iload_n hx hb dL_sets_37 rfl (lv_at hl 1 rfl) ?_
    refine lv_iload_n hx hb dL_sets_38 rfl (lv_at hl 0 rfl) ?_
    refine g_ci hw (g_runV (As := [.int v3, .int v6]) (rest := []) hx hb hml hown hts mX4_setPage vX4_setPage kL_21 hw 0 0 (ci_0 (by decide)) (bi_0 (by decide) hn) rfl rfl (c_X4_setPage hn h) rfl rfl ⟨Nat.le_of_ble_eq_true rfl, Nat.le_of_ble_eq_true rfl⟩ rfl hl.1 rfl (Nat.le_of_ble_eq_true rfl) dL_sets_39 ⟨Nat.zero_le _, Nat.zero_le _⟩) ?_
    clear h hw; intro v43 M42 H locs hw h
    refine g_if_le (tgt := 67) hx hb h dL_sets_42 (by decide) ?_ ?_
    · clear h; intro h
      exact hJ40 M42 h _ _ _ hw (lv_sub hl [2, 3, 1, 0] rfl)
    · clear h; intro h
      refine lv_aload_n hx hb dL_sets_45 rfl (lv_at hl 2 rfl) ?_
      refine lv_iconst (v := 1) hx hb dL_sets_46 (by decide) ?_
      refine lv_aload_n hx hb dL_sets_47 rfl (lv_at hl 3 rfl) ?_
      refine lv_iconst (v := 3) hx hb dL_sets_48 (by decide) ?_
      refine g_ci hw (g_runSs (As := [.ref b, .int (3 : Int32)]) (rest := [.int (1 : Int32), .ref (o.2.1 0 0)]) hx hb hml hown hts mL_cell sL_cell kL_9 hw hX hbl hbA (c_L_cell hn h) rfl rfl ⟨Nat.le_of_ble_eq_true rfl, Nat.le_of_ble_eq_true rfl⟩ rfl hl.1 rfl (Nat.le_of_ble_eq_true rfl) dL_sets_49 ⟨Nat.zero_le _, Nat.zero_le _⟩) ?_
      clear h hw; intro v45 M44 H locs hw h
      refine lv_bipush (v := 7) hx hb dL_sets_52 (by decide) ?_
      refine lv_irem hx hb dL_sets_54 (by decide) ?_
      refine lv_iadd hx hb dL_sets_55 ?_
      refine g_ci hw (g_runV (As := [.int ((1 : Int32) + (v45 - v45 / (7 : Int32) * (7 : Int32)))]) (rest := []) hx hb hml hown hts mX4_setRows vX4_setRows kL_25 hw 0 0 (ci_0 (by decide)) (bi_0 (by decide) hn) rfl rfl (c_X4_setRows hn h) rfl rfl ⟨Nat.le_of_ble_eq_true rfl, Nat.le_of_ble_eq_true rfl⟩ rfl hl.1 rfl (Nat.le_of_ble_eq_true rfl) dL_sets_56 ⟨Nat.zero_le _, Nat.zero_le _⟩) ?_
      clear h hw; intro v47 M46 H locs hw h
      refine lv_iconst (v := 4) hx hb dL_sets_59 (by decide) ?_
      refine g_icmp_ne (tgt := 67) hx hb h dL_sets_60 (by decide) ?_ ?_
      · clear h; intro h
        exact hJ40 M46 h _ _ _ hw (lv_sub hl [2, 3, 1, 0] rfl)
      · clear h; intro h
        refine lv_iconst (v := 1) hx hb dL_sets_63 (by decide) ?_
        refine lv_goto (tgt := 68) hx hb dL_sets_64 (by decide) ?_
        exact hJ12 ((1 : Int32), M46) h _ _ _ hw (lv_sub hl [2, 3, 1, 0] rfl)
abbrev rm_L_weeks : Room := { frames := 5, cells := 0, slots := 0, locals := 110 }
set_option maxHeartbeats 4000000 in
set_option maxRecDepth 100000 in
theorem c_L_weeks {o : Om} {l : Launch} (hn : 115 ≤ o.2.2.2) {M : Mm} {Q : Int32 → Mm → Prop} (h : w_L_weeks M Q) : CZ o l yL_weeks cL_weeks 4 rm_L_weeks [.ref (o.2.1 0 0)] M Q := by
  refine g_start (by decide +kernel) (Nat.le_of_ble_eq_true rfl) ?_
  intro p e s m args below meth c hx hb hr hlocks hml hown hts hw ls hl
  replace hl : lv_has ls 4 [(0, .ref (o.2.1 0 0))] := hl
  unfold w_L_weeks at h
  refine lv_aload_n hx hb dL_weeks_0 rfl (lv_at hl 0 rfl) ?_
  refine lv_iconst (v := 0) hx hb dL_weeks_1 (by decide) ?_
  refine g_ci hw (g_runV (As := [.int (0 : Int32)]) (rest := []) hx hb hml hown hts mX4_told vX4_told kL_32 hw 0 0 (ci_0 (by decide)) (bi_0 (by decide) hn) rfl rfl (c_X4_told hn h) rfl rfl ⟨Nat.le_of_ble_eq_true rfl, Nat.le_of_ble_eq_true rfl⟩ rfl hl.1 rfl (Nat.le_of_ble_eq_true rfl) dL_weeks_2 ⟨Nat.zero_le _, Nat.zero_le _⟩) ?_
  clear h hw; intro v2 M1 H locs hw h
  refine lv_istore_n (lv' := [(1, .int v2), (0, .ref (o.2.1 0 0))]) hx hb dL_weeks_5 rfl hl (by decide) rfl ?_
  clear hl; clear ls; intro ls hl
  refine lv_iconst (v := 0) hx hb dL_weeks_6 (by decide) ?_
  refine lv_istore_n (lv' := [(2, .int (0 : Int32)), (1, .int v2), (0, .ref (o.2.1 0 0))]) hx hb dL_weeks_7 rfl hl (by decide) rfl ?_
  clear hl; clear ls; intro ls hl
  obtain ⟨n, h⟩ := h
  refine letK_W (body := fun K => w_L_weeks_L8 Q K) (fun (x : Int32 × Int32 × Mm) => ∀ (H : Heap) (locs : List Loc) (ls : Array Slot), WO o (WA o) s s.heap H locs x.2.2 → lv_has ls 4 [(0, .ref (o.2.1 0 0)), (1, .int x.1)] → W p l e rm_L_weeks s m args below meth c H locs 0 0 (MQ below (QZ o Q) args s 0 0 (WA o)) (F0 m 143 ls [])) h ?_ ?_
  · clear h hw hl; clear ls; intro x h H locs ls hw hl
    obtain ⟨v40, v41, M42⟩ := x
    replace hl : lv_has ls 4 [(0, .ref (o.2.1 0 0)), (1, .int v40)] := hl
    dsimp only at h hw
    refine lv_iload_n hx hb dL_weeks_143 rfl (lv_at hl 1 rfl) ?_
    refine lv_aload_n hx hb dL_weeks_144 rfl (lv_at hl 0 rfl) ?_
    refine lv_iconst (v := 1) hx hb dL_weeks_145 (by decide) ?_
    refine g_ci hw (g_runV (As := [.int (1 : Int32)]) (rest := [.int v40]) hx hb hml hown hts mX4_told vX4_told kL_32 hw 0 0 (ci_0 (by decide)) (bi_0 (by decide) hn) rfl rfl (c_X4_told hn h) rfl rfl ⟨Nat.le_of_ble_eq_true rfl, Nat.le_of_ble_eq_true rfl⟩ rfl hl.1 rfl (Nat.le_of_ble_eq_true rfl) dL_weeks_146 ⟨Nat.zero_le _, Nat.zero_le _⟩) ?_
    clear h hw; intro v44 M43 H locs hw h
    refine lv_iconst (v := 1) hx hb dL_weeks_149 (by decide) ?_
    refine lv_iadd hx hb dL_weeks_150 ?_
    refine g_icmp_ne (tgt := 173) hx hb h dL_weeks_151 (by decide) ?_ ?_
    · clear h; intro h
      refine lv_iconst (v := 0) hx hb dL_weeks_173 (by decide) ?_
      exact g_zret hx hb hr hlocks hw (Or.inl rfl) h dL_weeks_174
    · clear h; intro h
      refine lv_aload_n hx hb dL_weeks_154 rfl (lv_at hl 0 rfl) ?_
      refine lv_aload_n hx hb dL_weeks_155 rfl (lv_at hl 0 rfl) ?_
      refine lv_iconst (v := 4) hx hb dL_weeks_156 (by decide) ?_
      refine g_ci hw (g_runV (As := [.int (4 : Int32)]) (rest := [.ref (o.2.1 0 0)]) hx hb hml hown hts mX4_told vX4_told kL_32 hw 0 0 (ci_0 (by decide)) (bi_0 (by decide) hn) rfl rfl (c_X4_told hn h) rfl rfl ⟨Nat.le_of_ble_eq_true rfl, Nat.le_of_ble_eq_true rfl⟩ rfl hl.1 rfl (Nat.le_of_ble_eq_true rfl) dL_weeks_157 ⟨Nat.zero_le _, Nat.zero_le _⟩) ?_
      clear h hw; intro v46 M45 H locs hw h
      refine lv_iconst (v := 0) hx hb dL_weeks_160 (by decide) ?_
      refine g_ci hw (g_runV (As := [.int v46, .int (0 : Int32)]) (rest := []) hx hb hml hown hts mX4_week vX4_week kL_35 hw 0 0 (ci_0 (by decide)) (bi_0 (by decide) hn) rfl rfl (c_X4_week hn h) rfl rfl ⟨Nat.le_of_ble_eq_true rfl, Nat.le_of_ble_eq_true rfl⟩ rfl hl.1 rfl (Nat.le_of_ble_eq_true rfl) dL_weeks_161 ⟨Nat.zero_le _, Nat.zero_le _⟩) ?_
      clear h hw; intro v48 M47 H locs hw h
      refine lv_bipush (v := (-9)) hx hb dL_weeks_164 (by decide) ?_
      refine g_icmp_ne (tgt := 173) hx hb h dL_weeks_166 (by decide) ?_ ?_
      · clear h; intro h
        refine lv_iconst (v := 0) hx hb dL_weeks_173 (by decide) ?_
        exact g_zret hx hb hr hlocks hw (Or.inl rfl) h dL_weeks_174
      · clear h; intro h
        refine lv_iconst (v := 1) hx hb dL_weeks_169 (by decide) ?_
        refine lv_goto (tgt := 174) hx hb dL_weeks_170 (by decide) ?_
        exact g_zret hx hb hr hlocks hw (Or.inr rfl) h dL_weeks_174
  clear h; intro K6 hK6 h
  refine loop_W (body := w_L_weeks_L8 Q K6) (fun (x : Int32 × Int32 × Mm) => ∀ (H : Heap) (locs : List Loc) (ls : Array Slot), WO o (WA o) s s.heap H locs x.2.2 → lv_has ls 4 [(0, .ref (o.2.1 0 0)), (1, .int x.1), (2, .int x.2.1)] → W p l e rm_L_weeks s m args below meth c H locs 0 0 (MQ below (QZ o Q) args s 0 0 (WA o)) (F0 m 8 ls [])) ?_ n _ h _ _ _ hw (lv_sub hl [2, 1, 0] rfl)
  clear h hw hl; clear ls; intro R7 x hR7 h H locs ls hw hl
  obtain ⟨v3, v4, M5⟩ := x
  replace hl : lv_has ls 4 [(0, .ref (o.2.1 0 0)), (1, .int v3), (2, .int v4)] := hl
  dsimp only at hw
  unfold w_L_weeks_L8 at h
  dsimp only at h
  refine lv_iload_n hx hb dL_weeks_8 rfl (lv_at hl 2 rfl) ?_
  refine lv_aload_n hx hb dL_weeks_9 rfl (lv_at hl 0 rfl) ?_
  refine lv_iconst (v := 4) hx hb dL_weeks_10 (by decide) ?_
  refine g_ci hw (g_runV (As := [.int (4 : Int32)]) (rest := [.int v4]) hx hb hml hown hts mX4_told vX4_told kL_32 hw 0 0 (ci_0 (by decide)) (bi_0 (by decide) hn) rfl rfl (c_X4_told hn h) rfl rfl ⟨Nat.le_of_ble_eq_true rfl, Nat.le_of_ble_eq_true rfl⟩ rfl hl.1 rfl (Nat.le_of_ble_eq_true rfl) dL_weeks_11 ⟨Nat.zero_le _, Nat.zero_le _⟩) ?_
  clear h hw; intro v9 M8 H locs hw h
  refine g_icmp_ge (tgt := 143) hx hb h dL_weeks_14 (by decide) ?_ ?_
  · clear h; intro h
    exact hK6 (v3, v4, M8) h _ _ _ hw (lv_sub hl [0, 1] rfl)
  · clear h; intro h
    refine lv_aload_n hx hb dL_weeks_17 rfl (lv_at hl 0 rfl) ?_
    refine lv_iload_n hx hb dL_weeks_18 rfl (lv_at hl 2 rfl) ?_
    refine lv_iconst (v := 0) hx hb dL_weeks_19 (by decide) ?_
    refine g_ci hw (g_runV (As := [.int v4, .int (0 : Int32)]) (rest := []) hx hb hml hown hts mX4_week vX4_week kL_35 hw 0 0 (ci_0 (by decide)) (bi_0 (by decide) hn) rfl rfl (c_X4_week hn h) rfl rfl ⟨Nat.le_of_ble_eq_true rfl, Nat.le_of_ble_eq_true rfl⟩ rfl hl.1 rfl (Nat.le_of_ble_eq_true rfl) dL_weeks_20 ⟨Nat.zero_le _, Nat.zero_le _⟩) ?_
    clear h hw; intro v11 M10 H locs hw h
    refine lv_iload_n hx hb dL_weeks_23 rfl (lv_at hl 1 rfl) ?_
    refine g_icmp_ne (tgt := 66) hx hb h dL_weeks_24 (by decide) ?_ ?_
    · clear h; intro h
      refine lv_iconst (v := 0) hx hb dL_weeks_66 (by decide) ?_
      exact g_zret hx hb hr hlocks hw (Or.inl rfl) h dL_weeks_67
    · clear h; intro h
      refine lv_aload_n hx hb dL_weeks_27 rfl (lv_at hl 0 rfl) ?_
      refine lv_iload_n hx hb dL_weeks_28 rfl (lv_at hl 2 rfl) ?_
      refine lv_iconst (v := 1) hx hb dL_weeks_29 (by decide) ?_
      refine g_ci hw (g_runV (As := [.int v4, .int (1 : Int32)]) (rest := []) hx hb hml hown hts mX4_week vX4_week kL_35 hw 0 0 (ci_0 (by decide)) (bi_0 (by decide) hn) rfl rfl (c_X4_week hn h) rfl rfl ⟨Nat.le_of_ble_eq_true rfl, Nat.le_of_ble_eq_true rfl⟩ rfl hl.1 rfl (Nat.le_of_ble_eq_true rfl) dL_weeks_30 ⟨Nat.zero_le _, Nat.zero_le _⟩) ?_
      clear h hw; intro v13 M12 H locs hw h
      refine lv_iload_n hx hb dL_weeks_33 rfl (lv_at hl 1 rfl) ?_
      refine g_icmp_lt (tgt := 66) hx hb h dL_weeks_34 (by decide) ?_ ?_
      · clear h; intro h
        refine lv_iconst (v := 0) hx hb dL_weeks_66 (by decide) ?_
        exact g_zret hx hb hr hlocks hw (Or.inl rfl) h dL_weeks_67
      · clear h; intro h
        refine lv_aload_n hx hb dL_weeks_37 rfl (lv_at hl 0 rfl) ?_
        refine lv_iload_n hx hb dL_weeks_38 rfl (lv_at hl 2 rfl) ?_
        refine lv_iconst (v := 1) hx hb dL_weeks_39 (by decide) ?_
        refine g_ci hw (g_runV (As := [.int v4, .int (1 : Int32)]) (rest := []) hx hb hml hown hts mX4_week vX4_week kL_35 hw 0 0 (ci_0 (by decide)) (bi_0 (by decide) hn) rfl rfl (c_X4_week hn h) rfl rfl ⟨Nat.le_of_ble_eq_true rfl, Nat.le_of_ble_eq_true rfl⟩ rfl hl.1 rfl (Nat.le_of_ble_eq_true rfl) dL_weeks_40 ⟨Nat.zero_le _, Nat.zero_le _⟩) ?_
        clear h hw; intro v15 M14 H locs hw h
        refine lv_iload_n hx hb dL_weeks_43 rfl (lv_at hl 1 rfl) ?_
        refine lv_isub hx hb dL_weeks_44 ?_
        refine lv_bipush (v := 6) hx hb dL_weeks_45 (by decide) ?_
        refine g_icmp_gt (tgt := 66) hx hb h dL_weeks_47 (by decide) ?_ ?_
        · clear h; intro h
          refine lv_iconst (v := 0) hx hb dL_weeks_66 (by decide) ?_
          exact g_zret hx hb hr hlocks hw (Or.inl rfl) h dL_weeks_67
        · clear h; intro h
          refine lv_iload_n hx hb dL_weeks_50 rfl (lv_at hl 2 rfl) ?_
          refine letJ_W (fun (x : Mm) => ∀ (H : Heap) (locs : List Loc) (ls : Array Slot), WO o (WA o) s s.heap H locs x → lv_has ls 4 [(0, .ref (o.2.1 0 0)), (1, .int v3), (2, .int v4)] → W p l e rm_L_weeks s m args below meth c H locs 0 0 (MQ below (QZ o Q) args s 0 0 (WA o)) (F0 m 68 ls [])) h ?_ ?_
          · clear h hw hl; clear ls; intro x h H locs ls hw hl
            obtain ⟨M17, rfl⟩ : ∃ z, z = x := ⟨_, rfl⟩
            replace hl : lv_has ls 4 [(0, .ref (o.2.1 0 0)), (1, .int v3), (2, .int v4)] := hl
            refine lv_iload_n hx hb dL_weeks_68 rfl (lv_at hl 1 rfl) ?_
            refine lv_istore_n (lv' := [(3, .int v3), (0, .ref (o.2.1 0 0)), (1, .int v3), (2, .int v4)]) hx hb dL_weeks_69 rfl hl (by decide) rfl ?_
            clear hl; clear ls; intro ls hl
            obtain ⟨n, h⟩ := h
            refine letK_W (body := fun K => w_L_weeks_L70 v3 v4 Q K) (fun (x : Int32 × Mm) => ∀ (H : Heap) (locs : List Loc) (ls : Array Slot), WO o (WA o) s s.heap H locs x.2 → lv_has ls 4 [(0, .ref (o.2.1 0 0)), (2, .int v4)] → W p l e rm_L_weeks s m args below meth c H locs 0 0 (MQ below (QZ o Q) args s 0 0 (WA o)) (F0 m 128 ls [])) h ?_ ?_
            · clear h hw hl; clear ls; intro x h H locs ls hw hl
              obtain ⟨v32, M33⟩ := x
              replace hl : lv_has ls 4 [(0, .ref (o.2.1 0 0)), (2, .int v4)] := hl
              dsimp only at h hw
              refine lv_aload_n hx hb dL_weeks_128 rfl (lv_at hl 0 rfl) ?_
              refine lv_iload_n hx hb dL_weeks_129 rfl (lv_at hl 1 rfl) ?_
              refine lv_iconst (v := 1) hx hb dL_weeks_130 (by decide) ?_
              refine g_ci hw (g_runV (As := [.int v4, .int (1 : Int32)]) (rest := []) hx hb hml hown hts mX4_week vX4_week kL_35 hw 0 0 (ci_0 (by decide)) (bi_0 (by decide) hn) rfl rfl (c_X4_week hn h) rfl rfl ⟨Nat.le_of_ble_eq_true rfl, Nat.le_of_ble_eq_true rfl⟩ rfl hl.1 rfl (Nat.le_of_ble_eq_true rfl) dL_weeks_131 ⟨Nat.zero_le _, Nat.zero_le _⟩) ?_
              clear h hw; intro v35 M34 H locs hw h
              refine lv_iconst (v := 1) hx hb dL_weeks_134 (by decide) ?_
              refine lv_iadd hx hb dL_weeks_135 ?_
              refine g_topi h ?_
              clear h; intro v36 h
              refine lv_istore_n (lv' := [(1, .int v36), (0, .ref (o.2.1 0 0)), (2, .int v4)]) hx hb dL_weeks_136 rfl hl (by decide) rfl ?_
              clear hl; clear ls; intro ls hl
              refine g_iinc (k := 2) (v := (v4 + (1 : Int32))) (lv' := fun v37 => [(2, .int v37), (1, .int v36), (0, .ref (o.2.1 0 0))]) hx hb dL_weeks_137 hl rfl rfl (by decide) (fun _ => rfl) h ?_
              clear h hl; clear ls; intro v37 ls h hl
              refine lv_goto (tgt := 8) hx hb dL_weeks_140 (by decide) ?_
              exact hR7 (v36, v37, M34) h _ _ _ hw (lv_sub hl [2, 1, 0] rfl)
            clear h; intro K20 hK20 h
            refine loop_W (body := w_L_weeks_L70 v3 v4 Q K20) (fun (x : Int32 × Mm) => ∀ (H : Heap) (locs : List Loc) (ls : Array Slot), WO o (WA o) s s.heap H locs x.2 → lv_has ls 4 [(0, .ref (o.2.1 0 0)), (1, .int v3), (2, .int v4), (3, .int x.1)] → W p l e rm_L_weeks s m args below meth c H locs 0 0 (MQ below (QZ o Q) args s 0 0 (WA o)) (F0 m 70 ls [])) ?_ n _ h _ _ _ hw (lv_sub hl [1, 2, 3, 0] rfl)
            clear h hw hl; clear ls; intro R21 x hR21 h H locs ls hw hl
            obtain ⟨v18, M19⟩ := x
            replace hl : lv_has ls 4 [(0, .ref (o.2.1 0 0)), (1, .int v3), (2, .int v4), (3, .int v18)] := hl
            dsimp only at hw
            unfold w_L_weeks_L70 at h
            dsimp only at h
            refine lv_iload_n hx hb dL_weeks_70 rfl (lv_at hl 3 rfl) ?_
            refine lv_aload_n hx hb dL_weeks_71 rfl (lv_at hl 0 rfl) ?_
            refine lv_iload_n hx hb dL_weeks_72 rfl (lv_at hl 2 rfl) ?_
            refine lv_iconst (v := 1) hx hb dL_weeks_73 (by decide) ?_
            refine g_ci hw (g_runV (As := [.int v4, .int (1 : Int32)]) (rest := [.int v18]) hx hb hml hown hts mX4_week vX4_week kL_35 hw 0 0 (ci_0 (by decide)) (bi_0 (by decide) hn) rfl rfl (c_X4_week hn h) rfl rfl ⟨Nat.le_of_ble_eq_true rfl, Nat.le_of_ble_eq_true rfl⟩ rfl hl.1 rfl (Nat.le_of_ble_eq_true rfl) dL_weeks_74 ⟨Nat.zero_le _, Nat.zero_le _⟩) ?_
            clear h hw; intro v23 M22 H locs hw h
            refine g_icmp_gt (tgt := 128) hx hb h dL_weeks_77 (by decide) ?_ ?_
            · clear h; intro h
              exact hK20 (v18, M22) h _ _ _ hw (lv_sub hl [0, 2] rfl)
            · clear h; intro h
              refine lv_aload_n hx hb dL_weeks_80 rfl (lv_at hl 0 rfl) ?_
              refine lv_iload_n hx hb dL_weeks_81 rfl (lv_at hl 3 rfl) ?_
              refine lv_iconst (v := 0) hx hb dL_weeks_82 (by decide) ?_
              refine g_ci hw (g_runV (As := [.int v18, .int (0 : Int32)]) (rest := []) hx hb hml hown hts mX4_day vX4_day kL_38 hw 0 0 (ci_0 (by decide)) (bi_0 (by decide) hn) rfl rfl (c_X4_day hn h) rfl rfl ⟨Nat.le_of_ble_eq_true rfl, Nat.le_of_ble_eq_true rfl⟩ rfl hl.1 rfl (Nat.le_of_ble_eq_true rfl) dL_weeks_83 ⟨Nat.zero_le _, Nat.zero_le _⟩) ?_
              clear h hw; intro v25 M24 H locs hw h
              refine lv_iload_n hx hb dL_weeks_86 rfl (lv_at hl 2 rfl) ?_
              refine g_icmp_ne (tgt := 120) hx hb h dL_weeks_87 (by decide) ?_ ?_
              · clear h; intro h
                refine lv_iconst (v := 0) hx hb dL_weeks_120 (by decide) ?_
                exact g_zret hx hb hr hlocks hw (Or.inl rfl) h dL_weeks_121
              · clear h; intro h
                refine lv_aload_n hx hb dL_weeks_90 rfl (lv_at hl 0 rfl) ?_
                refine lv_iload_n hx hb dL_weeks_91 rfl (lv_at hl 3 rfl) ?_
                refine lv_iconst (v := 1) hx hb dL_weeks_92 (by decide) ?_
                refine g_ci hw (g_runV (As := [.int v18, .int (1 : Int32)]) (rest := []) hx hb hml hown hts mX4_day vX4_day kL_38 hw 0 0 (ci_0 (by decide)) (bi_0 (by decide) hn) rfl rfl (c_X4_day hn h) rfl rfl ⟨Nat.le_of_ble_eq_true rfl, Nat.le_of_ble_eq_true rfl⟩ rfl hl.1 rfl (Nat.le_of_ble_eq_true rfl) dL_weeks_93 ⟨Nat.zero_le _, Nat.zero_le _⟩) ?_
                clear h hw; intro v27 M26 H locs hw h
                refine lv_iload_n hx hb dL_weeks_96 rfl (lv_at hl 3 rfl) ?_
                refine lv_bipush (v := 7) hx hb dL_weeks_97 (by decide) ?_
                refine lv_irem hx hb dL_weeks_99 (by decide) ?_
                refine g_icmp_ne (tgt := 120) hx hb h dL_weeks_100 (by decide) ?_ ?_
                · clear h; intro h
                  refine lv_iconst (v := 0) hx hb dL_weeks_120 (by decide) ?_
                  exact g_zret hx hb hr hlocks hw (Or.inl rfl) h dL_weeks_121
                · clear h; intro h
                  refine lv_iload_n hx hb dL_weeks_103 rfl (lv_at hl 3 rfl) ?_
                  refine lv_iload_n hx hb dL_weeks_104 rfl (lv_at hl 1 rfl) ?_
                  refine g_icmp_le (tgt := 122) hx hb h dL_weeks_105 (by decide) ?_ ?_
                  · clear h; intro h
                    refine g_iinc (k := 3) (v := (v18 + (1 : Int32))) (lv' := fun v28 => [(3, .int v28), (0, .ref (o.2.1 0 0)), (1, .int v3), (2, .int v4)]) hx hb dL_weeks_122 hl rfl rfl (by decide) (fun _ => rfl) h ?_
                    clear h hl; clear ls; intro v28 ls h hl
                    refine lv_goto (tgt := 70) hx hb dL_weeks_125 (by decide) ?_
                    exact hR21 (v28, M26) h _ _ _ hw (lv_sub hl [1, 2, 3, 0] rfl)
                  · clear h; intro h
                    refine lv_iload_n hx hb dL_weeks_108 rfl (lv_at hl 3 rfl) ?_
                    refine lv_bipush (v := 7) hx hb dL_weeks_109 (by decide) ?_
                    refine lv_irem hx hb dL_weeks_111 (by decide) ?_
                    refine lv_aload_n hx hb dL_weeks_112 rfl (lv_at hl 0 rfl) ?_
                    refine lv_iconst (v := 2) hx hb dL_weeks_113 (by decide) ?_
                    refine g_ci hw (g_runV (As := [.int (2 : Int32)]) (rest := [.int (v18 - v18 / (7 : Int32) * (7 : Int32))]) hx hb hml hown hts mX4_told vX4_told kL_32 hw 0 0 (ci_0 (by decide)) (bi_0 (by decide) hn) rfl rfl (c_X4_told hn h) rfl rfl ⟨Nat.le_of_ble_eq_true rfl, Nat.le_of_ble_eq_true rfl⟩ rfl hl.1 rfl (Nat.le_of_ble_eq_true rfl) dL_weeks_114 ⟨Nat.zero_le _, Nat.zero_le _⟩) ?_
                    clear h hw; intro v30 M29 H locs hw h
                    refine g_icmp_ne (tgt := 122) hx hb h dL_weeks_117 (by decide) ?_ ?_
                    · clear h; intro h
                      refine g_iinc (k := 3) (v := (v18 + (1 : Int32))) (lv' := fun v31 => [(3, .int v31), (0, .ref (o.2.1 0 0)), (1, .int v3), (2, .int v4)]) hx hb dL_weeks_122 hl rfl rfl (by decide) (fun _ => rfl) h ?_
                      clear h hl; clear ls; intro v31 ls h hl
                      refine lv_goto (tgt := 70) hx hb dL_weeks_125 (by decide) ?_
                      exact hR21 (v31, M29) h _ _ _ hw (lv_sub hl [1, 2, 3, 0] rfl)
                    · clear h; intro h
                      refine lv_iconst (v := 0) hx hb dL_weeks_120 (by decide) ?_
                      exact g_zret hx hb hr hlocks hw (Or.inl rfl) h dL_weeks_121
          clear h; intro J16 hJ16 h
          refine g_if_le (tgt := 68) hx hb h dL_weeks_51 (by decide) ?_ ?_
          · clear h; intro h
            exact hJ16 M14 h _ _ _ hw (lv_sub hl [0, 1, 2] rfl)
          · clear h; intro h
            refine lv_iload_n hx hb dL_weeks_54 rfl (lv_at hl 1 rfl) ?_
            refine lv_bipush (v := 7) hx hb dL_weeks_55 (by decide) ?_
            refine lv_irem hx hb dL_weeks_57 (by decide) ?_
            refine lv_aload_n hx hb dL_weeks_58 rfl (lv_at hl 0 rfl) ?_
            refine lv_iconst (v := 2) hx hb dL_weeks_59 (by decide) ?_
            refine g_ci hw (g_runV (As := [.int (2 : Int32)]) (rest := [.int (v3 - v3 / (7 : Int32) * (7 : Int32))]) hx hb hml hown hts mX4_told vX4_told kL_32 hw 0 0 (ci_0 (by decide)) (bi_0 (by decide) hn) rfl rfl (c_X4_told hn h) rfl rfl ⟨Nat.le_of_ble_eq_true rfl, Nat.le_of_ble_eq_true rfl⟩ rfl hl.1 rfl (Nat.le_of_ble_eq_true rfl) dL_weeks_60 ⟨Nat.zero_le _, Nat.zero_le _⟩) ?_
            clear h hw; intro v39 M38 H locs hw h
            refine g_icmp_eq (tgt := 68) hx hb h dL_weeks_63 (by decide) ?_ ?_
            · clear h; intro h
              exact hJ16 M38 h _ _ _ hw (lv_sub hl [0, 1, 2] rfl)
            · clear h; intro h
              refine lv_iconst (v := 0) hx hb dL_weeks_66 (by decide) ?_
              exact g_zret hx hb hr hlocks hw (Or.inl rfl) h dL_weeks_67
