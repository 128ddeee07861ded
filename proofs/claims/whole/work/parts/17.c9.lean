abbrev rm_X5_told : Room := { frames := 8, cells := 0, slots := 0, locals := 182 }
set_option maxHeartbeats 4000000 in
set_option maxRecDepth 100000 in
theorem c_X5_told {o : Om} {l : Launch} (hn : 122 ≤ o.2.2.2) {M : Mm} {x1 : Int32} {Q : Int32 → Mm → Prop} (h : w_X5_told M x1 Q) : CI o l yX5_told cX5_told 2 rm_X5_told [.ref (o.2.1 17 0), .int x1] M Q := by
  refine g_start (by decide +kernel) (Nat.le_of_ble_eq_true rfl) ?_
  intro p e s m args below meth c hx hb hr hlocks hml hown hts hw ls hl
  replace hl : lv_has ls 2 [(0, .ref (o.2.1 17 0)), (1, .int x1)] := hl
  unfold w_X5_told at h
  refine lv_iload_n hx hb dX5_told_0 rfl (lv_at hl 1 rfl) ?_
  by_cases c0 : x1 = (0 : Int32)
  · rw [if_pos c0] at h
    refine lv_tableIn (tgt := 64) hx hb dX5_told_1 (by rw [c0]; decide) (by rw [c0]; decide) (by rw [c0]; rfl) (by decide) ?_
    clear c0
    refine lv_aload_n hx hb dX5_told_64 rfl (lv_at hl 0 rfl) ?_
    refine g_getf hx hb hts in_X5 hown hw 17 0 (ci_17 (by decide)) (bi_17 (by decide) hn) rfl rfl 0 (by decide) kX5_7 rfl dX5_told_65 ?_
    refine lv_iload_n hx hb dX5_told_68 rfl (lv_at hl 1 rfl) ?_
    refine g_iald hx hb hw 18 0 (ci_18 (by decide)) (bi_18 (by decide) hn) rfl h dX5_told_69 ?_
    clear h; intro v1 h
    exact g_iret hx hb hr hlocks hw h dX5_told_70
  rw [if_neg c0] at h
  by_cases c1 : x1 = (1 : Int32)
  · rw [if_pos c1] at h
    refine lv_tableIn (tgt := 64) hx hb dX5_told_1 (by rw [c1]; decide) (by rw [c1]; decide) (by rw [c1]; rfl) (by decide) ?_
    clear c1
    refine lv_aload_n hx hb dX5_told_64 rfl (lv_at hl 0 rfl) ?_
    refine g_getf hx hb hts in_X5 hown hw 17 0 (ci_17 (by decide)) (bi_17 (by decide) hn) rfl rfl 0 (by decide) kX5_7 rfl dX5_told_65 ?_
    refine lv_iload_n hx hb dX5_told_68 rfl (lv_at hl 1 rfl) ?_
    refine g_iald hx hb hw 18 0 (ci_18 (by decide)) (bi_18 (by decide) hn) rfl h dX5_told_69 ?_
    clear h; intro v2 h
    exact g_iret hx hb hr hlocks hw h dX5_told_70
  rw [if_neg c1] at h
  by_cases c2 : x1 = (2 : Int32)
  · rw [if_pos c2] at h
    refine lv_tableIn (tgt := 64) hx hb dX5_told_1 (by rw [c2]; decide) (by rw [c2]; decide) (by rw [c2]; rfl) (by decide) ?_
    clear c2
    refine lv_aload_n hx hb dX5_told_64 rfl (lv_at hl 0 rfl) ?_
    refine g_getf hx hb hts in_X5 hown hw 17 0 (ci_17 (by decide)) (bi_17 (by decide) hn) rfl rfl 0 (by decide) kX5_7 rfl dX5_told_65 ?_
    refine lv_iload_n hx hb dX5_told_68 rfl (lv_at hl 1 rfl) ?_
    refine g_iald hx hb hw 18 0 (ci_18 (by decide)) (bi_18 (by decide) hn) rfl h dX5_told_69 ?_
    clear h; intro v3 h
    exact g_iret hx hb hr hlocks hw h dX5_told_70
  rw [if_neg c2] at h
  by_cases c3 : x1 = (3 : Int32)
  · rw [if_pos c3] at h
    refine lv_tableIn (tgt := 64) hx hb dX5_told_1 (by rw [c3]; decide) (by rw [c3]; decide) (by rw [c3]; rfl) (by decide) ?_
    clear c3
    refine lv_aload_n hx hb dX5_told_64 rfl (lv_at hl 0 rfl) ?_
    refine g_getf hx hb hts in_X5 hown hw 17 0 (ci_17 (by decide)) (bi_17 (by decide) hn) rfl rfl 0 (by decide) kX5_7 rfl dX5_told_65 ?_
    refine lv_iload_n hx hb dX5_told_68 rfl (lv_at hl 1 rfl) ?_
    refine g_iald hx hb hw 18 0 (ci_18 (by decide)) (bi_18 (by decide) hn) rfl h dX5_told_69 ?_
    clear h; intro v4 h
    exact g_iret hx hb hr hlocks hw h dX5_told_70
  rw [if_neg c3] at h
  by_cases c4 : x1 = (4 : Int32)
  · rw [if_pos c4] at h
    refine lv_tableIn (tgt := 71) hx hb dX5_told_1 (by rw [c4]; decide) (by rw [c4]; decide) (by rw [c4]; rfl) (by decide) ?_
    clear c4
    refine lv_aload_n hx hb dX5_told_71 rfl (lv_at hl 0 rfl) ?_
    refine g_ci hw (g_runV (As := []) (rest := []) hx hb hml hown hts mX5_weeks vX5_weeks kX5_56 hw 17 0 (ci_17 (by decide)) (bi_17 (by decide) hn) rfl rfl (c_X5_weeks hn h) rfl rfl ⟨Nat.le_of_ble_eq_true rfl, Nat.le_of_ble_eq_true rfl⟩ rfl hl.1 rfl (Nat.le_of_ble_eq_true rfl) dX5_told_72 ⟨Nat.zero_le _, Nat.zero_le _⟩) ?_
    clear h hw; intro v6 M5 H locs hw h
    exact g_iret hx hb hr hlocks hw h dX5_told_75
  rw [if_neg c4] at h
  by_cases c5 : x1 = (5 : Int32)
  · rw [if_pos c5] at h
    refine lv_tableIn (tgt := 76) hx hb dX5_told_1 (by rw [c5]; decide) (by rw [c5]; decide) (by rw [c5]; rfl) (by decide) ?_
    clear c5
    refine lv_aload_n hx hb dX5_told_76 rfl (lv_at hl 0 rfl) ?_
    refine g_getf hx hb hts in_X5 hown hw 17 0 (ci_17 (by decide)) (bi_17 (by decide) hn) rfl rfl 0 (by decide) kX5_7 rfl dX5_told_77 ?_
    refine lv_iconst (v := 4) hx hb dX5_told_80 (by decide) ?_
    refine g_iald hx hb hw 18 0 (ci_18 (by decide)) (bi_18 (by decide) hn) rfl h dX5_told_81 ?_
    clear h; intro v7 h
    exact g_iret hx hb hr hlocks hw h dX5_told_82
  rw [if_neg c5] at h
  by_cases c6 : x1 = (6 : Int32)
  · rw [if_pos c6] at h
    refine lv_tableIn (tgt := 83) hx hb dX5_told_1 (by rw [c6]; decide) (by rw [c6]; decide) (by rw [c6]; rfl) (by decide) ?_
    clear c6
    refine lv_aload_n hx hb dX5_told_83 rfl (lv_at hl 0 rfl) ?_
    refine g_ci hw (g_runV (As := []) (rest := []) hx hb hml hown hts mX5_longOnes vX5_longOnes kX5_220 hw 17 0 (ci_17 (by decide)) (bi_17 (by decide) hn) rfl rfl (c_X5_longOnes hn h) rfl rfl ⟨Nat.le_of_ble_eq_true rfl, Nat.le_of_ble_eq_true rfl⟩ rfl hl.1 rfl (Nat.le_of_ble_eq_true rfl) dX5_told_84 ⟨Nat.zero_le _, Nat.zero_le _⟩) ?_
    clear h hw; intro v9 M8 H locs hw h
    exact g_iret hx hb hr hlocks hw h dX5_told_87
  rw [if_neg c6] at h
  by_cases c7 : x1 = (7 : Int32)
  · rw [if_pos c7] at h
    refine lv_tableIn (tgt := 88) hx hb dX5_told_1 (by rw [c7]; decide) (by rw [c7]; decide) (by rw [c7]; rfl) (by decide) ?_
    clear c7
    refine lv_aload_n hx hb dX5_told_88 rfl (lv_at hl 0 rfl) ?_
    refine g_ci hw (g_runV (As := []) (rest := []) hx hb hml hown hts mX5_present vX5_present kX5_223 hw 17 0 (ci_17 (by decide)) (bi_17 (by decide) hn) rfl rfl (c_X5_present hn h) rfl rfl ⟨Nat.le_of_ble_eq_true rfl, Nat.le_of_ble_eq_true rfl⟩ rfl hl.1 rfl (Nat.le_of_ble_eq_true rfl) dX5_told_89 ⟨Nat.zero_le _, Nat.zero_le _⟩) ?_
    clear h hw; intro v11 M10 H locs hw h
    exact g_iret hx hb hr hlocks hw h dX5_told_92
  rw [if_neg c7] at h
  by_cases c8 : x1 = (8 : Int32)
  · rw [if_pos c8] at h
    refine lv_tableIn (tgt := 93) hx hb dX5_told_1 (by rw [c8]; decide) (by rw [c8]; decide) (by rw [c8]; rfl) (by decide) ?_
    clear c8
    refine lv_aload_n hx hb dX5_told_93 rfl (lv_at hl 0 rfl) ?_
    refine g_ci hw (g_runV (As := []) (rest := []) hx hb hml hown hts mX5_bars vX5_bars kX5_226 hw 17 0 (ci_17 (by decide)) (bi_17 (by decide) hn) rfl rfl (c_X5_bars hn h) rfl rfl ⟨Nat.le_of_ble_eq_true rfl, Nat.le_of_ble_eq_true rfl⟩ rfl hl.1 rfl (Nat.le_of_ble_eq_true rfl) dX5_told_94 ⟨Nat.zero_le _, Nat.zero_le _⟩) ?_
    clear h hw; intro v13 M12 H locs hw h
    exact g_iret hx hb hr hlocks hw h dX5_told_97
  rw [if_neg c8] at h
  by_cases c9 : x1 = (9 : Int32)
  · rw [if_pos c9] at h
    refine lv_tableIn (tgt := 98) hx hb dX5_told_1 (by rw [c9]; decide) (by rw [c9]; decide) (by rw [c9]; rfl) (by decide) ?_
    clear c9
    refine lv_aload_n hx hb dX5_told_98 rfl (lv_at hl 0 rfl) ?_
    refine lv_aload_n hx hb dX5_told_99 rfl (lv_at hl 0 rfl) ?_
    refine g_getf hx hb hts in_X5 hown hw 17 0 (ci_17 (by decide)) (bi_17 (by decide) hn) rfl rfl 0 (by decide) kX5_7 rfl dX5_told_100 ?_
    refine lv_iconst (v := 3) hx hb dX5_told_103 (by decide) ?_
    refine g_iald hx hb hw 18 0 (ci_18 (by decide)) (bi_18 (by decide) hn) rfl h dX5_told_104 ?_
    clear h; intro v14 h
    refine g_ci hw (g_runV (As := [.int v14]) (rest := []) hx hb hml hown hts mX5_hiddenWith vX5_hiddenWith kX5_214 hw 17 0 (ci_17 (by decide)) (bi_17 (by decide) hn) rfl rfl (c_X5_hiddenWith hn h) rfl rfl ⟨Nat.le_of_ble_eq_true rfl, Nat.le_of_ble_eq_true rfl⟩ rfl hl.1 rfl (Nat.le_of_ble_eq_true rfl) dX5_told_105 ⟨Nat.zero_le _, Nat.zero_le _⟩) ?_
    clear h hw; intro v16 M15 H locs hw h
    exact g_iret hx hb hr hlocks hw h dX5_told_108
  rw [if_neg c9] at h
  by_cases c10 : x1 = (10 : Int32)
  · rw [if_pos c10] at h
    refine lv_tableIn (tgt := 109) hx hb dX5_told_1 (by rw [c10]; decide) (by rw [c10]; decide) (by rw [c10]; rfl) (by decide) ?_
    clear c10
    refine lv_aload_n hx hb dX5_told_109 rfl (lv_at hl 0 rfl) ?_
    refine g_getf hx hb hts in_X5 hown hw 17 0 (ci_17 (by decide)) (bi_17 (by decide) hn) rfl rfl 3 (by decide) kX5_146 rfl dX5_told_110 ?_
    exact g_iret hx hb hr hlocks hw h dX5_told_113
  rw [if_neg c10] at h
  by_cases c11 : x1 = (11 : Int32)
  · rw [if_pos c11] at h
    refine lv_tableIn (tgt := 114) hx hb dX5_told_1 (by rw [c11]; decide) (by rw [c11]; decide) (by rw [c11]; rfl) (by decide) ?_
    clear c11
    refine lv_aload_n hx hb dX5_told_114 rfl (lv_at hl 0 rfl) ?_
    refine g_getf hx hb hts in_X5 hown hw 17 0 (ci_17 (by decide)) (bi_17 (by decide) hn) rfl rfl 1 (by decide) kX5_28 rfl dX5_told_115 ?_
    exact g_iret hx hb hr hlocks hw h dX5_told_118
  rw [if_neg c11] at h
  refine lv_tableOut (tgt := 119) hx hb dX5_told_1 (tbl_out (fun k h1 => by rcases (show k = 0 ∨ k = 1 ∨ k = 2 ∨ k = 3 ∨ k = 4 ∨ k = 5 ∨ k = 6 ∨ k = 7 ∨ k = 8 ∨ k = 9 ∨ k = 10 ∨ k = 11 by omega) with rfl | rfl | rfl | rfl | rfl | rfl | rfl | rfl | rfl | rfl | rfl | rfl <;> assumption)) (by decide) ?_
  clear c0 c1 c2 c3 c4 c5 c6 c7 c8 c9 c10 c11
  refine lv_iconst (v := (-1)) hx hb dX5_told_119 (by decide) ?_
  exact g_iret hx hb hr hlocks hw h dX5_told_120
abbrev rm_X5_undo : Room := { frames := 0, cells := 0, slots := 0, locals := 0 }
set_option maxHeartbeats 4000000 in
set_option maxRecDepth 100000 in
theorem c_X5_undo {o : Om} {l : Launch} (hn : 122 ≤ o.2.2.2) {M : Mm} {Q : Int32 → Mm → Prop} (h : w_X5_undo M Q) : CI o l yX5_undo cX5_undo 2 rm_X5_undo [.ref (o.2.1 17 0)] M Q := by
  refine g_start (by decide +kernel) (Nat.le_of_ble_eq_true rfl) ?_
  intro p e s m args below meth c hx hb hr hlocks hml hown hts hw ls hl
  replace hl : lv_has ls 2 [(0, .ref (o.2.1 17 0))] := hl
  unfold w_X5_undo at h
  refine lv_aload_n hx hb dX5_undo_0 rfl (lv_at hl 0 rfl) ?_
  refine g_getf hx hb hts in_X5 hown hw 17 0 (ci_17 (by decide)) (bi_17 (by decide) hn) rfl rfl 1 (by decide) kX5_28 rfl dX5_undo_1 ?_
  refine g_if_ne (tgt := 10) hx hb h dX5_undo_4 (by decide) ?_ ?_
  · clear h; intro h
    refine lv_iconst (v := 0) hx hb dX5_undo_10 (by decide) ?_
    refine lv_istore_n (lv' := [(1, .int (0 : Int32)), (0, .ref (o.2.1 17 0))]) hx hb dX5_undo_11 rfl hl (by decide) rfl ?_
    clear hl; clear ls; intro ls hl
    obtain ⟨n, h⟩ := h
    refine letK_W (body := fun K => w_X5_undo_L12 K) (fun (x : Int32 × Mm) => ∀ (H : Heap) (locs : List Loc) (ls : Array Slot), WO o (WA o) s s.heap H locs x.2 → lv_has ls 2 [(0, .ref (o.2.1 17 0))] → W p l e rm_X5_undo s m args below meth c H locs 0 0 (MQ below (QI o Q) args s 0 0 (WA o)) (F0 m 44 ls [])) h ?_ ?_
    · clear h hw hl; clear ls; intro x h H locs ls hw hl
      obtain ⟨v8, M9⟩ := x
      replace hl : lv_has ls 2 [(0, .ref (o.2.1 17 0))] := hl
      dsimp only at h hw
      refine lv_aload_n hx hb dX5_undo_44 rfl (lv_at hl 0 rfl) ?_
      refine lv_dup hx hb dX5_undo_45 rfl ?_
      refine g_getf hx hb hts in_X5 hown hw 17 0 (ci_17 (by decide)) (bi_17 (by decide) hn) rfl rfl 1 (by decide) kX5_28 rfl dX5_undo_46 ?_
      refine lv_iconst (v := 1) hx hb dX5_undo_49 (by decide) ?_
      refine lv_isub hx hb dX5_undo_50 ?_
      refine g_putf hx hb hts in_X5 tyX5 tyX5_ok nmX5 hown hw 17 0 (ci_17 (by decide)) (bi_17 (by decide) hn) rfl 1 (by decide) rfl rfl kX5_28 (by decide +kernel) (by decide +kernel) (by simp) h dX5_undo_51 ?_
      clear h hw; intro M10 H locs hw h
      refine lv_aload_n hx hb dX5_undo_54 rfl (lv_at hl 0 rfl) ?_
      refine g_getf hx hb hts in_X5 hown hw 17 0 (ci_17 (by decide)) (bi_17 (by decide) hn) rfl rfl 1 (by decide) kX5_28 rfl dX5_undo_55 ?_
      exact g_iret hx hb hr hlocks hw h dX5_undo_58
    clear h; intro K3 hK3 h
    refine loop_W (body := w_X5_undo_L12 K3) (fun (x : Int32 × Mm) => ∀ (H : Heap) (locs : List Loc) (ls : Array Slot), WO o (WA o) s s.heap H locs x.2 → lv_has ls 2 [(0, .ref (o.2.1 17 0)), (1, .int x.1)] → W p l e rm_X5_undo s m args below meth c H locs 0 0 (MQ below (QI o Q) args s 0 0 (WA o)) (F0 m 12 ls [])) ?_ n _ h _ _ _ hw (lv_sub hl [1, 0] rfl)
    clear h hw hl; clear ls; intro R4 x hR4 h H locs ls hw hl
    obtain ⟨v1, M2⟩ := x
    replace hl : lv_has ls 2 [(0, .ref (o.2.1 17 0)), (1, .int v1)] := hl
    dsimp only at hw
    unfold w_X5_undo_L12 at h
    dsimp only at h
    refine lv_iload_n hx hb dX5_undo_12 rfl (lv_at hl 1 rfl) ?_
    refine lv_bipush (v := 101) hx hb dX5_undo_13 (by decide) ?_
    refine g_icmp_ge (tgt := 44) hx hb h dX5_undo_15 (by decide) ?_ ?_
    · clear h; intro h
      exact hK3 (v1, M2) h _ _ _ hw (lv_sub hl [0] rfl)
    · clear h; intro h
      refine lv_aload_n hx hb dX5_undo_18 rfl (lv_at hl 0 rfl) ?_
      refine g_getf hx hb hts in_X5 hown hw 17 0 (ci_17 (by decide)) (bi_17 (by decide) hn) rfl rfl 0 (by decide) kX5_7 rfl dX5_undo_19 ?_
      refine lv_iload_n hx hb dX5_undo_22 rfl (lv_at hl 1 rfl) ?_
      refine lv_aload_n hx hb dX5_undo_23 rfl (lv_at hl 0 rfl) ?_
      refine g_getf hx hb hts in_X5 hown hw 17 0 (ci_17 (by decide)) (bi_17 (by decide) hn) rfl rfl 0 (by decide) kX5_7 rfl dX5_undo_24 ?_
      refine lv_bipush (v := 101) hx hb dX5_undo_27 (by decide) ?_
      refine lv_aload_n hx hb dX5_undo_29 rfl (lv_at hl 0 rfl) ?_
      refine g_getf hx hb hts in_X5 hown hw 17 0 (ci_17 (by decide)) (bi_17 (by decide) hn) rfl rfl 1 (by decide) kX5_28 rfl dX5_undo_30 ?_
      refine lv_imul hx hb dX5_undo_33 ?_
      refine lv_iload_n hx hb dX5_undo_34 rfl (lv_at hl 1 rfl) ?_
      refine lv_iadd hx hb dX5_undo_35 ?_
      refine g_iald hx hb hw 18 0 (ci_18 (by decide)) (bi_18 (by decide) hn) rfl h dX5_undo_36 ?_
      clear h; intro v5 h
      refine g_iast hx hb hw 18 0 (ci_18 (by decide)) (bi_18 (by decide) hn) (fun _ => rfl) h dX5_undo_37 ?_
      clear h hw; intro M6 H locs hw h
      refine g_iinc (k := 1) (v := (v1 + (1 : Int32))) (lv' := fun v7 => [(1, .int v7), (0, .ref (o.2.1 17 0))]) hx hb dX5_undo_38 hl rfl rfl (by decide) (fun _ => rfl) h ?_
      clear h hl; clear ls; intro v7 ls h hl
      refine lv_goto (tgt := 12) hx hb dX5_undo_41 (by decide) ?_
      exact hR4 (v7, M6) h _ _ _ hw (lv_sub hl [1, 0] rfl)
  · clear h; intro h
    refine lv_bipush (v := (-2)) hx hb dX5_undo_7 (by decide) ?_
    exact g_iret hx hb hr hlocks hw h dX5_undo_9
abbrev rm_X5_mixedEntry : Room := { frames := 7, cells := 0, slots := 0, locals := 157 }
set_option maxHeartbeats 4000000 in
set_option maxRecDepth 100000 in
theorem c_X5_mixedEntry {o : Om} {l : Launch} (hn : 122 ≤ o.2.2.2) {M : Mm} {x1 : Int64} {x3 : Int32} {Q : Int64 → Mm → Prop} (h : w_X5_mixedEntry M x1 x3 Q) : CL o l yX5_mixedEntry cX5_mixedEntry 8 rm_X5_mixedEntry [.ref (o.2.1 17 0), .long x1, .int x3] M Q := by
  refine g_start (by decide +kernel) (Nat.le_of_ble_eq_true rfl) ?_
  intro p e s m args below meth c hx hb hr hlocks hml hown hts hw ls hl
  replace hl : lv_has ls 8 [(0, .ref (o.2.1 17 0)), (1, .long x1), (3, .int x3)] := hl
  unfold w_X5_mixedEntry at h
  refine lv_lload_n hx hb dX5_mixedEntry_0 rfl (lv_at hl 1 rfl) ?_
  refine lv_lstore (lv' := [(4, .long x1), (0, .ref (o.2.1 17 0)), (1, .long x1), (3, .int x3)]) hx hb dX5_mixedEntry_1 hl (by decide) rfl ?_
  clear hl; clear ls; intro ls hl
  refine lv_iconst (v := 0) hx hb dX5_mixedEntry_3 (by decide) ?_
  refine lv_istore (lv' := [(6, .int (0 : Int32)), (4, .long x1), (0, .ref (o.2.1 17 0)), (1, .long x1), (3, .int x3)]) hx hb dX5_mixedEntry_4 hl (by decide) rfl ?_
  clear hl; clear ls; intro ls hl
  obtain ⟨n, h⟩ := h
  refine letK_W (body := fun K => w_X5_mixedEntry_L6 x3 K) (fun (x : Int64 × Int32 × Mm) => ∀ (H : Heap) (locs : List Loc) (ls : Array Slot), WO o (WA o) s s.heap H locs x.2.2 → lv_has ls 8 [(0, .ref (o.2.1 17 0)), (3, .int x3), (4, .long x.1)] → W p l e rm_X5_mixedEntry s m args below meth c H locs 0 0 (MQ below (QL o Q) args s 0 0 (WA o)) (F0 m 36 ls [])) h ?_ ?_
  · clear h hw hl; clear ls; intro x h H locs ls hw hl
    obtain ⟨v10, v11, M12⟩ := x
    replace hl : lv_has ls 8 [(0, .ref (o.2.1 17 0)), (3, .int x3), (4, .long v10)] := hl
    dsimp only at h hw
    refine lv_iconst (v := 0) hx hb dX5_mixedEntry_36 (by decide) ?_
    refine lv_istore (lv' := [(6, .int (0 : Int32)), (0, .ref (o.2.1 17 0)), (3, .int x3), (4, .long v10)]) hx hb dX5_mixedEntry_37 hl (by decide) rfl ?_
    clear hl; clear ls; intro ls hl
    obtain ⟨n, h⟩ := h
    refine letK_W (body := fun K => w_X5_mixedEntry_L39 x3 K) (fun (x : Int64 × Int32 × Mm) => ∀ (H : Heap) (locs : List Loc) (ls : Array Slot), WO o (WA o) s s.heap H locs x.2.2 → lv_has ls 8 [(4, .long x.1)] → W p l e rm_X5_mixedEntry s m args below meth c H locs 0 0 (MQ below (QL o Q) args s 0 0 (WA o)) (F0 m 103 ls [])) h ?_ ?_
    · clear h hw hl; clear ls; intro x h H locs ls hw hl
      obtain ⟨v37, v38, M39⟩ := x
      replace hl : lv_has ls 8 [(4, .long v37)] := hl
      dsimp only at h hw
      refine lv_lload hx hb dX5_mixedEntry_103 (lv_at hl 0 rfl) ?_
      exact g_lret hx hb hr hlocks hw h dX5_mixedEntry_105
    clear h; intro K16 hK16 h
    refine loop_W (body := w_X5_mixedEntry_L39 x3 K16) (fun (x : Int64 × Int32 × Mm) => ∀ (H : Heap) (locs : List Loc) (ls : Array Slot), WO o (WA o) s s.heap H locs x.2.2 → lv_has ls 8 [(0, .ref (o.2.1 17 0)), (3, .int x3), (4, .long x.1), (6, .int x.2.1)] → W p l e rm_X5_mixedEntry s m args below meth c H locs 0 0 (MQ below (QL o Q) args s 0 0 (WA o)) (F0 m 39 ls [])) ?_ n _ h _ _ _ hw (lv_sub hl [1, 2, 3, 0] rfl)
    clear h hw hl; clear ls; intro R17 x hR17 h H locs ls hw hl
    obtain ⟨v13, v14, M15⟩ := x
    replace hl : lv_has ls 8 [(0, .ref (o.2.1 17 0)), (3, .int x3), (4, .long v13), (6, .int v14)] := hl
    dsimp only at hw
    unfold w_X5_mixedEntry_L39 at h
    dsimp only at h
    refine lv_iload hx hb dX5_mixedEntry_39 (lv_at hl 3 rfl) ?_
    refine lv_aload_n hx hb dX5_mixedEntry_41 rfl (lv_at hl 0 rfl) ?_
    refine g_ci hw (g_runV (As := []) (rest := [.int v14]) hx hb hml hown hts mX5_weeks vX5_weeks kX5_56 hw 17 0 (ci_17 (by decide)) (bi_17 (by decide) hn) rfl rfl (c_X5_weeks hn h) rfl rfl ⟨Nat.le_of_ble_eq_true rfl, Nat.le_of_ble_eq_true rfl⟩ rfl hl.1 rfl (Nat.le_of_ble_eq_true rfl) dX5_mixedEntry_42 ⟨Nat.zero_le _, Nat.zero_le _⟩) ?_
    clear h hw; intro v19 M18 H locs hw h
    refine g_icmp_ge (tgt := 103) hx hb h dX5_mixedEntry_45 (by decide) ?_ ?_
    · clear h; intro h
      exact hK16 (v13, v14, M18) h _ _ _ hw (lv_sub hl [2] rfl)
    · clear h; intro h
      refine lv_iconst (v := 0) hx hb dX5_mixedEntry_48 (by decide) ?_
      refine lv_istore (lv' := [(7, .int (0 : Int32)), (0, .ref (o.2.1 17 0)), (3, .int x3), (4, .long v13), (6, .int v14)]) hx hb dX5_mixedEntry_49 hl (by decide) rfl ?_
      clear hl; clear ls; intro ls hl
      obtain ⟨n, h⟩ := h
      refine letK_W (body := fun K => w_X5_mixedEntry_L51 x3 v14 K) (fun (x : Int64 × Int32 × Mm) => ∀ (H : Heap) (locs : List Loc) (ls : Array Slot), WO o (WA o) s s.heap H locs x.2.2 → lv_has ls 8 [(0, .ref (o.2.1 17 0)), (3, .int x3), (4, .long x.1), (6, .int v14)] → W p l e rm_X5_mixedEntry s m args below meth c H locs 0 0 (MQ below (QL o Q) args s 0 0 (WA o)) (F0 m 97 ls [])) h ?_ ?_
      · clear h hw hl; clear ls; intro x h H locs ls hw hl
        obtain ⟨v33, v34, M35⟩ := x
        replace hl : lv_has ls 8 [(0, .ref (o.2.1 17 0)), (3, .int x3), (4, .long v33), (6, .int v14)] := hl
        dsimp only at h hw
        refine g_iinc (k := 3) (v := (v14 + (1 : Int32))) (lv' := fun v36 => [(6, .int v36), (0, .ref (o.2.1 17 0)), (3, .int x3), (4, .long v33)]) hx hb dX5_mixedEntry_97 hl rfl rfl (by decide) (fun _ => rfl) h ?_
        clear h hl; clear ls; intro v36 ls h hl
        refine lv_goto (tgt := 39) hx hb dX5_mixedEntry_100 (by decide) ?_
        exact hR17 (v33, v36, M35) h _ _ _ hw (lv_sub hl [1, 2, 3, 0] rfl)
      clear h; intro K23 hK23 h
      refine loop_W (body := w_X5_mixedEntry_L51 x3 v14 K23) (fun (x : Int64 × Int32 × Mm) => ∀ (H : Heap) (locs : List Loc) (ls : Array Slot), WO o (WA o) s s.heap H locs x.2.2 → lv_has ls 8 [(0, .ref (o.2.1 17 0)), (3, .int x3), (4, .long x.1), (6, .int v14), (7, .int x.2.1)] → W p l e rm_X5_mixedEntry s m args below meth c H locs 0 0 (MQ below (QL o Q) args s 0 0 (WA o)) (F0 m 51 ls [])) ?_ n _ h _ _ _ hw (lv_sub hl [1, 2, 3, 4, 0] rfl)
      clear h hw hl; clear ls; intro R24 x hR24 h H locs ls hw hl
      obtain ⟨v20, v21, M22⟩ := x
      replace hl : lv_has ls 8 [(0, .ref (o.2.1 17 0)), (3, .int x3), (4, .long v20), (6, .int v14), (7, .int v21)] := hl
      dsimp only at hw
      unfold w_X5_mixedEntry_L51 at h
      dsimp only at h
      refine lv_iload hx hb dX5_mixedEntry_51 (lv_at hl 4 rfl) ?_
      refine lv_iconst (v := 4) hx hb dX5_mixedEntry_53 (by decide) ?_
      refine g_icmp_gt (tgt := 97) hx hb h dX5_mixedEntry_54 (by decide) ?_ ?_
      · clear h; intro h
        exact hK23 (v20, v21, M22) h _ _ _ hw (lv_sub hl [0, 1, 2, 3] rfl)
      · clear h; intro h
        refine lv_ldc2 hx hb hown (hts _ kX5_229) dX5_mixedEntry_57 ?_
        refine lv_lload hx hb dX5_mixedEntry_60 (lv_at hl 2 rfl) ?_
        refine lv_lmul hx hb dX5_mixedEntry_62 ?_
        refine lv_aload_n hx hb dX5_mixedEntry_63 rfl (lv_at hl 0 rfl) ?_
        refine lv_iload_n hx hb dX5_mixedEntry_64 rfl (lv_at hl 1 rfl) ?_
        refine lv_iload hx hb dX5_mixedEntry_65 (lv_at hl 3 rfl) ?_
        refine g_cz hw (g_runV (As := [.int x3, .int v14]) (rest := [.long ((31 : Int64) * v20)]) hx hb hml hown hts mX5_hasBar vX5_hasBar kX5_196 hw 17 0 (ci_17 (by decide)) (bi_17 (by decide) hn) rfl rfl (c_X5_hasBar hn h) rfl rfl ⟨Nat.le_of_ble_eq_true rfl, Nat.le_of_ble_eq_true rfl⟩ rfl hl.1 rfl (Nat.le_of_ble_eq_true rfl) dX5_mixedEntry_67 ⟨Nat.zero_le _, Nat.zero_le _⟩) ?_
        clear h hw; intro v26 M25 H locs hw hz_v26 h
        refine g_if_eq (tgt := 85) hx hb h dX5_mixedEntry_70 (by decide) ?_ ?_
        · clear h; intro h
          refine lv_bipush (v := (-9)) hx hb dX5_mixedEntry_85 (by decide) ?_
          refine lv_i2l hx hb dX5_mixedEntry_87 rfl ?_
          refine lv_ladd hx hb dX5_mixedEntry_88 ?_
          refine g_topl h ?_
          clear h; intro v27 h
          refine lv_lstore (lv' := [(4, .long v27), (0, .ref (o.2.1 17 0)), (3, .int x3), (6, .int v14), (7, .int v21)]) hx hb dX5_mixedEntry_89 hl (by decide) rfl ?_
          clear hl; clear ls; intro ls hl
          refine g_iinc (k := 4) (v := (v21 + (1 : Int32))) (lv' := fun v28 => [(7, .int v28), (4, .long v27), (0, .ref (o.2.1 17 0)), (3, .int x3), (6, .int v14)]) hx hb dX5_mixedEntry_91 hl rfl rfl (by decide) (fun _ => rfl) h ?_
          clear h hl; clear ls; intro v28 ls h hl
          refine lv_goto (tgt := 51) hx hb dX5_mixedEntry_94 (by decide) ?_
          exact hR24 (v27, v28, M25) h _ _ _ hw (lv_sub hl [2, 3, 1, 4, 0] rfl)
        · clear h; intro h
          refine lv_aload_n hx hb dX5_mixedEntry_73 rfl (lv_at hl 0 rfl) ?_
          refine lv_iload_n hx hb dX5_mixedEntry_74 rfl (lv_at hl 1 rfl) ?_
          refine lv_iload hx hb dX5_mixedEntry_75 (lv_at hl 3 rfl) ?_
          refine lv_iload hx hb dX5_mixedEntry_77 (lv_at hl 4 rfl) ?_
          refine g_ci hw (g_runV (As := [.int x3, .int v14, .int v21]) (rest := [.long ((31 : Int64) * v20)]) hx hb hml hown hts mX5_barOf vX5_barOf kX5_199 hw 17 0 (ci_17 (by decide)) (bi_17 (by decide) hn) rfl rfl (c_X5_barOf hn h) rfl rfl ⟨Nat.le_of_ble_eq_true rfl, Nat.le_of_ble_eq_true rfl⟩ rfl hl.1 rfl (Nat.le_of_ble_eq_true rfl) dX5_mixedEntry_79 ⟨Nat.zero_le _, Nat.zero_le _⟩) ?_
          clear h hw; intro v30 M29 H locs hw h
          refine lv_goto (tgt := 87) hx hb dX5_mixedEntry_82 (by decide) ?_
          refine lv_i2l hx hb dX5_mixedEntry_87 rfl ?_
          refine lv_ladd hx hb dX5_mixedEntry_88 ?_
          refine g_topl h ?_
          clear h; intro v31 h
          refine lv_lstore (lv' := [(4, .long v31), (0, .ref (o.2.1 17 0)), (3, .int x3), (6, .int v14), (7, .int v21)]) hx hb dX5_mixedEntry_89 hl (by decide) rfl ?_
          clear hl; clear ls; intro ls hl
          refine g_iinc (k := 4) (v := (v21 + (1 : Int32))) (lv' := fun v32 => [(7, .int v32), (4, .long v31), (0, .ref (o.2.1 17 0)), (3, .int x3), (6, .int v14)]) hx hb dX5_mixedEntry_91 hl rfl rfl (by decide) (fun _ => rfl) h ?_
          clear h hl; clear ls; intro v32 ls h hl
          refine lv_goto (tgt := 51) hx hb dX5_mixedEntry_94 (by decide) ?_
          exact hR24 (v31, v32, M29) h _ _ _ hw (lv_sub hl [2, 3, 1, 4, 0] rfl)
  clear h; intro K4 hK4 h
  refine loop_W (body := w_X5_mixedEntry_L6 x3 K4) (fun (x : Int64 × Int32 × Mm) => ∀ (H : Heap) (locs : List Loc) (ls : Array Slot), WO o (WA o) s s.heap H locs x.2.2 → lv_has ls 8 [(0, .ref (o.2.1 17 0)), (3, .int x3), (4, .long x.1), (6, .int x.2.1)] → W p l e rm_X5_mixedEntry s m args below meth c H locs 0 0 (MQ below (QL o Q) args s 0 0 (WA o)) (F0 m 6 ls [])) ?_ n _ h _ _ _ hw (lv_sub hl [2, 4, 1, 0] rfl)
  clear h hw hl; clear ls; intro R5 x hR5 h H locs ls hw hl
  obtain ⟨v1, v2, M3⟩ := x
  replace hl : lv_has ls 8 [(0, .ref (o.2.1 17 0)), (3, .int x3), (4, .long v1), (6, .int v2)] := hl
  dsimp only at hw
  unfold w_X5_mixedEntry_L6 at h
  dsimp only at h
  refine lv_iload hx hb dX5_mixedEntry_6 (lv_at hl 3 rfl) ?_
  refine lv_bipush (v := 7) hx hb dX5_mixedEntry_8 (by decide) ?_
  refine g_icmp_gt (tgt := 36) hx hb h dX5_mixedEntry_10 (by decide) ?_ ?_
  · clear h; intro h
    exact hK4 (v1, v2, M3) h _ _ _ hw (lv_sub hl [0, 1, 2] rfl)
  · clear h; intro h
    refine lv_ldc2 hx hb hown (hts _ kX5_229) dX5_mixedEntry_13 ?_
    refine lv_lload hx hb dX5_mixedEntry_16 (lv_at hl 2 rfl) ?_
    refine lv_lmul hx hb dX5_mixedEntry_18 ?_
    refine lv_aload_n hx hb dX5_mixedEntry_19 rfl (lv_at hl 0 rfl) ?_
    refine lv_iload_n hx hb dX5_mixedEntry_20 rfl (lv_at hl 1 rfl) ?_
    refine lv_iload hx hb dX5_mixedEntry_21 (lv_at hl 3 rfl) ?_
    refine g_ci hw (g_runV (As := [.int x3, .int v2]) (rest := [.long ((31 : Int64) * v1)]) hx hb hml hown hts mX5_entryOf vX5_entryOf kX5_193 hw 17 0 (ci_17 (by decide)) (bi_17 (by decide) hn) rfl rfl (c_X5_entryOf hn h) rfl rfl ⟨Nat.le_of_ble_eq_true rfl, Nat.le_of_ble_eq_true rfl⟩ rfl hl.1 rfl (Nat.le_of_ble_eq_true rfl) dX5_mixedEntry_23 ⟨Nat.zero_le _, Nat.zero_le _⟩) ?_
    clear h hw; intro v7 M6 H locs hw h
    refine lv_i2l hx hb dX5_mixedEntry_26 rfl ?_
    refine lv_ladd hx hb dX5_mixedEntry_27 ?_
    refine g_topl h ?_
    clear h; intro v8 h
    refine lv_lstore (lv' := [(4, .long v8), (0, .ref (o.2.1 17 0)), (3, .int x3), (6, .int v2)]) hx hb dX5_mixedEntry_28 hl (by decide) rfl ?_
    clear hl; clear ls; intro ls hl
    refine g_iinc (k := 3) (v := (v2 + (1 : Int32))) (lv' := fun v9 => [(6, .int v9), (4, .long v8), (0, .ref (o.2.1 17 0)), (3, .int x3)]) hx hb dX5_mixedEntry_30 hl rfl rfl (by decide) (fun _ => rfl) h ?_
    clear h hl; clear ls; intro v9 ls h hl
    refine lv_goto (tgt := 6) hx hb dX5_mixedEntry_33 (by decide) ?_
    exact hR5 (v8, v9, M6) h _ _ _ hw (lv_sub hl [2, 3, 1, 0] rfl)
abbrev rm_X5_mixedDay : Room := { frames := 7, cells := 0, slots := 0, locals := 160 }
set_option maxHeartbeats 4000000 in
set_option maxRecDepth 100000 in
theorem c_X5_mixedDay {o : Om} {l : Launch} (hn : 122 ≤ o.2.2.2) {M : Mm} {x1 : Int64} {x3 : Int32} {Q : Int64 → Mm → Prop} (h : w_X5_mixedDay M x1 x3 Q) : CL o l yX5_mixedDay cX5_mixedDay 7 rm_X5_mixedDay [.ref (o.2.1 17 0), .long x1, .int x3] M Q := by
  refine g_start (by decide +kernel) (Nat.le_of_ble_eq_true rfl) ?_
  intro p e s m args below meth c hx hb hr hlocks hml hown hts hw ls hl
  replace hl : lv_has ls 7 [(0, .ref (o.2.1 17 0)), (1, .long x1), (3, .int x3)] := hl
  unfold w_X5_mixedDay at h
  refine lv_lload_n hx hb dX5_mixedDay_0 rfl (lv_at hl 1 rfl) ?_
  refine lv_lstore (lv' := [(4, .long x1), (0, .ref (o.2.1 17 0)), (1, .long x1), (3, .int x3)]) hx hb dX5_mixedDay_1 hl (by decide) rfl ?_
  clear hl; clear ls; intro ls hl
  refine lv_iconst (v := 0) hx hb dX5_mixedDay_3 (by decide) ?_
  refine lv_istore (lv' := [(6, .int (0 : Int32)), (4, .long x1), (0, .ref (o.2.1 17 0)), (1, .long x1), (3, .int x3)]) hx hb dX5_mixedDay_4 hl (by decide) rfl ?_
  clear hl; clear ls; intro ls hl
  obtain ⟨n, h⟩ := h
  refine letK_W (body := fun K => w_X5_mixedDay_L6 x3 K) (fun (x : Int64 × Int32 × Mm) => ∀ (H : Heap) (locs : List Loc) (ls : Array Slot), WO o (WA o) s s.heap H locs x.2.2 → lv_has ls 7 [(0, .ref (o.2.1 17 0)), (3, .int x3), (4, .long x.1)] → W p l e rm_X5_mixedDay s m args below meth c H locs 0 0 (MQ below (QL o Q) args s 0 0 (WA o)) (F0 m 35 ls [])) h ?_ ?_
  · clear h hw hl; clear ls; intro x h H locs ls hw hl
    obtain ⟨v10, v11, M12⟩ := x
    replace hl : lv_has ls 7 [(0, .ref (o.2.1 17 0)), (3, .int x3), (4, .long v10)] := hl
    dsimp only at h hw
    refine lv_iconst (v := 0) hx hb dX5_mixedDay_35 (by decide) ?_
    refine lv_istore (lv' := [(6, .int (0 : Int32)), (0, .ref (o.2.1 17 0)), (3, .int x3), (4, .long v10)]) hx hb dX5_mixedDay_36 hl (by decide) rfl ?_
    clear hl; clear ls; intro ls hl
    obtain ⟨n, h⟩ := h
    refine letK_W (body := fun K => w_X5_mixedDay_L38 x3 K) (fun (x : Int64 × Int32 × Mm) => ∀ (H : Heap) (locs : List Loc) (ls : Array Slot), WO o (WA o) s s.heap H locs x.2.2 → lv_has ls 7 [(4, .long x.1)] → W p l e rm_X5_mixedDay s m args below meth c H locs 0 0 (MQ below (QL o Q) args s 0 0 (WA o)) (F0 m 68 ls [])) h ?_ ?_
    · clear h hw hl; clear ls; intro x h H locs ls hw hl
      obtain ⟨v22, v23, M24⟩ := x
      replace hl : lv_has ls 7 [(4, .long v22)] := hl
      dsimp only at h hw
      refine lv_lload hx hb dX5_mixedDay_68 (lv_at hl 0 rfl) ?_
      exact g_lret hx hb hr hlocks hw h dX5_mixedDay_70
    clear h; intro K16 hK16 h
    refine loop_W (body := w_X5_mixedDay_L38 x3 K16) (fun (x : Int64 × Int32 × Mm) => ∀ (H : Heap) (locs : List Loc) (ls : Array Slot), WO o (WA o) s s.heap H locs x.2.2 → lv_has ls 7 [(0, .ref (o.2.1 17 0)), (3, .int x3), (4, .long x.1), (6, .int x.2.1)] → W p l e rm_X5_mixedDay s m args below meth c H locs 0 0 (MQ below (QL o Q) args s 0 0 (WA o)) (F0 m 38 ls [])) ?_ n _ h _ _ _ hw (lv_sub hl [1, 2, 3, 0] rfl)
    clear h hw hl; clear ls; intro R17 x hR17 h H locs ls hw hl
    obtain ⟨v13, v14, M15⟩ := x
    replace hl : lv_has ls 7 [(0, .ref (o.2.1 17 0)), (3, .int x3), (4, .long v13), (6, .int v14)] := hl
    dsimp only at hw
    unfold w_X5_mixedDay_L38 at h
    dsimp only at h
    refine lv_iload hx hb dX5_mixedDay_38 (lv_at hl 3 rfl) ?_
    refine lv_bipush (v := 12) hx hb dX5_mixedDay_40 (by decide) ?_
    refine g_icmp_ge (tgt := 68) hx hb h dX5_mixedDay_42 (by decide) ?_ ?_
    · clear h; intro h
      exact hK16 (v13, v14, M15) h _ _ _ hw (lv_sub hl [2] rfl)
    · clear h; intro h
      refine lv_ldc2 hx hb hown (hts _ kX5_229) dX5_mixedDay_45 ?_
      refine lv_lload hx hb dX5_mixedDay_48 (lv_at hl 2 rfl) ?_
      refine lv_lmul hx hb dX5_mixedDay_50 ?_
      refine lv_aload_n hx hb dX5_mixedDay_51 rfl (lv_at hl 0 rfl) ?_
      refine lv_iload_n hx hb dX5_mixedDay_52 rfl (lv_at hl 1 rfl) ?_
      refine lv_iload hx hb dX5_mixedDay_53 (lv_at hl 3 rfl) ?_
      refine g_ci hw (g_runV (As := [.int x3, .int v14]) (rest := [.long ((31 : Int64) * v13)]) hx hb hml hown hts mX5_shownAt vX5_shownAt kX5_205 hw 17 0 (ci_17 (by decide)) (bi_17 (by decide) hn) rfl rfl (c_X5_shownAt hn h) rfl rfl ⟨Nat.le_of_ble_eq_true rfl, Nat.le_of_ble_eq_true rfl⟩ rfl hl.1 rfl (Nat.le_of_ble_eq_true rfl) dX5_mixedDay_55 ⟨Nat.zero_le _, Nat.zero_le _⟩) ?_
      clear h hw; intro v19 M18 H locs hw h
      refine lv_i2l hx hb dX5_mixedDay_58 rfl ?_
      refine lv_ladd hx hb dX5_mixedDay_59 ?_
      refine g_topl h ?_
      clear h; intro v20 h
      refine lv_lstore (lv' := [(4, .long v20), (0, .ref (o.2.1 17 0)), (3, .int x3), (6, .int v14)]) hx hb dX5_mixedDay_60 hl (by decide) rfl ?_
      clear hl; clear ls; intro ls hl
      refine g_iinc (k := 3) (v := (v14 + (1 : Int32))) (lv' := fun v21 => [(6, .int v21), (4, .long v20), (0, .ref (o.2.1 17 0)), (3, .int x3)]) hx hb dX5_mixedDay_62 hl rfl rfl (by decide) (fun _ => rfl) h ?_
      clear h hl; clear ls; intro v21 ls h hl
      refine lv_goto (tgt := 38) hx hb dX5_mixedDay_65 (by decide) ?_
      exact hR17 (v20, v21, M18) h _ _ _ hw (lv_sub hl [2, 3, 1, 0] rfl)
  clear h; intro K4 hK4 h
  refine loop_W (body := w_X5_mixedDay_L6 x3 K4) (fun (x : Int64 × Int32 × Mm) => ∀ (H : Heap) (locs : List Loc) (ls : Array Slot), WO o (WA o) s s.heap H locs x.2.2 → lv_has ls 7 [(0, .ref (o.2.1 17 0)), (3, .int x3), (4, .long x.1), (6, .int x.2.1)] → W p l e rm_X5_mixedDay s m args below meth c H locs 0 0 (MQ below (QL o Q) args s 0 0 (WA o)) (F0 m 6 ls [])) ?_ n _ h _ _ _ hw (lv_sub hl [2, 4, 1, 0] rfl)
  clear h hw hl; clear ls; intro R5 x hR5 h H locs ls hw hl
  obtain ⟨v1, v2, M3⟩ := x
  replace hl : lv_has ls 7 [(0, .ref (o.2.1 17 0)), (3, .int x3), (4, .long v1), (6, .int v2)] := hl
  dsimp only at hw
  unfold w_X5_mixedDay_L6 at h
  dsimp only at h
  refine lv_iload hx hb dX5_mixedDay_6 (lv_at hl 3 rfl) ?_
  refine lv_iconst (v := 5) hx hb dX5_mixedDay_8 (by decide) ?_
  refine g_icmp_gt (tgt := 35) hx hb h dX5_mixedDay_9 (by decide) ?_ ?_
  · clear h; intro h
    exact hK4 (v1, v2, M3) h _ _ _ hw (lv_sub hl [0, 1, 2] rfl)
  · clear h; intro h
    refine lv_ldc2 hx hb hown (hts _ kX5_229) dX5_mixedDay_12 ?_
    refine lv_lload hx hb dX5_mixedDay_15 (lv_at hl 2 rfl) ?_
    refine lv_lmul hx hb dX5_mixedDay_17 ?_
    refine lv_aload_n hx hb dX5_mixedDay_18 rfl (lv_at hl 0 rfl) ?_
    refine lv_iload_n hx hb dX5_mixedDay_19 rfl (lv_at hl 1 rfl) ?_
    refine lv_iload hx hb dX5_mixedDay_20 (lv_at hl 3 rfl) ?_
    refine g_ci hw (g_runV (As := [.int x3, .int v2]) (rest := [.long ((31 : Int64) * v1)]) hx hb hml hown hts mX5_dayOf vX5_dayOf kX5_211 hw 17 0 (ci_17 (by decide)) (bi_17 (by decide) hn) rfl rfl (c_X5_dayOf hn h) rfl rfl ⟨Nat.le_of_ble_eq_true rfl, Nat.le_of_ble_eq_true rfl⟩ rfl hl.1 rfl (Nat.le_of_ble_eq_true rfl) dX5_mixedDay_22 ⟨Nat.zero_le _, Nat.zero_le _⟩) ?_
    clear h hw; intro v7 M6 H locs hw h
    refine lv_i2l hx hb dX5_mixedDay_25 rfl ?_
    refine lv_ladd hx hb dX5_mixedDay_26 ?_
    refine g_topl h ?_
    clear h; intro v8 h
    refine lv_lstore (lv' := [(4, .long v8), (0, .ref (o.2.1 17 0)), (3, .int x3), (6, .int v2)]) hx hb dX5_mixedDay_27 hl (by decide) rfl ?_
    clear hl; clear ls; intro ls hl
    refine g_iinc (k := 3) (v := (v2 + (1 : Int32))) (lv' := fun v9 => [(6, .int v9), (4, .long v8), (0, .ref (o.2.1 17 0)), (3, .int x3)]) hx hb dX5_mixedDay_29 hl rfl rfl (by decide) (fun _ => rfl) h ?_
    clear h hl; clear ls; intro v9 ls h hl
    refine lv_goto (tgt := 6) hx hb dX5_mixedDay_32 (by decide) ?_
    exact hR5 (v8, v9, M6) h _ _ _ hw (lv_sub hl [2, 3, 1, 0] rfl)
abbrev rm_X5_digest : Room := { frames := 9, cells := 0, slots := 0, locals := 203 }
set_option maxHeartbeats 4000000 in
set_option maxRecDepth 100000 in
theorem c_X5_digest {o : Om} {l : Launch} (hn : 122 ≤ o.2.2.2) {M : Mm} {Q : Int64 → Mm → Prop} (h : w_X5_digest M Q) : CL o l yX5_digest cX5_digest 5 rm_X5_digest [.ref (o.2.1 17 0)] M Q := by
  refine g_start (by decide +kernel) (Nat.le_of_ble_eq_true rfl) ?_
  intro p e s m args below meth c hx hb hr hlocks hml hown hts hw ls hl
  replace hl : lv_has ls 5 [(0, .ref (o.2.1 17 0))] := hl
  unfold w_X5_digest at h
  refine lv_ldc2 hx hb hown (hts _ kX5_231) dX5_digest_0 ?_
  refine lv_lstore_n (lv' := [(1, .long (43104 : Int64)), (0, .ref (o.2.1 17 0))]) hx hb dX5_digest_3 rfl hl (by decide) rfl ?_
  clear hl; clear ls; intro ls hl
  refine lv_iconst (v := 0) hx hb dX5_digest_4 (by decide) ?_
  refine lv_istore_n (lv' := [(3, .int (0 : Int32)), (1, .long (43104 : Int64)), (0, .ref (o.2.1 17 0))]) hx hb dX5_digest_5 rfl hl (by decide) rfl ?_
  clear hl; clear ls; intro ls hl
  obtain ⟨n, h⟩ := h
  refine letK_W (body := fun K => w_X5_digest_L6 K) (fun (x : Int64 × Int32 × Mm) => ∀ (H : Heap) (locs : List Loc) (ls : Array Slot), WO o (WA o) s s.heap H locs x.2.2 → lv_has ls 5 [(0, .ref (o.2.1 17 0)), (1, .long x.1)] → W p l e rm_X5_digest s m args below meth c H locs 0 0 (MQ below (QL o Q) args s 0 0 (WA o)) (F0 m 31 ls [])) h ?_ ?_
  · clear h hw hl; clear ls; intro x h H locs ls hw hl
    obtain ⟨v10, v11, M12⟩ := x
    replace hl : lv_has ls 5 [(0, .ref (o.2.1 17 0)), (1, .long v10)] := hl
    dsimp only at h hw
    refine lv_aload_n hx hb dX5_digest_31 rfl (lv_at hl 0 rfl) ?_
    refine g_cv hw (g_runV (As := []) (rest := []) hx hb hml hown hts mX5_lays vX5_lays kX5_140 hw 17 0 (ci_17 (by decide)) (bi_17 (by decide) hn) rfl rfl (c_X5_lays hn h) rfl rfl ⟨Nat.le_of_ble_eq_true rfl, Nat.le_of_ble_eq_true rfl⟩ rfl hl.1 rfl (Nat.le_of_ble_eq_true rfl) dX5_digest_32 ⟨Nat.zero_le _, Nat.zero_le _⟩) ?_
    clear h hw; intro M13 H locs hw h
    refine lv_iconst (v := 0) hx hb dX5_digest_35 (by decide) ?_
    refine lv_istore_n (lv' := [(3, .int (0 : Int32)), (0, .ref (o.2.1 17 0)), (1, .long v10)]) hx hb dX5_digest_36 rfl hl (by decide) rfl ?_
    clear hl; clear ls; intro ls hl
    obtain ⟨n, h⟩ := h
    refine letK_W (body := fun K => w_X5_digest_L37 K) (fun (x : Int64 × Int32 × Mm) => ∀ (H : Heap) (locs : List Loc) (ls : Array Slot), WO o (WA o) s s.heap H locs x.2.2 → lv_has ls 5 [(0, .ref (o.2.1 17 0)), (1, .long x.1)] → W p l e rm_X5_digest s m args below meth c H locs 0 0 (MQ below (QL o Q) args s 0 0 (WA o)) (F0 m 60 ls [])) h ?_ ?_
    · clear h hw hl; clear ls; intro x h H locs ls hw hl
      obtain ⟨v23, v24, M25⟩ := x
      replace hl : lv_has ls 5 [(0, .ref (o.2.1 17 0)), (1, .long v23)] := hl
      dsimp only at h hw
      refine lv_iconst (v := 0) hx hb dX5_digest_60 (by decide) ?_
      refine lv_istore_n (lv' := [(3, .int (0 : Int32)), (0, .ref (o.2.1 17 0)), (1, .long v23)]) hx hb dX5_digest_61 rfl hl (by decide) rfl ?_
      clear hl; clear ls; intro ls hl
      obtain ⟨n, h⟩ := h
      refine letK_W (body := fun K => w_X5_digest_L62 K) (fun (x : Int64 × Int32 × Mm) => ∀ (H : Heap) (locs : List Loc) (ls : Array Slot), WO o (WA o) s s.heap H locs x.2.2 → lv_has ls 5 [(0, .ref (o.2.1 17 0)), (1, .long x.1)] → W p l e rm_X5_digest s m args below meth c H locs 0 0 (MQ below (QL o Q) args s 0 0 (WA o)) (F0 m 106 ls [])) h ?_ ?_
      · clear h hw hl; clear ls; intro x h H locs ls hw hl
        obtain ⟨v46, v47, M48⟩ := x
        replace hl : lv_has ls 5 [(0, .ref (o.2.1 17 0)), (1, .long v46)] := hl
        dsimp only at h hw
        refine lv_aload_n hx hb dX5_digest_106 rfl (lv_at hl 0 rfl) ?_
        refine g_getf hx hb hts in_X5 hown hw 17 0 (ci_17 (by decide)) (bi_17 (by decide) hn) rfl rfl 0 (by decide) kX5_7 rfl dX5_digest_107 ?_
        refine lv_iconst (v := 0) hx hb dX5_digest_110 (by decide) ?_
        refine g_iald hx hb hw 18 0 (ci_18 (by decide)) (bi_18 (by decide) hn) rfl h dX5_digest_111 ?_
        clear h; intro v49 h
        refine lv_istore_n (lv' := [(3, .int v49), (0, .ref (o.2.1 17 0)), (1, .long v46)]) hx hb dX5_digest_112 rfl hl (by decide) rfl ?_
        clear hl; clear ls; intro ls hl
        obtain ⟨n, h⟩ := h
        refine letK_W (body := fun K => w_X5_digest_L113 K) (fun (x : Int64 × Int32 × Mm) => ∀ (H : Heap) (locs : List Loc) (ls : Array Slot), WO o (WA o) s s.heap H locs x.2.2 → lv_has ls 5 [(0, .ref (o.2.1 17 0)), (1, .long x.1)] → W p l e rm_X5_digest s m args below meth c H locs 0 0 (MQ below (QL o Q) args s 0 0 (WA o)) (F0 m 136 ls [])) h ?_ ?_
        · clear h hw hl; clear ls; intro x h H locs ls hw hl
          obtain ⟨v59, v60, M61⟩ := x
          replace hl : lv_has ls 5 [(0, .ref (o.2.1 17 0)), (1, .long v59)] := hl
          dsimp only at h hw
          refine lv_ldc2 hx hb hown (hts _ kX5_229) dX5_digest_136 ?_
          refine lv_lload_n hx hb dX5_digest_139 rfl (lv_at hl 1 rfl) ?_
          refine lv_lmul hx hb dX5_digest_140 ?_
          refine lv_aload_n hx hb dX5_digest_141 rfl (lv_at hl 0 rfl) ?_
          refine g_ci hw (g_runV (As := []) (rest := [.long ((31 : Int64) * v59)]) hx hb hml hown hts mX5_enough vX5_enough kX5_243 hw 17 0 (ci_17 (by decide)) (bi_17 (by decide) hn) rfl rfl (c_X5_enough hn h) rfl rfl ⟨Nat.le_of_ble_eq_true rfl, Nat.le_of_ble_eq_true rfl⟩ rfl hl.1 rfl (Nat.le_of_ble_eq_true rfl) dX5_digest_142 ⟨Nat.zero_le _, Nat.zero_le _⟩) ?_
          clear h hw; intro v63 M62 H locs hw h
          refine lv_i2l hx hb dX5_digest_145 rfl ?_
          refine lv_ladd hx hb dX5_digest_146 ?_
          refine g_topl h ?_
          clear h; intro v64 h
          refine lv_lstore_n (lv' := [(1, .long v64), (0, .ref (o.2.1 17 0))]) hx hb dX5_digest_147 rfl hl (by decide) rfl ?_
          clear hl; clear ls; intro ls hl
          refine lv_ldc2 hx hb hown (hts _ kX5_229) dX5_digest_148 ?_
          refine lv_lload_n hx hb dX5_digest_151 rfl (lv_at hl 0 rfl) ?_
          refine lv_lmul hx hb dX5_digest_152 ?_
          refine lv_aload_n hx hb dX5_digest_153 rfl (lv_at hl 1 rfl) ?_
          refine lv_iconst (v := 1) hx hb dX5_digest_154 (by decide) ?_
          refine lv_iconst (v := 0) hx hb dX5_digest_155 (by decide) ?_
          refine g_ci hw (g_runV (As := [.int (1 : Int32), .int (0 : Int32)]) (rest := [.long ((31 : Int64) * v64)]) hx hb hml hown hts mX5_free vX5_free kX5_246 hw 17 0 (ci_17 (by decide)) (bi_17 (by decide) hn) rfl rfl (c_X5_free hn h) rfl rfl ⟨Nat.le_of_ble_eq_true rfl, Nat.le_of_ble_eq_true rfl⟩ rfl hl.1 rfl (Nat.le_of_ble_eq_true rfl) dX5_digest_156 ⟨Nat.zero_le _, Nat.zero_le _⟩) ?_
          clear h hw; intro v66 M65 H locs hw h
          refine lv_i2l hx hb dX5_digest_159 rfl ?_
          refine lv_ladd hx hb dX5_digest_160 ?_
          exact g_lret hx hb hr hlocks hw h dX5_digest_161
        clear h; intro K53 hK53 h
        refine loop_W (body := w_X5_digest_L113 K53) (fun (x : Int64 × Int32 × Mm) => ∀ (H : Heap) (locs : List Loc) (ls : Array Slot), WO o (WA o) s s.heap H locs x.2.2 → lv_has ls 5 [(0, .ref (o.2.1 17 0)), (1, .long x.1), (3, .int x.2.1)] → W p l e rm_X5_digest s m args below meth c H locs 0 0 (MQ below (QL o Q) args s 0 0 (WA o)) (F0 m 113 ls [])) ?_ n _ h _ _ _ hw (lv_sub hl [1, 2, 0] rfl)
        clear h hw hl; clear ls; intro R54 x hR54 h H locs ls hw hl
        obtain ⟨v50, v51, M52⟩ := x
        replace hl : lv_has ls 5 [(0, .ref (o.2.1 17 0)), (1, .long v50), (3, .int v51)] := hl
        dsimp only at hw
        unfold w_X5_digest_L113 at h
        dsimp only at h
        refine lv_iload_n hx hb dX5_digest_113 rfl (lv_at hl 2 rfl) ?_
        refine lv_aload_n hx hb dX5_digest_114 rfl (lv_at hl 0 rfl) ?_
        refine g_getf hx hb hts in_X5 hown hw 17 0 (ci_17 (by decide)) (bi_17 (by decide) hn) rfl rfl 0 (by decide) kX5_7 rfl dX5_digest_115 ?_
        refine lv_iconst (v := 1) hx hb dX5_digest_118 (by decide) ?_
        refine g_iald hx hb hw 18 0 (ci_18 (by decide)) (bi_18 (by decide) hn) rfl h dX5_digest_119 ?_
        clear h; intro v55 h
        refine g_icmp_gt (tgt := 136) hx hb h dX5_digest_120 (by decide) ?_ ?_
        · clear h; intro h
          exact hK53 (v50, v51, M52) h _ _ _ hw (lv_sub hl [0, 1] rfl)
        · clear h; intro h
          refine lv_aload_n hx hb dX5_digest_123 rfl (lv_at hl 0 rfl) ?_
          refine lv_lload_n hx hb dX5_digest_124 rfl (lv_at hl 1 rfl) ?_
          refine lv_iload_n hx hb dX5_digest_125 rfl (lv_at hl 2 rfl) ?_
          refine g_cl hw (g_runV (As := [.long v50, .int v51]) (rest := []) hx hb hml hown hts mX5_mixedDay vX5_mixedDay kX5_240 hw 17 0 (ci_17 (by decide)) (bi_17 (by decide) hn) rfl rfl (c_X5_mixedDay hn h) rfl rfl ⟨Nat.le_of_ble_eq_true rfl, Nat.le_of_ble_eq_true rfl⟩ rfl hl.1 rfl (Nat.le_of_ble_eq_true rfl) dX5_digest_126 ⟨Nat.zero_le _, Nat.zero_le _⟩) ?_
          clear h hw; intro v57 M56 H locs hw h
          refine lv_lstore_n (lv' := [(1, .long v57), (0, .ref (o.2.1 17 0)), (3, .int v51)]) hx hb dX5_digest_129 rfl hl (by decide) rfl ?_
          clear hl; clear ls; intro ls hl
          refine g_iinc (k := 2) (v := (v51 + (1 : Int32))) (lv' := fun v58 => [(3, .int v58), (1, .long v57), (0, .ref (o.2.1 17 0))]) hx hb dX5_digest_130 hl rfl rfl (by decide) (fun _ => rfl) h ?_
          clear h hl; clear ls; intro v58 ls h hl
          refine lv_goto (tgt := 113) hx hb dX5_digest_133 (by decide) ?_
          exact hR54 (v57, v58, M56) h _ _ _ hw (lv_sub hl [2, 1, 0] rfl)
      clear h; intro K29 hK29 h
      refine loop_W (body := w_X5_digest_L62 K29) (fun (x : Int64 × Int32 × Mm) => ∀ (H : Heap) (locs : List Loc) (ls : Array Slot), WO o (WA o) s s.heap H locs x.2.2 → lv_has ls 5 [(0, .ref (o.2.1 17 0)), (1, .long x.1), (3, .int x.2.1)] → W p l e rm_X5_digest s m args below meth c H locs 0 0 (MQ below (QL o Q) args s 0 0 (WA o)) (F0 m 62 ls [])) ?_ n _ h _ _ _ hw (lv_sub hl [1, 2, 0] rfl)
      clear h hw hl; clear ls; intro R30 x hR30 h H locs ls hw hl
      obtain ⟨v26, v27, M28⟩ := x
      replace hl : lv_has ls 5 [(0, .ref (o.2.1 17 0)), (1, .long v26), (3, .int v27)] := hl
      dsimp only at hw
      unfold w_X5_digest_L62 at h
      dsimp only at h
      refine lv_iload_n hx hb dX5_digest_62 rfl (lv_at hl 2 rfl) ?_
      refine lv_aload_n hx hb dX5_digest_63 rfl (lv_at hl 0 rfl) ?_
      refine g_ci hw (g_runV (As := []) (rest := [.int v27]) hx hb hml hown hts mX5_weeks vX5_weeks kX5_56 hw 17 0 (ci_17 (by decide)) (bi_17 (by decide) hn) rfl rfl (c_X5_weeks hn h) rfl rfl ⟨Nat.le_of_ble_eq_true rfl, Nat.le_of_ble_eq_true rfl⟩ rfl hl.1 rfl (Nat.le_of_ble_eq_true rfl) dX5_digest_64 ⟨Nat.zero_le _, Nat.zero_le _⟩) ?_
      clear h hw; intro v32 M31 H locs hw h
      refine g_icmp_ge (tgt := 106) hx hb h dX5_digest_67 (by decide) ?_ ?_
      · clear h; intro h
        exact hK29 (v26, v27, M31) h _ _ _ hw (lv_sub hl [0, 1] rfl)
      · clear h; intro h
        refine lv_iconst (v := 0) hx hb dX5_digest_70 (by decide) ?_
        refine lv_istore (lv' := [(4, .int (0 : Int32)), (0, .ref (o.2.1 17 0)), (1, .long v26), (3, .int v27)]) hx hb dX5_digest_71 hl (by decide) rfl ?_
        clear hl; clear ls; intro ls hl
        obtain ⟨n, h⟩ := h
        refine letK_W (body := fun K => w_X5_digest_L73 v27 K) (fun (x : Int64 × Int32 × Mm) => ∀ (H : Heap) (locs : List Loc) (ls : Array Slot), WO o (WA o) s s.heap H locs x.2.2 → lv_has ls 5 [(0, .ref (o.2.1 17 0)), (1, .long x.1), (3, .int v27)] → W p l e rm_X5_digest s m args below meth c H locs 0 0 (MQ below (QL o Q) args s 0 0 (WA o)) (F0 m 100 ls [])) h ?_ ?_
        · clear h hw hl; clear ls; intro x h H locs ls hw hl
          obtain ⟨v42, v43, M44⟩ := x
          replace hl : lv_has ls 5 [(0, .ref (o.2.1 17 0)), (1, .long v42), (3, .int v27)] := hl
          dsimp only at h hw
          refine g_iinc (k := 2) (v := (v27 + (1 : Int32))) (lv' := fun v45 => [(3, .int v45), (0, .ref (o.2.1 17 0)), (1, .long v42)]) hx hb dX5_digest_100 hl rfl rfl (by decide) (fun _ => rfl) h ?_
          clear h hl; clear ls; intro v45 ls h hl
          refine lv_goto (tgt := 62) hx hb dX5_digest_103 (by decide) ?_
          exact hR30 (v42, v45, M44) h _ _ _ hw (lv_sub hl [1, 2, 0] rfl)
        clear h; intro K36 hK36 h
        refine loop_W (body := w_X5_digest_L73 v27 K36) (fun (x : Int64 × Int32 × Mm) => ∀ (H : Heap) (locs : List Loc) (ls : Array Slot), WO o (WA o) s s.heap H locs x.2.2 → lv_has ls 5 [(0, .ref (o.2.1 17 0)), (1, .long x.1), (3, .int v27), (4, .int x.2.1)] → W p l e rm_X5_digest s m args below meth c H locs 0 0 (MQ below (QL o Q) args s 0 0 (WA o)) (F0 m 73 ls [])) ?_ n _ h _ _ _ hw (lv_sub hl [1, 2, 3, 0] rfl)
        clear h hw hl; clear ls; intro R37 x hR37 h H locs ls hw hl
        obtain ⟨v33, v34, M35⟩ := x
        replace hl : lv_has ls 5 [(0, .ref (o.2.1 17 0)), (1, .long v33), (3, .int v27), (4, .int v34)] := hl
        dsimp only at hw
        unfold w_X5_digest_L73 at h
        dsimp only at h
        refine lv_iload hx hb dX5_digest_73 (lv_at hl 3 rfl) ?_
        refine lv_iconst (v := 5) hx hb dX5_digest_75 (by decide) ?_
        refine g_icmp_gt (tgt := 100) hx hb h dX5_digest_76 (by decide) ?_ ?_
        · clear h; intro h
          exact hK36 (v33, v34, M35) h _ _ _ hw (lv_sub hl [0, 1, 2] rfl)
        · clear h; intro h
          refine lv_ldc2 hx hb hown (hts _ kX5_229) dX5_digest_79 ?_
          refine lv_lload_n hx hb dX5_digest_82 rfl (lv_at hl 1 rfl) ?_
          refine lv_lmul hx hb dX5_digest_83 ?_
          refine lv_aload_n hx hb dX5_digest_84 rfl (lv_at hl 0 rfl) ?_
          refine lv_iload_n hx hb dX5_digest_85 rfl (lv_at hl 2 rfl) ?_
          refine lv_iload hx hb dX5_digest_86 (lv_at hl 3 rfl) ?_
          refine g_ci hw (g_runV (As := [.int v27, .int v34]) (rest := [.long ((31 : Int64) * v33)]) hx hb hml hown hts mX5_weekOfAll vX5_weekOfAll kX5_143 hw 17 0 (ci_17 (by decide)) (bi_17 (by decide) hn) rfl rfl (c_X5_weekOfAll hn h) rfl rfl ⟨Nat.le_of_ble_eq_true rfl, Nat.le_of_ble_eq_true rfl⟩ rfl hl.1 rfl (Nat.le_of_ble_eq_true rfl) dX5_digest_88 ⟨Nat.zero_le _, Nat.zero_le _⟩) ?_
          clear h hw; intro v39 M38 H locs hw h
          refine lv_i2l hx hb dX5_digest_91 rfl ?_
          refine lv_ladd hx hb dX5_digest_92 ?_
          refine g_topl h ?_
          clear h; intro v40 h
          refine lv_lstore_n (lv' := [(1, .long v40), (0, .ref (o.2.1 17 0)), (3, .int v27), (4, .int v34)]) hx hb dX5_digest_93 rfl hl (by decide) rfl ?_
          clear hl; clear ls; intro ls hl
          refine g_iinc (k := 3) (v := (v34 + (1 : Int32))) (lv' := fun v41 => [(4, .int v41), (1, .long v40), (0, .ref (o.2.1 17 0)), (3, .int v27)]) hx hb dX5_digest_94 hl rfl rfl (by decide) (fun _ => rfl) h ?_
          clear h hl; clear ls; intro v41 ls h hl
          refine lv_goto (tgt := 73) hx hb dX5_digest_97 (by decide) ?_
          exact hR37 (v40, v41, M38) h _ _ _ hw (lv_sub hl [2, 1, 3, 0] rfl)
    clear h; intro K17 hK17 h
    refine loop_W (body := w_X5_digest_L37 K17) (fun (x : Int64 × Int32 × Mm) => ∀ (H : Heap) (locs : List Loc) (ls : Array Slot), WO o (WA o) s s.heap H locs x.2.2 → lv_has ls 5 [(0, .ref (o.2.1 17 0)), (1, .long x.1), (3, .int x.2.1)] → W p l e rm_X5_digest s m args below meth c H locs 0 0 (MQ below (QL o Q) args s 0 0 (WA o)) (F0 m 37 ls [])) ?_ n _ h _ _ _ hw (lv_sub hl [1, 2, 0] rfl)
    clear h hw hl; clear ls; intro R18 x hR18 h H locs ls hw hl
    obtain ⟨v14, v15, M16⟩ := x
    replace hl : lv_has ls 5 [(0, .ref (o.2.1 17 0)), (1, .long v14), (3, .int v15)] := hl
    dsimp only at hw
    unfold w_X5_digest_L37 at h
    dsimp only at h
    refine lv_iload_n hx hb dX5_digest_37 rfl (lv_at hl 2 rfl) ?_
    refine lv_aload_n hx hb dX5_digest_38 rfl (lv_at hl 0 rfl) ?_
    refine g_getf hx hb hts in_X5 hown hw 17 0 (ci_17 (by decide)) (bi_17 (by decide) hn) rfl rfl 0 (by decide) kX5_7 rfl dX5_digest_39 ?_
    refine lv_iconst (v := 4) hx hb dX5_digest_42 (by decide) ?_
    refine g_iald hx hb hw 18 0 (ci_18 (by decide)) (bi_18 (by decide) hn) rfl h dX5_digest_43 ?_
    clear h; intro v19 h
    refine g_icmp_ge (tgt := 60) hx hb h dX5_digest_44 (by decide) ?_ ?_
    · clear h; intro h
      exact hK17 (v14, v15, M16) h _ _ _ hw (lv_sub hl [0, 1] rfl)
    · clear h; intro h
      refine lv_aload_n hx hb dX5_digest_47 rfl (lv_at hl 0 rfl) ?_
      refine lv_lload_n hx hb dX5_digest_48 rfl (lv_at hl 1 rfl) ?_
      refine lv_iload_n hx hb dX5_digest_49 rfl (lv_at hl 2 rfl) ?_
      refine g_cl hw (g_runV (As := [.long v14, .int v15]) (rest := []) hx hb hml hown hts mX5_mixedEntry vX5_mixedEntry kX5_236 hw 17 0 (ci_17 (by decide)) (bi_17 (by decide) hn) rfl rfl (c_X5_mixedEntry hn h) rfl rfl ⟨Nat.le_of_ble_eq_true rfl, Nat.le_of_ble_eq_true rfl⟩ rfl hl.1 rfl (Nat.le_of_ble_eq_true rfl) dX5_digest_50 ⟨Nat.zero_le _, Nat.zero_le _⟩) ?_
      clear h hw; intro v21 M20 H locs hw h
      refine lv_lstore_n (lv' := [(1, .long v21), (0, .ref (o.2.1 17 0)), (3, .int v15)]) hx hb dX5_digest_53 rfl hl (by decide) rfl ?_
      clear hl; clear ls; intro ls hl
      refine g_iinc (k := 2) (v := (v15 + (1 : Int32))) (lv' := fun v22 => [(3, .int v22), (1, .long v21), (0, .ref (o.2.1 17 0))]) hx hb dX5_digest_54 hl rfl rfl (by decide) (fun _ => rfl) h ?_
      clear h hl; clear ls; intro v22 ls h hl
      refine lv_goto (tgt := 37) hx hb dX5_digest_57 (by decide) ?_
      exact hR18 (v21, v22, M20) h _ _ _ hw (lv_sub hl [2, 1, 0] rfl)
  clear h; intro K4 hK4 h
  refine loop_W (body := w_X5_digest_L6 K4) (fun (x : Int64 × Int32 × Mm) => ∀ (H : Heap) (locs : List Loc) (ls : Array Slot), WO o (WA o) s s.heap H locs x.2.2 → lv_has ls 5 [(0, .ref (o.2.1 17 0)), (1, .long x.1), (3, .int x.2.1)] → W p l e rm_X5_digest s m args below meth c H locs 0 0 (MQ below (QL o Q) args s 0 0 (WA o)) (F0 m 6 ls [])) ?_ n _ h _ _ _ hw (lv_sub hl [2, 1, 0] rfl)
  clear h hw hl; clear ls; intro R5 x hR5 h H locs ls hw hl
  obtain ⟨v1, v2, M3⟩ := x
  replace hl : lv_has ls 5 [(0, .ref (o.2.1 17 0)), (1, .long v1), (3, .int v2)] := hl
  dsimp only at hw
  unfold w_X5_digest_L6 at h
  dsimp only at h
  refine lv_iload_n hx hb dX5_digest_6 rfl (lv_at hl 2 rfl) ?_
  refine lv_bipush (v := 11) hx hb dX5_digest_7 (by decide) ?_
  refine g_icmp_gt (tgt := 31) hx hb h dX5_digest_9 (by decide) ?_ ?_
  · clear h; intro h
    exact hK4 (v1, v2, M3) h _ _ _ hw (lv_sub hl [0, 1] rfl)
  · clear h; intro h
    refine lv_ldc2 hx hb hown (hts _ kX5_229) dX5_digest_12 ?_
    refine lv_lload_n hx hb dX5_digest_15 rfl (lv_at hl 1 rfl) ?_
    refine lv_lmul hx hb dX5_digest_16 ?_
    refine lv_aload_n hx hb dX5_digest_17 rfl (lv_at hl 0 rfl) ?_
    refine lv_iload_n hx hb dX5_digest_18 rfl (lv_at hl 2 rfl) ?_
    refine g_ci hw (g_runV (As := [.int v2]) (rest := [.long ((31 : Int64) * v1)]) hx hb hml hown hts mX5_told vX5_told kX5_233 hw 17 0 (ci_17 (by decide)) (bi_17 (by decide) hn) rfl rfl (c_X5_told hn h) rfl rfl ⟨Nat.le_of_ble_eq_true rfl, Nat.le_of_ble_eq_true rfl⟩ rfl hl.1 rfl (Nat.le_of_ble_eq_true rfl) dX5_digest_19 ⟨Nat.zero_le _, Nat.zero_le _⟩) ?_
    clear h hw; intro v7 M6 H locs hw h
    refine lv_i2l hx hb dX5_digest_22 rfl ?_
    refine lv_ladd hx hb dX5_digest_23 ?_
    refine g_topl h ?_
    clear h; intro v8 h
    refine lv_lstore_n (lv' := [(1, .long v8), (0, .ref (o.2.1 17 0)), (3, .int v2)]) hx hb dX5_digest_24 rfl hl (by decide) rfl ?_
    clear hl; clear ls; intro ls hl
    refine g_iinc (k := 2) (v := (v2 + (1 : Int32))) (lv' := fun v9 => [(3, .int v9), (1, .long v8), (0, .ref (o.2.1 17 0))]) hx hb dX5_digest_25 hl rfl rfl (by decide) (fun _ => rfl) h ?_
    clear h hl; clear ls; intro v9 ls h hl
    refine lv_goto (tgt := 6) hx hb dX5_digest_28 (by decide) ?_
    exact hR5 (v8, v9, M6) h _ _ _ hw (lv_sub hl [2, 1, 0] rfl)
