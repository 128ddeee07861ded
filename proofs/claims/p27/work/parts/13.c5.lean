abbrev rm_X4_shown : Room := { frames := 3, cells := 0, slots := 0, locals := 68 }
set_option maxHeartbeats 4000000 in
set_option maxRecDepth 100000 in
theorem c_X4_shown {o : Om} {l : Launch} (hn : 115 ≤ o.2.2.2) {M : Mm} {x1 : Int32} {x2 : Int32} {Q : Int32 → Mm → Prop} (h : w_X4_shown M x1 x2 Q) : CI o l yX4_shown cX4_shown 5 rm_X4_shown [.ref (o.2.1 0 0), .int x1, .int x2] M Q := by
  refine g_start (by decide +kernel) (Nat.le_of_ble_eq_true rfl) ?_
  intro p e s m args below meth c hx hb hr hlocks hml hown hts hw ls hl
  replace hl : lv_has ls 5 [(0, .ref (o.2.1 0 0)), (1, .int x1), (2, .int x2)] := hl
  unfold w_X4_shown at h
  refine lv_aload_n hx hb dX4_shown_0 rfl (lv_at hl 0 rfl) ?_
  refine lv_iload_n hx hb dX4_shown_1 rfl (lv_at hl 1 rfl) ?_
  refine g_cz hw (g_runV (As := [.int x1]) (rest := []) hx hb hml hown hts mX4_isOnPage vX4_isOnPage kX4_164 hw 0 0 (ci_0 (by decide)) (bi_0 (by decide) hn) rfl rfl (c_X4_isOnPage hn h) rfl rfl ⟨Nat.le_of_ble_eq_true rfl, Nat.le_of_ble_eq_true rfl⟩ rfl hl.1 rfl (Nat.le_of_ble_eq_true rfl) dX4_shown_2 ⟨Nat.zero_le _, Nat.zero_le _⟩) ?_
  clear h hw; intro v2 M1 H locs hw hz_v2 h
  refine g_if_eq (tgt := 18) hx hb h dX4_shown_5 (by decide) ?_ ?_
  · clear h; intro h
    refine lv_iconst (v := (-1)) hx hb dX4_shown_18 (by decide) ?_
    exact g_iret hx hb hr hlocks hw h dX4_shown_19
  · clear h; intro h
    refine lv_iload_n hx hb dX4_shown_8 rfl (lv_at hl 2 rfl) ?_
    refine lv_iconst (v := 0) hx hb dX4_shown_9 (by decide) ?_
    refine lv_bipush (v := 11) hx hb dX4_shown_10 (by decide) ?_
    refine g_cz hw (g_runS (As := [.int x2, .int (0 : Int32), .int (11 : Int32)]) (rest := []) hx hb hml hown hts mX4_isWithin sX4_isWithin kX4_60 hw (c_X4_isWithin hn h) rfl rfl ⟨Nat.le_of_ble_eq_true rfl, Nat.le_of_ble_eq_true rfl⟩ rfl hl.1 rfl (Nat.le_of_ble_eq_true rfl) dX4_shown_12 ⟨Nat.zero_le _, Nat.zero_le _⟩) ?_
    clear h hw; intro v4 M3 H locs hw hz_v4 h
    refine g_if_ne (tgt := 20) hx hb h dX4_shown_15 (by decide) ?_ ?_
    · clear h; intro h
      refine lv_aload_n hx hb dX4_shown_20 rfl (lv_at hl 0 rfl) ?_
      refine g_getf hx hb hts in_X4 hown hw 0 0 (ci_0 (by decide)) (bi_0 (by decide) hn) rfl rfl 0 (by decide) kX4_10 rfl dX4_shown_21 ?_
      refine g_getf hx hb hts in_X0 hown hw 5 0 (ci_5 (by decide)) (bi_5 (by decide) hn) rfl rfl 0 (by decide) kX4_40 rfl dX4_shown_24 ?_
      refine g_getf hx hb hts in_X2 hown hw 11 0 (ci_11 (by decide)) (bi_11 (by decide) hn) rfl rfl 3 (by decide) kX4_67 rfl dX4_shown_27 ?_
      refine g_topi h ?_
      clear h; intro v5 h
      refine lv_istore_n (lv' := [(3, .int v5), (0, .ref (o.2.1 0 0)), (1, .int x1), (2, .int x2)]) hx hb dX4_shown_30 rfl hl (by decide) rfl ?_
      clear hl; clear ls; intro ls hl
      refine lv_iload_n hx hb dX4_shown_31 rfl (lv_at hl 3 rfl) ?_
      refine lv_iload_n hx hb dX4_shown_32 rfl (lv_at hl 0 rfl) ?_
      refine g_icmp_lt (tgt := 39) hx hb h dX4_shown_33 (by decide) ?_ ?_
      · clear h; intro h
        refine lv_aload_n hx hb dX4_shown_39 rfl (lv_at hl 1 rfl) ?_
        refine g_getf hx hb hts in_X4 hown hw 0 0 (ci_0 (by decide)) (bi_0 (by decide) hn) rfl rfl 0 (by decide) kX4_10 rfl dX4_shown_40 ?_
        refine lv_iload_n hx hb dX4_shown_43 rfl (lv_at hl 2 rfl) ?_
        refine lv_iload_n hx hb dX4_shown_44 rfl (lv_at hl 0 rfl) ?_
        refine g_ci hw (g_runV (As := [.int x1, .int v5]) (rest := []) hx hb hml hown hts mX0_hiddenOnDay vX0_hiddenOnDay kX4_167 hw 5 0 (ci_5 (by decide)) (bi_5 (by decide) hn) rfl rfl (c_X0_hiddenOnDay hn (by decide) h) rfl rfl ⟨Nat.le_of_ble_eq_true rfl, Nat.le_of_ble_eq_true rfl⟩ rfl hl.1 rfl (Nat.le_of_ble_eq_true rfl) dX4_shown_45 ⟨Nat.zero_le _, Nat.zero_le _⟩) ?_
        clear h hw; intro v7 M6 H locs hw h
        refine lv_istore (lv' := [(4, .int v7), (3, .int v5), (0, .ref (o.2.1 0 0)), (1, .int x1), (2, .int x2)]) hx hb dX4_shown_48 hl (by decide) rfl ?_
        clear hl; clear ls; intro ls hl
        refine lv_iload hx hb dX4_shown_50 (lv_at hl 0 rfl) ?_
        refine letJ_W (fun (x : Unit) => ∀ (H : Heap) (locs : List Loc) (ls : Array Slot), WO o (WA o) s s.heap H locs M6 → lv_has ls 5 [(0, .ref (o.2.1 0 0)), (1, .int x1), (2, .int x2)] → W p l e rm_X4_shown s m args below meth c H locs 0 0 (MQ below (QI o Q) args s 0 0 (WA o)) (F0 m 68 ls [])) h ?_ ?_
        · clear h hw hl; clear ls; intro x h H locs ls hw hl
          replace hl : lv_has ls 5 [(0, .ref (o.2.1 0 0)), (1, .int x1), (2, .int x2)] := hl
          refine lv_aload_n hx hb dX4_shown_68 rfl (lv_at hl 0 rfl) ?_
          refine g_getf hx hb hts in_X4 hown hw 0 0 (ci_0 (by decide)) (bi_0 (by decide) hn) rfl rfl 0 (by decide) kX4_10 rfl dX4_shown_69 ?_
          refine lv_iload_n hx hb dX4_shown_72 rfl (lv_at hl 1 rfl) ?_
          refine lv_iload_n hx hb dX4_shown_73 rfl (lv_at hl 2 rfl) ?_
          refine g_ci hw (g_runV (As := [.int x1, .int x2]) (rest := []) hx hb hml hown hts mX0_entryInRow vX0_entryInRow kX4_170 hw 5 0 (ci_5 (by decide)) (bi_5 (by decide) hn) rfl rfl (c_X0_entryInRow hn (by decide) h) rfl rfl ⟨Nat.le_of_ble_eq_true rfl, Nat.le_of_ble_eq_true rfl⟩ rfl hl.1 rfl (Nat.le_of_ble_eq_true rfl) dX4_shown_74 ⟨Nat.zero_le _, Nat.zero_le _⟩) ?_
          clear h hw; intro v10 M9 H locs hw h
          exact g_iret hx hb hr hlocks hw h dX4_shown_77
        clear h; intro J8 hJ8 h
        refine g_if_le (tgt := 68) hx hb h dX4_shown_52 (by decide) ?_ ?_
        · clear h; intro h
          exact hJ8 () h _ _ _ hw (lv_sub hl [2, 3, 4] rfl)
        · clear h; intro h
          refine lv_iload_n hx hb dX4_shown_55 rfl (lv_at hl 4 rfl) ?_
          refine lv_iload_n hx hb dX4_shown_56 rfl (lv_at hl 1 rfl) ?_
          refine lv_iconst (v := 1) hx hb dX4_shown_57 (by decide) ?_
          refine lv_isub hx hb dX4_shown_58 ?_
          refine g_icmp_ne (tgt := 68) hx hb h dX4_shown_59 (by decide) ?_ ?_
          · clear h; intro h
            exact hJ8 () h _ _ _ hw (lv_sub hl [2, 3, 4] rfl)
          · clear h; intro h
            refine lv_bipush (v := (-10)) hx hb dX4_shown_62 (by decide) ?_
            refine lv_iload hx hb dX4_shown_64 (lv_at hl 0 rfl) ?_
            refine lv_isub hx hb dX4_shown_66 ?_
            exact g_iret hx hb hr hlocks hw h dX4_shown_67
      · clear h; intro h
        refine lv_bipush (v := (-9)) hx hb dX4_shown_36 (by decide) ?_
        exact g_iret hx hb hr hlocks hw h dX4_shown_38
    · clear h; intro h
      refine lv_iconst (v := (-1)) hx hb dX4_shown_18 (by decide) ?_
      exact g_iret hx hb hr hlocks hw h dX4_shown_19
abbrev rm_X4_rowOf : Room := { frames := 2, cells := 0, slots := 0, locals := 45 }
set_option maxHeartbeats 4000000 in
set_option maxRecDepth 100000 in
theorem c_X4_rowOf {o : Om} {l : Launch} (hn : 115 ≤ o.2.2.2) {M : Mm} {x1 : Int32} {x2 : Int32} {Q : Int32 → Mm → Prop} (h : w_X4_rowOf M x1 x2 Q) : CI o l yX4_rowOf cX4_rowOf 3 rm_X4_rowOf [.ref (o.2.1 0 0), .int x1, .int x2] M Q := by
  refine g_start (by decide +kernel) (Nat.le_of_ble_eq_true rfl) ?_
  intro p e s m args below meth c hx hb hr hlocks hml hown hts hw ls hl
  replace hl : lv_has ls 3 [(0, .ref (o.2.1 0 0)), (1, .int x1), (2, .int x2)] := hl
  unfold w_X4_rowOf at h
  refine lv_aload_n hx hb dX4_rowOf_0 rfl (lv_at hl 0 rfl) ?_
  refine lv_iload_n hx hb dX4_rowOf_1 rfl (lv_at hl 1 rfl) ?_
  refine g_cz hw (g_runV (As := [.int x1]) (rest := []) hx hb hml hown hts mX4_isEntry vX4_isEntry kX4_117 hw 0 0 (ci_0 (by decide)) (bi_0 (by decide) hn) rfl rfl (c_X4_isEntry hn h) rfl rfl ⟨Nat.le_of_ble_eq_true rfl, Nat.le_of_ble_eq_true rfl⟩ rfl hl.1 rfl (Nat.le_of_ble_eq_true rfl) dX4_rowOf_2 ⟨Nat.zero_le _, Nat.zero_le _⟩) ?_
  clear h hw; intro v2 M1 H locs hw hz_v2 h
  refine g_if_eq (tgt := 16) hx hb h dX4_rowOf_5 (by decide) ?_ ?_
  · clear h; intro h
    refine lv_iconst (v := (-1)) hx hb dX4_rowOf_16 (by decide) ?_
    exact g_iret hx hb hr hlocks hw h dX4_rowOf_17
  · clear h; intro h
    refine lv_aload_n hx hb dX4_rowOf_8 rfl (lv_at hl 0 rfl) ?_
    refine lv_iload_n hx hb dX4_rowOf_9 rfl (lv_at hl 2 rfl) ?_
    refine g_cz hw (g_runV (As := [.int x2]) (rest := []) hx hb hml hown hts mX4_isOnPage vX4_isOnPage kX4_164 hw 0 0 (ci_0 (by decide)) (bi_0 (by decide) hn) rfl rfl (c_X4_isOnPage hn h) rfl rfl ⟨Nat.le_of_ble_eq_true rfl, Nat.le_of_ble_eq_true rfl⟩ rfl hl.1 rfl (Nat.le_of_ble_eq_true rfl) dX4_rowOf_10 ⟨Nat.zero_le _, Nat.zero_le _⟩) ?_
    clear h hw; intro v4 M3 H locs hw hz_v4 h
    refine g_if_ne (tgt := 18) hx hb h dX4_rowOf_13 (by decide) ?_ ?_
    · clear h; intro h
      refine lv_aload_n hx hb dX4_rowOf_18 rfl (lv_at hl 0 rfl) ?_
      refine g_getf hx hb hts in_X4 hown hw 0 0 (ci_0 (by decide)) (bi_0 (by decide) hn) rfl rfl 0 (by decide) kX4_10 rfl dX4_rowOf_19 ?_
      refine lv_iload_n hx hb dX4_rowOf_22 rfl (lv_at hl 1 rfl) ?_
      refine lv_iload_n hx hb dX4_rowOf_23 rfl (lv_at hl 2 rfl) ?_
      refine g_ci hw (g_runV (As := [.int x1, .int x2]) (rest := []) hx hb hml hown hts mX0_rowOnDay vX0_rowOnDay kX4_173 hw 5 0 (ci_5 (by decide)) (bi_5 (by decide) hn) rfl rfl (c_X0_rowOnDay hn (by decide) h) rfl rfl ⟨Nat.le_of_ble_eq_true rfl, Nat.le_of_ble_eq_true rfl⟩ rfl hl.1 rfl (Nat.le_of_ble_eq_true rfl) dX4_rowOf_24 ⟨Nat.zero_le _, Nat.zero_le _⟩) ?_
      clear h hw; intro v6 M5 H locs hw h
      exact g_iret hx hb hr hlocks hw h dX4_rowOf_27
    · clear h; intro h
      refine lv_iconst (v := (-1)) hx hb dX4_rowOf_16 (by decide) ?_
      exact g_iret hx hb hr hlocks hw h dX4_rowOf_17
abbrev rm_X4_day : Room := { frames := 2, cells := 0, slots := 0, locals := 47 }
set_option maxHeartbeats 4000000 in
set_option maxRecDepth 100000 in
theorem c_X4_day {o : Om} {l : Launch} (hn : 115 ≤ o.2.2.2) {M : Mm} {x1 : Int32} {x2 : Int32} {Q : Int32 → Mm → Prop} (h : w_X4_day M x1 x2 Q) : CI o l yX4_day cX4_day 3 rm_X4_day [.ref (o.2.1 0 0), .int x1, .int x2] M Q := by
  refine g_start (by decide +kernel) (Nat.le_of_ble_eq_true rfl) ?_
  intro p e s m args below meth c hx hb hr hlocks hml hown hts hw ls hl
  replace hl : lv_has ls 3 [(0, .ref (o.2.1 0 0)), (1, .int x1), (2, .int x2)] := hl
  unfold w_X4_day at h
  refine lv_aload_n hx hb dX4_day_0 rfl (lv_at hl 0 rfl) ?_
  refine lv_iload_n hx hb dX4_day_1 rfl (lv_at hl 1 rfl) ?_
  refine g_cz hw (g_runV (As := [.int x1]) (rest := []) hx hb hml hown hts mX4_isOnPage vX4_isOnPage kX4_164 hw 0 0 (ci_0 (by decide)) (bi_0 (by decide) hn) rfl rfl (c_X4_isOnPage hn h) rfl rfl ⟨Nat.le_of_ble_eq_true rfl, Nat.le_of_ble_eq_true rfl⟩ rfl hl.1 rfl (Nat.le_of_ble_eq_true rfl) dX4_day_2 ⟨Nat.zero_le _, Nat.zero_le _⟩) ?_
  clear h hw; intro v2 M1 H locs hw hz_v2 h
  refine g_if_ne (tgt := 10) hx hb h dX4_day_5 (by decide) ?_ ?_
  · clear h; intro h
    refine lv_iload_n hx hb dX4_day_10 rfl (lv_at hl 2 rfl) ?_
    by_cases c0 : x2 = (0 : Int32)
    · rw [if_pos c0] at h
      refine lv_tableIn (tgt := 48) hx hb dX4_day_11 (by rw [c0]; decide) (by rw [c0]; decide) (by rw [c0]; rfl) (by decide) ?_
      clear c0
      refine lv_aload_n hx hb dX4_day_48 rfl (lv_at hl 0 rfl) ?_
      refine g_getf hx hb hts in_X4 hown hw 0 0 (ci_0 (by decide)) (bi_0 (by decide) hn) rfl rfl 0 (by decide) kX4_10 rfl dX4_day_49 ?_
      refine lv_iload_n hx hb dX4_day_52 rfl (lv_at hl 1 rfl) ?_
      refine g_ci hw (g_runV (As := [.int x1]) (rest := []) hx hb hml hown hts mX0_weekOfDay vX0_weekOfDay kX4_176 hw 5 0 (ci_5 (by decide)) (bi_5 (by decide) hn) rfl rfl (c_X0_weekOfDay hn (by decide) h) rfl rfl ⟨Nat.le_of_ble_eq_true rfl, Nat.le_of_ble_eq_true rfl⟩ rfl hl.1 rfl (Nat.le_of_ble_eq_true rfl) dX4_day_53 ⟨Nat.zero_le _, Nat.zero_le _⟩) ?_
      clear h hw; intro v4 M3 H locs hw h
      exact g_iret hx hb hr hlocks hw h dX4_day_56
    rw [if_neg c0] at h
    by_cases c1 : x2 = (1 : Int32)
    · rw [if_pos c1] at h
      refine lv_tableIn (tgt := 57) hx hb dX4_day_11 (by rw [c1]; decide) (by rw [c1]; decide) (by rw [c1]; rfl) (by decide) ?_
      clear c1
      refine lv_iload_n hx hb dX4_day_57 rfl (lv_at hl 1 rfl) ?_
      refine lv_bipush (v := 7) hx hb dX4_day_58 (by decide) ?_
      refine lv_irem hx hb dX4_day_60 (by decide) ?_
      exact g_iret hx hb hr hlocks hw h dX4_day_61
    rw [if_neg c1] at h
    by_cases c2 : x2 = (2 : Int32)
    · rw [if_pos c2] at h
      refine lv_tableIn (tgt := 62) hx hb dX4_day_11 (by rw [c2]; decide) (by rw [c2]; decide) (by rw [c2]; rfl) (by decide) ?_
      clear c2
      refine lv_aload_n hx hb dX4_day_62 rfl (lv_at hl 0 rfl) ?_
      refine g_getf hx hb hts in_X4 hown hw 0 0 (ci_0 (by decide)) (bi_0 (by decide) hn) rfl rfl 0 (by decide) kX4_10 rfl dX4_day_63 ?_
      refine g_getf hx hb hts in_X0 hown hw 5 0 (ci_5 (by decide)) (bi_5 (by decide) hn) rfl rfl 0 (by decide) kX4_40 rfl dX4_day_66 ?_
      refine lv_iload_n hx hb dX4_day_69 rfl (lv_at hl 1 rfl) ?_
      refine g_ci hw (g_runV (As := [.int x1]) (rest := []) hx hb hml hown hts mX2_longOnes vX2_longOnes kX4_179 hw 11 0 (ci_11 (by decide)) (bi_11 (by decide) hn) rfl rfl (c_X2_longOnes hn (by decide) h) rfl rfl ⟨Nat.le_of_ble_eq_true rfl, Nat.le_of_ble_eq_true rfl⟩ rfl hl.1 rfl (Nat.le_of_ble_eq_true rfl) dX4_day_70 ⟨Nat.zero_le _, Nat.zero_le _⟩) ?_
      clear h hw; intro v6 M5 H locs hw h
      exact g_iret hx hb hr hlocks hw h dX4_day_73
    rw [if_neg c2] at h
    by_cases c3 : x2 = (3 : Int32)
    · rw [if_pos c3] at h
      refine lv_tableIn (tgt := 74) hx hb dX4_day_11 (by rw [c3]; decide) (by rw [c3]; decide) (by rw [c3]; rfl) (by decide) ?_
      clear c3
      refine lv_aload_n hx hb dX4_day_74 rfl (lv_at hl 0 rfl) ?_
      refine g_getf hx hb hts in_X4 hown hw 0 0 (ci_0 (by decide)) (bi_0 (by decide) hn) rfl rfl 0 (by decide) kX4_10 rfl dX4_day_75 ?_
      refine g_getf hx hb hts in_X0 hown hw 5 0 (ci_5 (by decide)) (bi_5 (by decide) hn) rfl rfl 0 (by decide) kX4_40 rfl dX4_day_78 ?_
      refine lv_iload_n hx hb dX4_day_81 rfl (lv_at hl 1 rfl) ?_
      refine lv_iload_n hx hb dX4_day_82 rfl (lv_at hl 1 rfl) ?_
      refine g_ci hw (g_runV (As := [.int x1, .int x1]) (rest := []) hx hb hml hown hts mX2_shortOnes vX2_shortOnes kX4_83 hw 11 0 (ci_11 (by decide)) (bi_11 (by decide) hn) rfl rfl (c_X2_shortOnes hn (by decide) h) rfl rfl ⟨Nat.le_of_ble_eq_true rfl, Nat.le_of_ble_eq_true rfl⟩ rfl hl.1 rfl (Nat.le_of_ble_eq_true rfl) dX4_day_83 ⟨Nat.zero_le _, Nat.zero_le _⟩) ?_
      clear h hw; intro v8 M7 H locs hw h
      exact g_iret hx hb hr hlocks hw h dX4_day_86
    rw [if_neg c3] at h
    by_cases c4 : x2 = (4 : Int32)
    · rw [if_pos c4] at h
      refine lv_tableIn (tgt := 87) hx hb dX4_day_11 (by rw [c4]; decide) (by rw [c4]; decide) (by rw [c4]; rfl) (by decide) ?_
      clear c4
      refine lv_aload_n hx hb dX4_day_87 rfl (lv_at hl 0 rfl) ?_
      refine g_getf hx hb hts in_X4 hown hw 0 0 (ci_0 (by decide)) (bi_0 (by decide) hn) rfl rfl 0 (by decide) kX4_10 rfl dX4_day_88 ?_
      refine lv_iload_n hx hb dX4_day_91 rfl (lv_at hl 1 rfl) ?_
      refine lv_aload_n hx hb dX4_day_92 rfl (lv_at hl 0 rfl) ?_
      refine g_getf hx hb hts in_X4 hown hw 0 0 (ci_0 (by decide)) (bi_0 (by decide) hn) rfl rfl 0 (by decide) kX4_10 rfl dX4_day_93 ?_
      refine g_getf hx hb hts in_X0 hown hw 5 0 (ci_5 (by decide)) (bi_5 (by decide) hn) rfl rfl 0 (by decide) kX4_40 rfl dX4_day_96 ?_
      refine g_getf hx hb hts in_X2 hown hw 11 0 (ci_11 (by decide)) (bi_11 (by decide) hn) rfl rfl 3 (by decide) kX4_67 rfl dX4_day_99 ?_
      refine g_ci hw (g_runV (As := [.int x1, .int (M1 11 0 3)]) (rest := []) hx hb hml hown hts mX0_hiddenOnDay vX0_hiddenOnDay kX4_167 hw 5 0 (ci_5 (by decide)) (bi_5 (by decide) hn) rfl rfl (c_X0_hiddenOnDay hn (by decide) h) rfl rfl ⟨Nat.le_of_ble_eq_true rfl, Nat.le_of_ble_eq_true rfl⟩ rfl hl.1 rfl (Nat.le_of_ble_eq_true rfl) dX4_day_102 ⟨Nat.zero_le _, Nat.zero_le _⟩) ?_
      clear h hw; intro v10 M9 H locs hw h
      exact g_iret hx hb hr hlocks hw h dX4_day_105
    rw [if_neg c4] at h
    by_cases c5 : x2 = (5 : Int32)
    · rw [if_pos c5] at h
      refine lv_tableIn (tgt := 106) hx hb dX4_day_11 (by rw [c5]; decide) (by rw [c5]; decide) (by rw [c5]; rfl) (by decide) ?_
      clear c5
      refine lv_aload_n hx hb dX4_day_106 rfl (lv_at hl 0 rfl) ?_
      refine g_getf hx hb hts in_X4 hown hw 0 0 (ci_0 (by decide)) (bi_0 (by decide) hn) rfl rfl 0 (by decide) kX4_10 rfl dX4_day_107 ?_
      refine lv_iload_n hx hb dX4_day_110 rfl (lv_at hl 1 rfl) ?_
      refine g_ci hw (g_runV (As := [.int x1]) (rest := []) hx hb hml hown hts mX0_rowsOnDay vX0_rowsOnDay kX4_182 hw 5 0 (ci_5 (by decide)) (bi_5 (by decide) hn) rfl rfl (c_X0_rowsOnDay hn (by decide) h) rfl rfl ⟨Nat.le_of_ble_eq_true rfl, Nat.le_of_ble_eq_true rfl⟩ rfl hl.1 rfl (Nat.le_of_ble_eq_true rfl) dX4_day_111 ⟨Nat.zero_le _, Nat.zero_le _⟩) ?_
      clear h hw; intro v12 M11 H locs hw h
      exact g_iret hx hb hr hlocks hw h dX4_day_114
    rw [if_neg c5] at h
    refine lv_tableOut (tgt := 115) hx hb dX4_day_11 (tbl_out (fun k h1 => by rcases (show k = 0 ∨ k = 1 ∨ k = 2 ∨ k = 3 ∨ k = 4 ∨ k = 5 by omega) with rfl | rfl | rfl | rfl | rfl | rfl <;> assumption)) (by decide) ?_
    clear c0 c1 c2 c3 c4 c5
    refine lv_iconst (v := (-1)) hx hb dX4_day_115 (by decide) ?_
    exact g_iret hx hb hr hlocks hw h dX4_day_116
  · clear h; intro h
    refine lv_iconst (v := (-1)) hx hb dX4_day_8 (by decide) ?_
    exact g_iret hx hb hr hlocks hw h dX4_day_9
abbrev rm_X4_enough : Room := { frames := 1, cells := 0, slots := 0, locals := 22 }
set_option maxHeartbeats 4000000 in
set_option maxRecDepth 100000 in
theorem c_X4_enough {o : Om} {l : Launch} (hn : 115 ≤ o.2.2.2) {M : Mm} {Q : Int32 → Mm → Prop} (h : w_X4_enough M Q) : CI o l yX4_enough cX4_enough 3 rm_X4_enough [.ref (o.2.1 0 0)] M Q := by
  refine g_start (by decide +kernel) (Nat.le_of_ble_eq_true rfl) ?_
  intro p e s m args below meth c hx hb hr hlocks hml hown hts hw ls hl
  replace hl : lv_has ls 3 [(0, .ref (o.2.1 0 0))] := hl
  unfold w_X4_enough at h
  refine lv_iconst (v := 1) hx hb dX4_enough_0 (by decide) ?_
  refine lv_istore_n (lv' := [(1, .int (1 : Int32)), (0, .ref (o.2.1 0 0))]) hx hb dX4_enough_1 rfl hl (by decide) rfl ?_
  clear hl; clear ls; intro ls hl
  refine lv_aload_n hx hb dX4_enough_2 rfl (lv_at hl 1 rfl) ?_
  refine g_getf hx hb hts in_X4 hown hw 0 0 (ci_0 (by decide)) (bi_0 (by decide) hn) rfl rfl 0 (by decide) kX4_10 rfl dX4_enough_3 ?_
  refine g_getf hx hb hts in_X0 hown hw 5 0 (ci_5 (by decide)) (bi_5 (by decide) hn) rfl rfl 0 (by decide) kX4_40 rfl dX4_enough_6 ?_
  refine g_getf hx hb hts in_X2 hown hw 11 0 (ci_11 (by decide)) (bi_11 (by decide) hn) rfl rfl 0 (by decide) kX4_48 rfl dX4_enough_9 ?_
  refine g_topi h ?_
  clear h; intro v1 h
  refine lv_istore_n (lv' := [(2, .int v1), (1, .int (1 : Int32)), (0, .ref (o.2.1 0 0))]) hx hb dX4_enough_12 rfl hl (by decide) rfl ?_
  clear hl; clear ls; intro ls hl
  obtain ⟨n, h⟩ := h
  refine letK_W (body := fun K => w_X4_enough_L13 K) (fun (x : Int32 × Int32 × Mm) => ∀ (H : Heap) (locs : List Loc) (ls : Array Slot), WO o (WA o) s s.heap H locs x.2.2 → lv_has ls 3 [(1, .int x.1)] → W p l e rm_X4_enough s m args below meth c H locs 0 0 (MQ below (QI o Q) args s 0 0 (WA o)) (F0 m 46 ls [])) h ?_ ?_
  · clear h hw hl; clear ls; intro x h H locs ls hw hl
    obtain ⟨v11, v12, M13⟩ := x
    replace hl : lv_has ls 3 [(1, .int v11)] := hl
    dsimp only at h hw
    refine lv_iload_n hx hb dX4_enough_46 rfl (lv_at hl 0 rfl) ?_
    exact g_iret hx hb hr hlocks hw h dX4_enough_47
  clear h; intro K5 hK5 h
  refine loop_W (body := w_X4_enough_L13 K5) (fun (x : Int32 × Int32 × Mm) => ∀ (H : Heap) (locs : List Loc) (ls : Array Slot), WO o (WA o) s s.heap H locs x.2.2 → lv_has ls 3 [(0, .ref (o.2.1 0 0)), (1, .int x.1), (2, .int x.2.1)] → W p l e rm_X4_enough s m args below meth c H locs 0 0 (MQ below (QI o Q) args s 0 0 (WA o)) (F0 m 13 ls [])) ?_ n _ h _ _ _ hw (lv_sub hl [2, 1, 0] rfl)
  clear h hw hl; clear ls; intro R6 x hR6 h H locs ls hw hl
  obtain ⟨v2, v3, M4⟩ := x
  replace hl : lv_has ls 3 [(0, .ref (o.2.1 0 0)), (1, .int v2), (2, .int v3)] := hl
  dsimp only at hw
  unfold w_X4_enough_L13 at h
  dsimp only at h
  refine lv_iload_n hx hb dX4_enough_13 rfl (lv_at hl 2 rfl) ?_
  refine lv_aload_n hx hb dX4_enough_14 rfl (lv_at hl 0 rfl) ?_
  refine g_getf hx hb hts in_X4 hown hw 0 0 (ci_0 (by decide)) (bi_0 (by decide) hn) rfl rfl 0 (by decide) kX4_10 rfl dX4_enough_15 ?_
  refine g_getf hx hb hts in_X0 hown hw 5 0 (ci_5 (by decide)) (bi_5 (by decide) hn) rfl rfl 0 (by decide) kX4_40 rfl dX4_enough_18 ?_
  refine g_getf hx hb hts in_X2 hown hw 11 0 (ci_11 (by decide)) (bi_11 (by decide) hn) rfl rfl 1 (by decide) kX4_54 rfl dX4_enough_21 ?_
  refine g_icmp_gt (tgt := 46) hx hb h dX4_enough_24 (by decide) ?_ ?_
  · clear h; intro h
    exact hK5 (v2, v3, M4) h _ _ _ hw (lv_sub hl [1] rfl)
  · clear h; intro h
    refine lv_iload_n hx hb dX4_enough_27 rfl (lv_at hl 1 rfl) ?_
    refine lv_aload_n hx hb dX4_enough_28 rfl (lv_at hl 0 rfl) ?_
    refine g_getf hx hb hts in_X4 hown hw 0 0 (ci_0 (by decide)) (bi_0 (by decide) hn) rfl rfl 0 (by decide) kX4_10 rfl dX4_enough_29 ?_
    refine lv_iload_n hx hb dX4_enough_32 rfl (lv_at hl 2 rfl) ?_
    refine g_ci hw (g_runV (As := [.int v3]) (rest := [.int v2]) hx hb hml hown hts mX0_rowsOnDay vX0_rowsOnDay kX4_182 hw 5 0 (ci_5 (by decide)) (bi_5 (by decide) hn) rfl rfl (c_X0_rowsOnDay hn (by decide) h) rfl rfl ⟨Nat.le_of_ble_eq_true rfl, Nat.le_of_ble_eq_true rfl⟩ rfl hl.1 rfl (Nat.le_of_ble_eq_true rfl) dX4_enough_33 ⟨Nat.zero_le _, Nat.zero_le _⟩) ?_
    clear h hw; intro v8 M7 H locs hw h
    refine g_max hx hb hml hl.1 hown hts kX4_156 (Nat.le_of_ble_eq_true rfl) (Nat.le_of_ble_eq_true rfl) (Nat.zero_le _) (Nat.zero_le _) dX4_enough_36 ?_
    refine g_topi h ?_
    clear h; intro v9 h
    refine lv_istore_n (lv' := [(1, .int v9), (0, .ref (o.2.1 0 0)), (2, .int v3)]) hx hb dX4_enough_39 rfl hl (by decide) rfl ?_
    clear hl; clear ls; intro ls hl
    refine g_iinc (k := 2) (v := (v3 + (1 : Int32))) (lv' := fun v10 => [(2, .int v10), (1, .int v9), (0, .ref (o.2.1 0 0))]) hx hb dX4_enough_40 hl rfl rfl (by decide) (fun _ => rfl) h ?_
    clear h hl; clear ls; intro v10 ls h hl
    refine lv_goto (tgt := 13) hx hb dX4_enough_43 (by decide) ?_
    exact hR6 (v9, v10, M7) h _ _ _ hw (lv_sub hl [2, 1, 0] rfl)
abbrev rm_X4_ifRows : Room := { frames := 4, cells := 0, slots := 0, locals := 89 }
set_option maxHeartbeats 4000000 in
set_option maxRecDepth 100000 in
theorem c_X4_ifRows {o : Om} {l : Launch} (hn : 115 ≤ o.2.2.2) {M : Mm} {x1 : Int32} {Q : Int32 → Mm → Prop} (h : w_X4_ifRows M x1 Q) : CI o l yX4_ifRows cX4_ifRows 2 rm_X4_ifRows [.ref (o.2.1 0 0), .int x1] M Q := by
  refine g_start (by decide +kernel) (Nat.le_of_ble_eq_true rfl) ?_
  intro p e s m args below meth c hx hb hr hlocks hml hown hts hw ls hl
  replace hl : lv_has ls 2 [(0, .ref (o.2.1 0 0)), (1, .int x1)] := hl
  unfold w_X4_ifRows at h
  refine lv_iload_n hx hb dX4_ifRows_0 rfl (lv_at hl 1 rfl) ?_
  refine lv_iconst (v := 1) hx hb dX4_ifRows_1 (by decide) ?_
  refine lv_bipush (v := 12) hx hb dX4_ifRows_2 (by decide) ?_
  refine g_cz hw (g_runS (As := [.int x1, .int (1 : Int32), .int (12 : Int32)]) (rest := []) hx hb hml hown hts mX4_isWithin sX4_isWithin kX4_60 hw (c_X4_isWithin hn h) rfl rfl ⟨Nat.le_of_ble_eq_true rfl, Nat.le_of_ble_eq_true rfl⟩ rfl hl.1 rfl (Nat.le_of_ble_eq_true rfl) dX4_ifRows_4 ⟨Nat.zero_le _, Nat.zero_le _⟩) ?_
  clear h hw; intro v2 M1 H locs hw hz_v2 h
  refine g_if_ne (tgt := 12) hx hb h dX4_ifRows_7 (by decide) ?_ ?_
  · clear h; intro h
    refine lv_aload_n hx hb dX4_ifRows_12 rfl (lv_at hl 0 rfl) ?_
    refine g_getf hx hb hts in_X4 hown hw 0 0 (ci_0 (by decide)) (bi_0 (by decide) hn) rfl rfl 0 (by decide) kX4_10 rfl dX4_ifRows_13 ?_
    refine lv_iload_n hx hb dX4_ifRows_16 rfl (lv_at hl 1 rfl) ?_
    refine g_ci hw (g_runV (As := [.int x1]) (rest := []) hx hb hml hown hts mX0_hiddenOnPage vX0_hiddenOnPage kX4_185 hw 5 0 (ci_5 (by decide)) (bi_5 (by decide) hn) rfl rfl (c_X0_hiddenOnPage hn (by decide) h) rfl rfl ⟨Nat.le_of_ble_eq_true rfl, Nat.le_of_ble_eq_true rfl⟩ rfl hl.1 rfl (Nat.le_of_ble_eq_true rfl) dX4_ifRows_17 ⟨Nat.zero_le _, Nat.zero_le _⟩) ?_
    clear h hw; intro v4 M3 H locs hw h
    exact g_iret hx hb hr hlocks hw h dX4_ifRows_20
  · clear h; intro h
    refine lv_iconst (v := (-1)) hx hb dX4_ifRows_10 (by decide) ?_
    exact g_iret hx hb hr hlocks hw h dX4_ifRows_11
abbrev rm_X4_free : Room := { frames := 1, cells := 0, slots := 0, locals := 23 }
set_option maxHeartbeats 4000000 in
set_option maxRecDepth 100000 in
theorem c_X4_free {o : Om} {l : Launch} (hn : 115 ≤ o.2.2.2) {M : Mm} {x1 : Int32} {x2 : Int32} {Q : Int32 → Mm → Prop} (h : w_X4_free M x1 x2 Q) : CI o l yX4_free cX4_free 6 rm_X4_free [.ref (o.2.1 0 0), .int x1, .int x2] M Q := by
  refine g_start (by decide +kernel) (Nat.le_of_ble_eq_true rfl) ?_
  intro p e s m args below meth c hx hb hr hlocks hml hown hts hw ls hl
  replace hl : lv_has ls 6 [(0, .ref (o.2.1 0 0)), (1, .int x1), (2, .int x2)] := hl
  unfold w_X4_free at h
  refine lv_iload_n hx hb dX4_free_0 rfl (lv_at hl 1 rfl) ?_
  refine lv_iconst (v := 1) hx hb dX4_free_1 (by decide) ?_
  refine lv_bipush (v := 42) hx hb dX4_free_2 (by decide) ?_
  refine g_cz hw (g_runS (As := [.int x1, .int (1 : Int32), .int (42 : Int32)]) (rest := []) hx hb hml hown hts mX4_isWithin sX4_isWithin kX4_60 hw (c_X4_isWithin hn h) rfl rfl ⟨Nat.le_of_ble_eq_true rfl, Nat.le_of_ble_eq_true rfl⟩ rfl hl.1 rfl (Nat.le_of_ble_eq_true rfl) dX4_free_4 ⟨Nat.zero_le _, Nat.zero_le _⟩) ?_
  clear h hw; intro v2 M1 H locs hw hz_v2 h
  refine g_if_ne (tgt := 12) hx hb h dX4_free_7 (by decide) ?_ ?_
  · clear h; intro h
    refine lv_aload_n hx hb dX4_free_12 rfl (lv_at hl 0 rfl) ?_
    refine g_getf hx hb hts in_X4 hown hw 0 0 (ci_0 (by decide)) (bi_0 (by decide) hn) rfl rfl 0 (by decide) kX4_10 rfl dX4_free_13 ?_
    refine g_getf hx hb hts in_X0 hown hw 5 0 (ci_5 (by decide)) (bi_5 (by decide) hn) rfl rfl 0 (by decide) kX4_40 rfl dX4_free_16 ?_
    refine g_getf hx hb hts in_X2 hown hw 11 0 (ci_11 (by decide)) (bi_11 (by decide) hn) rfl rfl 0 (by decide) kX4_48 rfl dX4_free_19 ?_
    refine g_topi h ?_
    clear h; intro v3 h
    refine lv_istore_n (lv' := [(3, .int v3), (0, .ref (o.2.1 0 0)), (1, .int x1), (2, .int x2)]) hx hb dX4_free_22 rfl hl (by decide) rfl ?_
    clear hl; clear ls; intro ls hl
    obtain ⟨n, h⟩ := h
    refine letK_W (body := fun K => w_X4_free_L23 x1 x2 Q K) (fun (x : Int32 × Mm) => ∀ (H : Heap) (locs : List Loc) (ls : Array Slot), WO o (WA o) s s.heap H locs x.2 → lv_has ls 6 [] → W p l e rm_X4_free s m args below meth c H locs 0 0 (MQ below (QI o Q) args s 0 0 (WA o)) (F0 m 105 ls [])) h ?_ ?_
    · clear h hw hl; clear ls; intro x h H locs ls hw hl
      obtain ⟨v22, M23⟩ := x
      replace hl : lv_has ls 6 [] := hl
      dsimp only at h hw
      refine lv_bipush (v := (-9)) hx hb dX4_free_105 (by decide) ?_
      exact g_iret hx hb hr hlocks hw h dX4_free_107
    clear h; intro K6 hK6 h
    refine loop_W (body := w_X4_free_L23 x1 x2 Q K6) (fun (x : Int32 × Mm) => ∀ (H : Heap) (locs : List Loc) (ls : Array Slot), WO o (WA o) s s.heap H locs x.2 → lv_has ls 6 [(0, .ref (o.2.1 0 0)), (1, .int x1), (2, .int x2), (3, .int x.1)] → W p l e rm_X4_free s m args below meth c H locs 0 0 (MQ below (QI o Q) args s 0 0 (WA o)) (F0 m 23 ls [])) ?_ n _ h _ _ _ hw (lv_sub hl [1, 2, 3, 0] rfl)
    clear h hw hl; clear ls; intro R7 x hR7 h H locs ls hw hl
    obtain ⟨v4, M5⟩ := x
    replace hl : lv_has ls 6 [(0, .ref (o.2.1 0 0)), (1, .int x1), (2, .int x2), (3, .int v4)] := hl
    dsimp only at hw
    unfold w_X4_free_L23 at h
    dsimp only at h
    refine lv_iload_n hx hb dX4_free_23 rfl (lv_at hl 3 rfl) ?_
    refine lv_iload_n hx hb dX4_free_24 rfl (lv_at hl 1 rfl) ?_
    refine lv_iadd hx hb dX4_free_25 ?_
    refine lv_iconst (v := 1) hx hb dX4_free_26 (by decide) ?_
    refine lv_isub hx hb dX4_free_27 ?_
    refine lv_aload_n hx hb dX4_free_28 rfl (lv_at hl 0 rfl) ?_
    refine g_getf hx hb hts in_X4 hown hw 0 0 (ci_0 (by decide)) (bi_0 (by decide) hn) rfl rfl 0 (by decide) kX4_10 rfl dX4_free_29 ?_
    refine g_getf hx hb hts in_X0 hown hw 5 0 (ci_5 (by decide)) (bi_5 (by decide) hn) rfl rfl 0 (by decide) kX4_40 rfl dX4_free_32 ?_
    refine g_getf hx hb hts in_X2 hown hw 11 0 (ci_11 (by decide)) (bi_11 (by decide) hn) rfl rfl 1 (by decide) kX4_54 rfl dX4_free_35 ?_
    refine g_icmp_gt (tgt := 105) hx hb h dX4_free_38 (by decide) ?_ ?_
    · clear h; intro h
      exact hK6 (v4, M5) h _ _ _ hw (lv_sub hl [] rfl)
    · clear h; intro h
      refine lv_iload_n hx hb dX4_free_41 rfl (lv_at hl 3 rfl) ?_
      refine lv_iload_n hx hb dX4_free_42 rfl (lv_at hl 1 rfl) ?_
      refine lv_iadd hx hb dX4_free_43 ?_
      refine lv_iconst (v := 1) hx hb dX4_free_44 (by decide) ?_
      refine lv_isub hx hb dX4_free_45 ?_
      refine g_topi h ?_
      clear h; intro v8 h
      refine lv_istore (lv' := [(4, .int v8), (0, .ref (o.2.1 0 0)), (1, .int x1), (2, .int x2), (3, .int v4)]) hx hb dX4_free_46 hl (by decide) rfl ?_
      clear hl; clear ls; intro ls hl
      refine lv_iload_n hx hb dX4_free_48 rfl (lv_at hl 3 rfl) ?_
      refine letJ_W (fun (x : Int32 × Mm) => ∀ (H : Heap) (locs : List Loc) (ls : Array Slot), WO o (WA o) s s.heap H locs x.2 → lv_has ls 6 [(0, .ref (o.2.1 0 0)), (1, .int x1), (2, .int x2), (3, .int v4), (4, .int v8)] → W p l e rm_X4_free s m args below meth c H locs 0 0 (MQ below (QI o Q) args s 0 0 (WA o)) (F0 m 77 ls [.int x.1])) h ?_ ?_
      · clear h hw hl; clear ls; intro x h H locs ls hw hl
        obtain ⟨v9, M11⟩ := x
        replace hl : lv_has ls 6 [(0, .ref (o.2.1 0 0)), (1, .int x1), (2, .int x2), (3, .int v4), (4, .int v8)] := hl
        dsimp only at h
        dsimp only at hw
        refine lv_istore (lv' := [(5, .int v9), (0, .ref (o.2.1 0 0)), (1, .int x1), (2, .int x2), (3, .int v4), (4, .int v8)]) hx hb dX4_free_77 hl (by decide) rfl ?_
        clear hl; clear ls; intro ls hl
        refine lv_iload hx hb dX4_free_79 (lv_at hl 0 rfl) ?_
        refine g_if_eq (tgt := 99) hx hb h dX4_free_81 (by decide) ?_ ?_
        · clear h; intro h
          refine g_iinc (k := 4) (v := (v4 + (1 : Int32))) (lv' := fun v12 => [(3, .int v12), (5, .int v9), (0, .ref (o.2.1 0 0)), (1, .int x1), (2, .int x2), (4, .int v8)]) hx hb dX4_free_99 hl rfl rfl (by decide) (fun _ => rfl) h ?_
          clear h hl; clear ls; intro v12 ls h hl
          refine lv_goto (tgt := 23) hx hb dX4_free_102 (by decide) ?_
          exact hR7 (v12, M11) h _ _ _ hw (lv_sub hl [2, 3, 4, 0] rfl)
        · clear h; intro h
          refine lv_aload_n hx hb dX4_free_84 rfl (lv_at hl 1 rfl) ?_
          refine g_getf hx hb hts in_X4 hown hw 0 0 (ci_0 (by decide)) (bi_0 (by decide) hn) rfl rfl 0 (by decide) kX4_10 rfl dX4_free_85 ?_
          refine lv_iload_n hx hb dX4_free_88 rfl (lv_at hl 4 rfl) ?_
          refine lv_iload hx hb dX4_free_89 (lv_at hl 5 rfl) ?_
          refine g_cz hw (g_runV (As := [.int v4, .int v8]) (rest := []) hx hb hml hown hts mX0_isEmptyOnDays vX0_isEmptyOnDays kX4_188 hw 5 0 (ci_5 (by decide)) (bi_5 (by decide) hn) rfl rfl (c_X0_isEmptyOnDays hn (by decide) h) rfl rfl ⟨Nat.le_of_ble_eq_true rfl, Nat.le_of_ble_eq_true rfl⟩ rfl hl.1 rfl (Nat.le_of_ble_eq_true rfl) dX4_free_91 ⟨Nat.zero_le _, Nat.zero_le _⟩) ?_
          clear h hw; intro v14 M13 H locs hw hz_v14 h
          refine g_if_eq (tgt := 99) hx hb h dX4_free_94 (by decide) ?_ ?_
          · clear h; intro h
            refine g_iinc (k := 4) (v := (v4 + (1 : Int32))) (lv' := fun v15 => [(3, .int v15), (5, .int v9), (0, .ref (o.2.1 0 0)), (1, .int x1), (2, .int x2), (4, .int v8)]) hx hb dX4_free_99 hl rfl rfl (by decide) (fun _ => rfl) h ?_
            clear h hl; clear ls; intro v15 ls h hl
            refine lv_goto (tgt := 23) hx hb dX4_free_102 (by decide) ?_
            exact hR7 (v15, M13) h _ _ _ hw (lv_sub hl [2, 3, 4, 0] rfl)
          · clear h; intro h
            refine lv_iload_n hx hb dX4_free_97 rfl (lv_at hl 4 rfl) ?_
            exact g_iret hx hb hr hlocks hw h dX4_free_98
      clear h; intro J10 hJ10 h
      refine letJ_W (fun (x : Mm) => ∀ (H : Heap) (locs : List Loc) (ls : Array Slot), WO o (WA o) s s.heap H locs x → lv_has ls 6 [(0, .ref (o.2.1 0 0)), (1, .int x1), (2, .int x2), (3, .int v4), (4, .int v8)] → W p l e rm_X4_free s m args below meth c H locs 0 0 (MQ below (QI o Q) args s 0 0 (WA o)) (F0 m 72 ls [])) h ?_ ?_
      · clear h hw hl; clear ls; intro x h H locs ls hw hl
        obtain ⟨M17, rfl⟩ : ∃ z, z = x := ⟨_, rfl⟩
        replace hl : lv_has ls 6 [(0, .ref (o.2.1 0 0)), (1, .int x1), (2, .int x2), (3, .int v4), (4, .int v8)] := hl
        refine lv_iconst (v := 1) hx hb dX4_free_72 (by decide) ?_
        refine lv_goto (tgt := 77) hx hb dX4_free_73 (by decide) ?_
        exact hJ10 ((1 : Int32), M17) h _ _ _ hw (lv_sub hl [0, 1, 2, 3, 4] rfl)
      clear h; intro J16 hJ16 h
      refine g_if_eq (tgt := 72) hx hb h dX4_free_49 (by decide) ?_ ?_
      · clear h; intro h
        exact hJ16 M5 h _ _ _ hw (lv_sub hl [1, 2, 3, 4, 0] rfl)
      · clear h; intro h
        refine lv_aload_n hx hb dX4_free_52 rfl (lv_at hl 1 rfl) ?_
        refine g_getf hx hb hts in_X4 hown hw 0 0 (ci_0 (by decide)) (bi_0 (by decide) hn) rfl rfl 0 (by decide) kX4_10 rfl dX4_free_53 ?_
        refine lv_iload_n hx hb dX4_free_56 rfl (lv_at hl 4 rfl) ?_
        refine g_ci hw (g_runV (As := [.int v4]) (rest := []) hx hb hml hown hts mX0_weekOfDay vX0_weekOfDay kX4_176 hw 5 0 (ci_5 (by decide)) (bi_5 (by decide) hn) rfl rfl (c_X0_weekOfDay hn (by decide) h) rfl rfl ⟨Nat.le_of_ble_eq_true rfl, Nat.le_of_ble_eq_true rfl⟩ rfl hl.1 rfl (Nat.le_of_ble_eq_true rfl) dX4_free_57 ⟨Nat.zero_le _, Nat.zero_le _⟩) ?_
        clear h hw; intro v19 M18 H locs hw h
        refine lv_aload_n hx hb dX4_free_60 rfl (lv_at hl 1 rfl) ?_
        refine g_getf hx hb hts in_X4 hown hw 0 0 (ci_0 (by decide)) (bi_0 (by decide) hn) rfl rfl 0 (by decide) kX4_10 rfl dX4_free_61 ?_
        refine lv_iload hx hb dX4_free_64 (lv_at hl 0 rfl) ?_
        refine g_ci hw (g_runV (As := [.int v8]) (rest := [.int v19]) hx hb hml hown hts mX0_weekOfDay vX0_weekOfDay kX4_176 hw 5 0 (ci_5 (by decide)) (bi_5 (by decide) hn) rfl rfl (c_X0_weekOfDay hn (by decide) h) rfl rfl ⟨Nat.le_of_ble_eq_true rfl, Nat.le_of_ble_eq_true rfl⟩ rfl hl.1 rfl (Nat.le_of_ble_eq_true rfl) dX4_free_66 ⟨Nat.zero_le _, Nat.zero_le _⟩) ?_
        clear h hw; intro v21 M20 H locs hw h
        refine g_icmp_ne (tgt := 76) hx hb h dX4_free_69 (by decide) ?_ ?_
        · clear h; intro h
          refine lv_iconst (v := 0) hx hb dX4_free_76 (by decide) ?_
          exact hJ10 ((0 : Int32), M20) h _ _ _ hw (lv_sub hl [1, 2, 3, 4, 0] rfl)
        · clear h; intro h
          exact hJ16 M20 h _ _ _ hw (lv_sub hl [1, 2, 3, 4, 0] rfl)
  · clear h; intro h
    refine lv_iconst (v := (-1)) hx hb dX4_free_10 (by decide) ?_
    exact g_iret hx hb hr hlocks hw h dX4_free_11
abbrev rm_X4_bestDay : Room := { frames := 4, cells := 0, slots := 0, locals := 91 }
set_option maxHeartbeats 4000000 in
set_option maxRecDepth 100000 in
theorem c_X4_bestDay {o : Om} {l : Launch} (hn : 115 ≤ o.2.2.2) {M : Mm} {x1 : Int32} {Q : Int32 → Mm → Prop} (h : w_X4_bestDay M x1 Q) : CI o l yX4_bestDay cX4_bestDay 10 rm_X4_bestDay [.ref (o.2.1 0 0), .int x1] M Q := by
  refine g_start (by decide +kernel) (Nat.le_of_ble_eq_true rfl) ?_
  intro p e s m args below meth c hx hb hr hlocks hml hown hts hw ls hl
  replace hl : lv_has ls 10 [(0, .ref (o.2.1 0 0)), (1, .int x1)] := hl
  unfold w_X4_bestDay at h
  refine lv_aload_n hx hb dX4_bestDay_0 rfl (lv_at hl 0 rfl) ?_
  refine lv_iload_n hx hb dX4_bestDay_1 rfl (lv_at hl 1 rfl) ?_
  refine g_cz hw (g_runV (As := [.int x1]) (rest := []) hx hb hml hown hts mX4_isEntry vX4_isEntry kX4_117 hw 0 0 (ci_0 (by decide)) (bi_0 (by decide) hn) rfl rfl (c_X4_isEntry hn h) rfl rfl ⟨Nat.le_of_ble_eq_true rfl, Nat.le_of_ble_eq_true rfl⟩ rfl hl.1 rfl (Nat.le_of_ble_eq_true rfl) dX4_bestDay_2 ⟨Nat.zero_le _, Nat.zero_le _⟩) ?_
  clear h hw; intro v2 M1 H locs hw hz_v2 h
  refine g_if_ne (tgt := 10) hx hb h dX4_bestDay_5 (by decide) ?_ ?_
  · clear h; intro h
    refine lv_aload_n hx hb dX4_bestDay_10 rfl (lv_at hl 0 rfl) ?_
    refine g_getf hx hb hts in_X4 hown hw 0 0 (ci_0 (by decide)) (bi_0 (by decide) hn) rfl rfl 1 (by decide) kX4_16 rfl dX4_bestDay_11 ?_
    refine g_getf hx hb hts in_X0 hown hw 5 1 (ci_5 (by decide)) (bi_5 (by decide) hn) rfl rfl 0 (by decide) kX4_40 rfl dX4_bestDay_14 ?_
    refine lv_astore_n (lv' := [(2, .ref (o.2.1 11 1)), (0, .ref (o.2.1 0 0)), (1, .int x1)]) hx hb dX4_bestDay_17 rfl hl (by decide) rfl ?_
    clear hl; clear ls; intro ls hl
    refine lv_aload_n hx hb dX4_bestDay_18 rfl (lv_at hl 0 rfl) ?_
    refine lv_aload_n hx hb dX4_bestDay_19 rfl (lv_at hl 1 rfl) ?_
    refine g_getf hx hb hts in_X4 hown hw 0 0 (ci_0 (by decide)) (bi_0 (by decide) hn) rfl rfl 0 (by decide) kX4_10 rfl dX4_bestDay_20 ?_
    refine g_getf hx hb hts in_X0 hown hw 5 0 (ci_5 (by decide)) (bi_5 (by decide) hn) rfl rfl 0 (by decide) kX4_40 rfl dX4_bestDay_23 ?_
    refine g_cv hw (g_runV (As := [.ref (o.2.1 11 0)]) (rest := []) hx hb hml hown hts mX2_copy vX2_copy kX4_98 hw 11 1 (ci_11 (by decide)) (bi_11 (by decide) hn) rfl rfl (c_X2_copy hn (by decide) (by decide) h) rfl rfl ⟨Nat.le_of_ble_eq_true rfl, Nat.le_of_ble_eq_true rfl⟩ rfl hl.1 rfl (Nat.le_of_ble_eq_true rfl) dX4_bestDay_26 ⟨Nat.zero_le _, Nat.zero_le _⟩) ?_
    clear h hw; intro M3 H locs hw h
    refine lv_aload_n hx hb dX4_bestDay_29 rfl (lv_at hl 1 rfl) ?_
    refine g_getf hx hb hts in_X4 hown hw 0 0 (ci_0 (by decide)) (bi_0 (by decide) hn) rfl rfl 0 (by decide) kX4_10 rfl dX4_bestDay_30 ?_
    refine g_getf hx hb hts in_X0 hown hw 5 0 (ci_5 (by decide)) (bi_5 (by decide) hn) rfl rfl 0 (by decide) kX4_40 rfl dX4_bestDay_33 ?_
    refine g_getf hx hb hts in_X2 hown hw 11 0 (ci_11 (by decide)) (bi_11 (by decide) hn) rfl rfl 5 (by decide) kX4_123 rfl dX4_bestDay_36 ?_
    refine lv_iload_n hx hb dX4_bestDay_39 rfl (lv_at hl 2 rfl) ?_
    refine g_iald hx hb hw 13 0 (ci_13 (by decide)) (bi_13 (by decide) hn) rfl h dX4_bestDay_40 ?_
    clear h; intro v4 h
    refine lv_istore_n (lv' := [(3, .int v4), (2, .ref (o.2.1 11 1)), (0, .ref (o.2.1 0 0)), (1, .int x1)]) hx hb dX4_bestDay_41 rfl hl (by decide) rfl ?_
    clear hl; clear ls; intro ls hl
    refine lv_aload_n hx hb dX4_bestDay_42 rfl (lv_at hl 2 rfl) ?_
    refine g_getf hx hb hts in_X4 hown hw 0 0 (ci_0 (by decide)) (bi_0 (by decide) hn) rfl rfl 0 (by decide) kX4_10 rfl dX4_bestDay_43 ?_
    refine g_getf hx hb hts in_X0 hown hw 5 0 (ci_5 (by decide)) (bi_5 (by decide) hn) rfl rfl 0 (by decide) kX4_40 rfl dX4_bestDay_46 ?_
    refine g_getf hx hb hts in_X2 hown hw 11 0 (ci_11 (by decide)) (bi_11 (by decide) hn) rfl rfl 6 (by decide) kX4_127 rfl dX4_bestDay_49 ?_
    refine lv_iload_n hx hb dX4_bestDay_52 rfl (lv_at hl 3 rfl) ?_
    refine g_iald hx hb hw 14 0 (ci_14 (by decide)) (bi_14 (by decide) hn) rfl h dX4_bestDay_53 ?_
    clear h; intro v5 h
    refine lv_iload_n hx hb dX4_bestDay_54 rfl (lv_at hl 0 rfl) ?_
    refine lv_isub hx hb dX4_bestDay_55 ?_
    refine g_topi h ?_
    clear h; intro v6 h
    refine lv_istore (lv' := [(4, .int v6), (3, .int v4), (2, .ref (o.2.1 11 1)), (0, .ref (o.2.1 0 0)), (1, .int x1)]) hx hb dX4_bestDay_56 hl (by decide) rfl ?_
    clear hl; clear ls; intro ls hl
    refine lv_bipush (v := (-9)) hx hb dX4_bestDay_58 (by decide) ?_
    refine lv_istore (lv' := [(5, .int (-9 : Int32)), (4, .int v6), (3, .int v4), (2, .ref (o.2.1 11 1)), (0, .ref (o.2.1 0 0)), (1, .int x1)]) hx hb dX4_bestDay_60 hl (by decide) rfl ?_
    clear hl; clear ls; intro ls hl
    refine lv_iconst (v := 0) hx hb dX4_bestDay_62 (by decide) ?_
    refine lv_istore (lv' := [(6, .int (0 : Int32)), (5, .int (-9 : Int32)), (4, .int v6), (3, .int v4), (2, .ref (o.2.1 11 1)), (0, .ref (o.2.1 0 0)), (1, .int x1)]) hx hb dX4_bestDay_63 hl (by decide) rfl ?_
    clear hl; clear ls; intro ls hl
    refine lv_aload_n hx hb dX4_bestDay_65 rfl (lv_at hl 4 rfl) ?_
    refine g_getf hx hb hts in_X2 hown hw 11 1 (ci_11 (by decide)) (bi_11 (by decide) hn) rfl rfl 0 (by decide) kX4_48 rfl dX4_bestDay_66 ?_
    refine g_topi h ?_
    clear h; intro v7 h
    refine lv_istore (lv' := [(7, .int v7), (6, .int (0 : Int32)), (5, .int (-9 : Int32)), (4, .int v6), (3, .int v4), (2, .ref (o.2.1 11 1)), (0, .ref (o.2.1 0 0)), (1, .int x1)]) hx hb dX4_bestDay_69 hl (by decide) rfl ?_
    clear hl; clear ls; intro ls hl
    obtain ⟨n, h⟩ := h
    refine letK_W (body := fun K => w_X4_bestDay_L71 x1 v4 v6 K) (fun (x : Int32 × Int32 × Int32 × Mm) => ∀ (H : Heap) (locs : List Loc) (ls : Array Slot), WO o (WA o) s s.heap H locs x.2.2.2 → lv_has ls 10 [(5, .int x.1)] → W p l e rm_X4_bestDay s m args below meth c H locs 0 0 (MQ below (QI o Q) args s 0 0 (WA o)) (F0 m 194 ls [])) h ?_ ?_
    · clear h hw hl; clear ls; intro x h H locs ls hw hl
      obtain ⟨v26, v27, v28, M29⟩ := x
      replace hl : lv_has ls 10 [(5, .int v26)] := hl
      dsimp only at h hw
      refine lv_iload hx hb dX4_bestDay_194 (lv_at hl 0 rfl) ?_
      exact g_iret hx hb hr hlocks hw h dX4_bestDay_196
    clear h; intro K12 hK12 h
    refine loop_W (body := w_X4_bestDay_L71 x1 v4 v6 K12) (fun (x : Int32 × Int32 × Int32 × Mm) => ∀ (H : Heap) (locs : List Loc) (ls : Array Slot), WO o (WA o) s s.heap H locs x.2.2.2 → lv_has ls 10 [(0, .ref (o.2.1 0 0)), (1, .int x1), (2, .ref (o.2.1 11 1)), (3, .int v4), (4, .int v6), (5, .int x.1), (6, .int x.2.1), (7, .int x.2.2.1)] → W p l e rm_X4_bestDay s m args below meth c H locs 0 0 (MQ below (QI o Q) args s 0 0 (WA o)) (F0 m 71 ls [])) ?_ n _ h _ _ _ hw (lv_sub hl [6, 7, 5, 4, 3, 2, 1, 0] rfl)
    clear h hw hl; clear ls; intro R13 x hR13 h H locs ls hw hl
    obtain ⟨v8, v9, v10, M11⟩ := x
    replace hl : lv_has ls 10 [(0, .ref (o.2.1 0 0)), (1, .int x1), (2, .ref (o.2.1 11 1)), (3, .int v4), (4, .int v6), (5, .int v8), (6, .int v9), (7, .int v10)] := hl
    dsimp only at hw
    unfold w_X4_bestDay_L71 at h
    dsimp only at h
    refine lv_iload hx hb dX4_bestDay_71 (lv_at hl 7 rfl) ?_
    refine lv_aload_n hx hb dX4_bestDay_73 rfl (lv_at hl 2 rfl) ?_
    refine g_getf hx hb hts in_X2 hown hw 11 1 (ci_11 (by decide)) (bi_11 (by decide) hn) rfl rfl 1 (by decide) kX4_54 rfl dX4_bestDay_74 ?_
    refine g_icmp_gt (tgt := 194) hx hb h dX4_bestDay_77 (by decide) ?_ ?_
    · clear h; intro h
      exact hK12 (v8, v9, v10, M11) h _ _ _ hw (lv_sub hl [5] rfl)
    · clear h; intro h
      refine lv_iload hx hb dX4_bestDay_80 (lv_at hl 7 rfl) ?_
      refine lv_iload hx hb dX4_bestDay_82 (lv_at hl 4 rfl) ?_
      refine lv_iadd hx hb dX4_bestDay_84 ?_
      refine lv_sipush (v := 999) hx hb dX4_bestDay_85 (by decide) ?_
      refine g_icmp_gt (tgt := 194) hx hb h dX4_bestDay_88 (by decide) ?_ ?_
      · clear h; intro h
        exact hK12 (v8, v9, v10, M11) h _ _ _ hw (lv_sub hl [5] rfl)
      · clear h; intro h
        refine lv_aload_n hx hb dX4_bestDay_91 rfl (lv_at hl 2 rfl) ?_
        refine g_getf hx hb hts in_X2 hown hw 11 1 (ci_11 (by decide)) (bi_11 (by decide) hn) rfl rfl 5 (by decide) kX4_123 rfl dX4_bestDay_92 ?_
        refine lv_iload_n hx hb dX4_bestDay_95 rfl (lv_at hl 1 rfl) ?_
        refine lv_iload hx hb dX4_bestDay_96 (lv_at hl 7 rfl) ?_
        refine g_iast hx hb hw 13 1 (ci_13 (by decide)) (bi_13 (by decide) hn) (fun _ => rfl) h dX4_bestDay_98 ?_
        clear h hw; intro M14 H locs hw h
        refine lv_aload_n hx hb dX4_bestDay_99 rfl (lv_at hl 2 rfl) ?_
        refine g_getf hx hb hts in_X2 hown hw 11 1 (ci_11 (by decide)) (bi_11 (by decide) hn) rfl rfl 6 (by decide) kX4_127 rfl dX4_bestDay_100 ?_
        refine lv_iload_n hx hb dX4_bestDay_103 rfl (lv_at hl 1 rfl) ?_
        refine lv_iload hx hb dX4_bestDay_104 (lv_at hl 7 rfl) ?_
        refine lv_iload hx hb dX4_bestDay_106 (lv_at hl 4 rfl) ?_
        refine lv_iadd hx hb dX4_bestDay_108 ?_
        refine g_iast hx hb hw 14 1 (ci_14 (by decide)) (bi_14 (by decide) hn) (fun _ => rfl) h dX4_bestDay_109 ?_
        clear h hw; intro M15 H locs hw h
        refine lv_aload_n hx hb dX4_bestDay_110 rfl (lv_at hl 0 rfl) ?_
        refine g_getf hx hb hts in_X4 hown hw 0 0 (ci_0 (by decide)) (bi_0 (by decide) hn) rfl rfl 1 (by decide) kX4_16 rfl dX4_bestDay_111 ?_
        refine g_cv hw (g_runV (As := []) (rest := []) hx hb hml hown hts mX0_lay vX0_lay kX4_33 hw 5 1 (ci_5 (by decide)) (bi_5 (by decide) hn) rfl rfl (c_X0_lay hn (by decide) h) rfl rfl ⟨Nat.le_of_ble_eq_true rfl, Nat.le_of_ble_eq_true rfl⟩ rfl hl.1 rfl (Nat.le_of_ble_eq_true rfl) dX4_bestDay_114 ⟨Nat.zero_le _, Nat.zero_le _⟩) ?_
        clear h hw; intro M16 H locs hw h
        refine lv_aload_n hx hb dX4_bestDay_117 rfl (lv_at hl 0 rfl) ?_
        refine g_getf hx hb hts in_X4 hown hw 0 0 (ci_0 (by decide)) (bi_0 (by decide) hn) rfl rfl 1 (by decide) kX4_16 rfl dX4_bestDay_118 ?_
        refine lv_aload_n hx hb dX4_bestDay_121 rfl (lv_at hl 2 rfl) ?_
        refine g_getf hx hb hts in_X2 hown hw 11 1 (ci_11 (by decide)) (bi_11 (by decide) hn) rfl rfl 3 (by decide) kX4_67 rfl dX4_bestDay_122 ?_
        refine g_ci hw (g_runV (As := [.int (M16 11 1 3)]) (rest := []) hx hb hml hown hts mX0_hiddenOnPage vX0_hiddenOnPage kX4_185 hw 5 1 (ci_5 (by decide)) (bi_5 (by decide) hn) rfl rfl (c_X0_hiddenOnPage hn (by decide) h) rfl rfl ⟨Nat.le_of_ble_eq_true rfl, Nat.le_of_ble_eq_true rfl⟩ rfl hl.1 rfl (Nat.le_of_ble_eq_true rfl) dX4_bestDay_125 ⟨Nat.zero_le _, Nat.zero_le _⟩) ?_
        clear h hw; intro v18 M17 H locs hw h
        refine lv_istore (lv' := [(8, .int v18), (0, .ref (o.2.1 0 0)), (1, .int x1), (2, .ref (o.2.1 11 1)), (3, .int v4), (4, .int v6), (5, .int v8), (6, .int v9), (7, .int v10)]) hx hb dX4_bestDay_128 hl (by decide) rfl ?_
        clear hl; clear ls; intro ls hl
        refine lv_iload hx hb dX4_bestDay_130 (lv_at hl 8 rfl) ?_
        refine lv_iload_n hx hb dX4_bestDay_132 rfl (lv_at hl 4 rfl) ?_
        refine lv_isub hx hb dX4_bestDay_133 ?_
        refine g_abs hx hb hml hl.1 hown hts kX4_192 (Nat.le_of_ble_eq_true rfl) (Nat.le_of_ble_eq_true rfl) (Nat.zero_le _) (Nat.zero_le _) dX4_bestDay_134 ?_
        refine lv_iload hx hb dX4_bestDay_137 (lv_at hl 6 rfl) ?_
        refine lv_iload_n hx hb dX4_bestDay_139 rfl (lv_at hl 4 rfl) ?_
        refine lv_isub hx hb dX4_bestDay_140 ?_
        refine g_abs hx hb hml hl.1 hown hts kX4_192 (Nat.le_of_ble_eq_true rfl) (Nat.le_of_ble_eq_true rfl) (Nat.zero_le _) (Nat.zero_le _) dX4_bestDay_141 ?_
        refine letJ_W (fun (x : Int32) => ∀ (H : Heap) (locs : List Loc) (ls : Array Slot), WO o (WA o) s s.heap H locs M17 → lv_has ls 10 [(0, .ref (o.2.1 0 0)), (1, .int x1), (2, .ref (o.2.1 11 1)), (3, .int v4), (4, .int v6), (5, .int v8), (6, .int v9), (7, .int v10), (8, .int v18)] → W p l e rm_X4_bestDay s m args below meth c H locs 0 0 (MQ below (QI o Q) args s 0 0 (WA o)) (F0 m 152 ls [.int x])) h ?_ ?_
        · clear h hw hl; clear ls; intro x h H locs ls hw hl
          obtain ⟨v19, rfl⟩ : ∃ z, z = x := ⟨_, rfl⟩
          replace hl : lv_has ls 10 [(0, .ref (o.2.1 0 0)), (1, .int x1), (2, .ref (o.2.1 11 1)), (3, .int v4), (4, .int v6), (5, .int v8), (6, .int v9), (7, .int v10), (8, .int v18)] := hl
          refine lv_istore (lv' := [(9, .int v19), (0, .ref (o.2.1 0 0)), (1, .int x1), (2, .ref (o.2.1 11 1)), (3, .int v4), (4, .int v6), (5, .int v8), (6, .int v9), (7, .int v10), (8, .int v18)]) hx hb dX4_bestDay_152 hl (by decide) rfl ?_
          clear hl; clear ls; intro ls hl
          refine lv_iload hx hb dX4_bestDay_154 (lv_at hl 6 rfl) ?_
          refine lv_bipush (v := (-9)) hx hb dX4_bestDay_156 (by decide) ?_
          refine g_icmp_eq (tgt := 180) hx hb h dX4_bestDay_158 (by decide) ?_ ?_
          · clear h; intro h
            refine lv_iload hx hb dX4_bestDay_180 (lv_at hl 8 rfl) ?_
            refine lv_istore (lv' := [(5, .int v10), (9, .int v19), (0, .ref (o.2.1 0 0)), (1, .int x1), (2, .ref (o.2.1 11 1)), (3, .int v4), (4, .int v6), (6, .int v9), (7, .int v10), (8, .int v18)]) hx hb dX4_bestDay_182 hl (by decide) rfl ?_
            clear hl; clear ls; intro ls hl
            refine lv_iload hx hb dX4_bestDay_184 (lv_at hl 9 rfl) ?_
            refine lv_istore (lv' := [(6, .int v18), (5, .int v10), (9, .int v19), (0, .ref (o.2.1 0 0)), (1, .int x1), (2, .ref (o.2.1 11 1)), (3, .int v4), (4, .int v6), (7, .int v10), (8, .int v18)]) hx hb dX4_bestDay_186 hl (by decide) rfl ?_
            clear hl; clear ls; intro ls hl
            refine g_iinc (k := 8) (v := (v10 + (1 : Int32))) (lv' := fun v21 => [(7, .int v21), (6, .int v18), (5, .int v10), (9, .int v19), (0, .ref (o.2.1 0 0)), (1, .int x1), (2, .ref (o.2.1 11 1)), (3, .int v4), (4, .int v6), (8, .int v18)]) hx hb dX4_bestDay_188 hl rfl rfl (by decide) (fun _ => rfl) h ?_
            clear h hl; clear ls; intro v21 ls h hl
            refine lv_goto (tgt := 71) hx hb dX4_bestDay_191 (by decide) ?_
            exact hR13 (v10, v18, v21, M17) h _ _ _ hw (lv_sub hl [4, 5, 6, 7, 8, 2, 1, 0] rfl)
          · clear h; intro h
            refine lv_iload hx hb dX4_bestDay_161 (lv_at hl 9 rfl) ?_
            refine lv_iload hx hb dX4_bestDay_163 (lv_at hl 7 rfl) ?_
            refine g_icmp_lt (tgt := 180) hx hb h dX4_bestDay_165 (by decide) ?_ ?_
            · clear h; intro h
              refine lv_iload hx hb dX4_bestDay_180 (lv_at hl 8 rfl) ?_
              refine lv_istore (lv' := [(5, .int v10), (9, .int v19), (0, .ref (o.2.1 0 0)), (1, .int x1), (2, .ref (o.2.1 11 1)), (3, .int v4), (4, .int v6), (6, .int v9), (7, .int v10), (8, .int v18)]) hx hb dX4_bestDay_182 hl (by decide) rfl ?_
              clear hl; clear ls; intro ls hl
              refine lv_iload hx hb dX4_bestDay_184 (lv_at hl 9 rfl) ?_
              refine lv_istore (lv' := [(6, .int v18), (5, .int v10), (9, .int v19), (0, .ref (o.2.1 0 0)), (1, .int x1), (2, .ref (o.2.1 11 1)), (3, .int v4), (4, .int v6), (7, .int v10), (8, .int v18)]) hx hb dX4_bestDay_186 hl (by decide) rfl ?_
              clear hl; clear ls; intro ls hl
              refine g_iinc (k := 8) (v := (v10 + (1 : Int32))) (lv' := fun v22 => [(7, .int v22), (6, .int v18), (5, .int v10), (9, .int v19), (0, .ref (o.2.1 0 0)), (1, .int x1), (2, .ref (o.2.1 11 1)), (3, .int v4), (4, .int v6), (8, .int v18)]) hx hb dX4_bestDay_188 hl rfl rfl (by decide) (fun _ => rfl) h ?_
              clear h hl; clear ls; intro v22 ls h hl
              refine lv_goto (tgt := 71) hx hb dX4_bestDay_191 (by decide) ?_
              exact hR13 (v10, v18, v22, M17) h _ _ _ hw (lv_sub hl [4, 5, 6, 7, 8, 2, 1, 0] rfl)
            · clear h; intro h
              refine lv_iload hx hb dX4_bestDay_168 (lv_at hl 9 rfl) ?_
              refine lv_iload hx hb dX4_bestDay_170 (lv_at hl 7 rfl) ?_
              refine g_icmp_ne (tgt := 188) hx hb h dX4_bestDay_172 (by decide) ?_ ?_
              · clear h; intro h
                refine g_iinc (k := 8) (v := (v10 + (1 : Int32))) (lv' := fun v23 => [(7, .int v23), (9, .int v19), (0, .ref (o.2.1 0 0)), (1, .int x1), (2, .ref (o.2.1 11 1)), (3, .int v4), (4, .int v6), (5, .int v8), (6, .int v9), (8, .int v18)]) hx hb dX4_bestDay_188 hl rfl rfl (by decide) (fun _ => rfl) h ?_
                clear h hl; clear ls; intro v23 ls h hl
                refine lv_goto (tgt := 71) hx hb dX4_bestDay_191 (by decide) ?_
                exact hR13 (v8, v9, v23, M17) h _ _ _ hw (lv_sub hl [2, 3, 4, 5, 6, 7, 8, 0] rfl)
              · clear h; intro h
                refine lv_iload hx hb dX4_bestDay_175 (lv_at hl 0 rfl) ?_
                refine g_if_eq (tgt := 188) hx hb h dX4_bestDay_177 (by decide) ?_ ?_
                · clear h; intro h
                  refine g_iinc (k := 8) (v := (v10 + (1 : Int32))) (lv' := fun v24 => [(7, .int v24), (9, .int v19), (0, .ref (o.2.1 0 0)), (1, .int x1), (2, .ref (o.2.1 11 1)), (3, .int v4), (4, .int v6), (5, .int v8), (6, .int v9), (8, .int v18)]) hx hb dX4_bestDay_188 hl rfl rfl (by decide) (fun _ => rfl) h ?_
                  clear h hl; clear ls; intro v24 ls h hl
                  refine lv_goto (tgt := 71) hx hb dX4_bestDay_191 (by decide) ?_
                  exact hR13 (v8, v9, v24, M17) h _ _ _ hw (lv_sub hl [2, 3, 4, 5, 6, 7, 8, 0] rfl)
                · clear h; intro h
                  refine lv_iload hx hb dX4_bestDay_180 (lv_at hl 8 rfl) ?_
                  refine lv_istore (lv' := [(5, .int v10), (9, .int v19), (0, .ref (o.2.1 0 0)), (1, .int x1), (2, .ref (o.2.1 11 1)), (3, .int v4), (4, .int v6), (6, .int v9), (7, .int v10), (8, .int v18)]) hx hb dX4_bestDay_182 hl (by decide) rfl ?_
                  clear hl; clear ls; intro ls hl
                  refine lv_iload hx hb dX4_bestDay_184 (lv_at hl 9 rfl) ?_
                  refine lv_istore (lv' := [(6, .int v18), (5, .int v10), (9, .int v19), (0, .ref (o.2.1 0 0)), (1, .int x1), (2, .ref (o.2.1 11 1)), (3, .int v4), (4, .int v6), (7, .int v10), (8, .int v18)]) hx hb dX4_bestDay_186 hl (by decide) rfl ?_
                  clear hl; clear ls; intro ls hl
                  refine g_iinc (k := 8) (v := (v10 + (1 : Int32))) (lv' := fun v25 => [(7, .int v25), (6, .int v18), (5, .int v10), (9, .int v19), (0, .ref (o.2.1 0 0)), (1, .int x1), (2, .ref (o.2.1 11 1)), (3, .int v4), (4, .int v6), (8, .int v18)]) hx hb dX4_bestDay_188 hl rfl rfl (by decide) (fun _ => rfl) h ?_
                  clear h hl; clear ls; intro v25 ls h hl
                  refine lv_goto (tgt := 71) hx hb dX4_bestDay_191 (by decide) ?_
                  exact hR13 (v10, v18, v25, M17) h _ _ _ hw (lv_sub hl [4, 5, 6, 7, 8, 2, 1, 0] rfl)
        clear h; intro J20 hJ20 h
        refine g_icmp_ge (tgt := 151) hx hb h dX4_bestDay_144 (by decide) ?_ ?_
        · clear h; intro h
          refine lv_iconst (v := 0) hx hb dX4_bestDay_151 (by decide) ?_
          exact hJ20 (0 : Int32) h _ _ _ hw (lv_sub hl [1, 2, 3, 4, 5, 6, 7, 8, 0] rfl)
        · clear h; intro h
          refine lv_iconst (v := 1) hx hb dX4_bestDay_147 (by decide) ?_
          refine lv_goto (tgt := 152) hx hb dX4_bestDay_148 (by decide) ?_
          exact hJ20 (1 : Int32) h _ _ _ hw (lv_sub hl [1, 2, 3, 4, 5, 6, 7, 8, 0] rfl)
  · clear h; intro h
    refine lv_iconst (v := (-1)) hx hb dX4_bestDay_8 (by decide) ?_
    exact g_iret hx hb hr hlocks hw h dX4_bestDay_9
