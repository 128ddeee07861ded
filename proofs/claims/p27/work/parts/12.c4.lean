abbrev rm_X4_week : Room := { frames := 3, cells := 0, slots := 0, locals := 68 }
set_option maxHeartbeats 4000000 in
set_option maxRecDepth 100000 in
theorem c_X4_week {o : Om} {l : Launch} (hn : 115 ≤ o.2.2.2) {M : Mm} {x1 : Int32} {x2 : Int32} {Q : Int32 → Mm → Prop} (h : w_X4_week M x1 x2 Q) : CI o l yX4_week cX4_week 5 rm_X4_week [.ref (o.2.1 0 0), .int x1, .int x2] M Q := by
  refine g_start (by decide +kernel) (Nat.le_of_ble_eq_true rfl) ?_
  intro p e s m args below meth c hx hb hr hlocks hml hown hts hw ls hl
  replace hl : lv_has ls 5 [(0, .ref (o.2.1 0 0)), (1, .int x1), (2, .int x2)] := hl
  unfold w_X4_week at h
  refine lv_iload_n hx hb dX4_week_0 rfl (lv_at hl 1 rfl) ?_
  refine g_if_lt (tgt := 13) hx hb h dX4_week_1 (by decide) ?_ ?_
  · clear h; intro h
    refine lv_iconst (v := (-1)) hx hb dX4_week_13 (by decide) ?_
    exact g_iret hx hb hr hlocks hw h dX4_week_14
  · clear h; intro h
    refine lv_iload_n hx hb dX4_week_4 rfl (lv_at hl 2 rfl) ?_
    refine lv_iconst (v := 0) hx hb dX4_week_5 (by decide) ?_
    refine lv_iconst (v := 5) hx hb dX4_week_6 (by decide) ?_
    refine g_cz hw (g_runS (As := [.int x2, .int (0 : Int32), .int (5 : Int32)]) (rest := []) hx hb hml hown hts mX4_isWithin sX4_isWithin kX4_60 hw (c_X4_isWithin hn h) rfl rfl ⟨Nat.le_of_ble_eq_true rfl, Nat.le_of_ble_eq_true rfl⟩ rfl hl.1 rfl (Nat.le_of_ble_eq_true rfl) dX4_week_7 ⟨Nat.zero_le _, Nat.zero_le _⟩) ?_
    clear h hw; intro v2 M1 H locs hw hz_v2 h
    refine g_if_ne (tgt := 15) hx hb h dX4_week_10 (by decide) ?_ ?_
    · clear h; intro h
      refine lv_iload_n hx hb dX4_week_15 rfl (lv_at hl 1 rfl) ?_
      refine lv_aload_n hx hb dX4_week_16 rfl (lv_at hl 0 rfl) ?_
      refine g_getf hx hb hts in_X4 hown hw 0 0 (ci_0 (by decide)) (bi_0 (by decide) hn) rfl rfl 0 (by decide) kX4_10 rfl dX4_week_17 ?_
      refine g_getf hx hb hts in_X0 hown hw 5 0 (ci_5 (by decide)) (bi_5 (by decide) hn) rfl rfl 1 (by decide) kX4_57 rfl dX4_week_20 ?_
      refine g_icmp_lt (tgt := 29) hx hb h dX4_week_23 (by decide) ?_ ?_
      · clear h; intro h
        refine lv_aload_n hx hb dX4_week_29 rfl (lv_at hl 0 rfl) ?_
        refine g_getf hx hb hts in_X4 hown hw 0 0 (ci_0 (by decide)) (bi_0 (by decide) hn) rfl rfl 0 (by decide) kX4_10 rfl dX4_week_30 ?_
        refine lv_iload_n hx hb dX4_week_33 rfl (lv_at hl 1 rfl) ?_
        refine g_ci hw (g_runV (As := [.int x1]) (rest := []) hx hb hml hown hts mX0_firstOfWeek vX0_firstOfWeek kX4_70 hw 5 0 (ci_5 (by decide)) (bi_5 (by decide) hn) rfl rfl (c_X0_firstOfWeek hn (by decide) h) rfl rfl ⟨Nat.le_of_ble_eq_true rfl, Nat.le_of_ble_eq_true rfl⟩ rfl hl.1 rfl (Nat.le_of_ble_eq_true rfl) dX4_week_34 ⟨Nat.zero_le _, Nat.zero_le _⟩) ?_
        clear h hw; intro v4 M3 H locs hw h
        refine lv_istore_n (lv' := [(3, .int v4), (0, .ref (o.2.1 0 0)), (1, .int x1), (2, .int x2)]) hx hb dX4_week_37 rfl hl (by decide) rfl ?_
        clear hl; clear ls; intro ls hl
        refine lv_aload_n hx hb dX4_week_38 rfl (lv_at hl 1 rfl) ?_
        refine g_getf hx hb hts in_X4 hown hw 0 0 (ci_0 (by decide)) (bi_0 (by decide) hn) rfl rfl 0 (by decide) kX4_10 rfl dX4_week_39 ?_
        refine lv_iload_n hx hb dX4_week_42 rfl (lv_at hl 2 rfl) ?_
        refine g_ci hw (g_runV (As := [.int x1]) (rest := []) hx hb hml hown hts mX0_lastOfWeek vX0_lastOfWeek kX4_74 hw 5 0 (ci_5 (by decide)) (bi_5 (by decide) hn) rfl rfl (c_X0_lastOfWeek hn (by decide) h) rfl rfl ⟨Nat.le_of_ble_eq_true rfl, Nat.le_of_ble_eq_true rfl⟩ rfl hl.1 rfl (Nat.le_of_ble_eq_true rfl) dX4_week_43 ⟨Nat.zero_le _, Nat.zero_le _⟩) ?_
        clear h hw; intro v6 M5 H locs hw h
        refine lv_istore (lv' := [(4, .int v6), (3, .int v4), (0, .ref (o.2.1 0 0)), (1, .int x1), (2, .int x2)]) hx hb dX4_week_46 hl (by decide) rfl ?_
        clear hl; clear ls; intro ls hl
        refine lv_iload_n hx hb dX4_week_48 rfl (lv_at hl 4 rfl) ?_
        by_cases c0 : x2 = (0 : Int32)
        · rw [if_pos c0] at h
          refine lv_tableIn (tgt := 84) hx hb dX4_week_49 (by rw [c0]; decide) (by rw [c0]; decide) (by rw [c0]; rfl) (by decide) ?_
          clear c0
          refine lv_iload_n hx hb dX4_week_84 rfl (lv_at hl 1 rfl) ?_
          exact g_iret hx hb hr hlocks hw h dX4_week_85
        rw [if_neg c0] at h
        by_cases c1 : x2 = (1 : Int32)
        · rw [if_pos c1] at h
          refine lv_tableIn (tgt := 86) hx hb dX4_week_49 (by rw [c1]; decide) (by rw [c1]; decide) (by rw [c1]; rfl) (by decide) ?_
          clear c1
          refine lv_iload hx hb dX4_week_86 (lv_at hl 0 rfl) ?_
          exact g_iret hx hb hr hlocks hw h dX4_week_88
        rw [if_neg c1] at h
        by_cases c2 : x2 = (2 : Int32)
        · rw [if_pos c2] at h
          refine lv_tableIn (tgt := 89) hx hb dX4_week_49 (by rw [c2]; decide) (by rw [c2]; decide) (by rw [c2]; rfl) (by decide) ?_
          clear c2
          refine lv_aload_n hx hb dX4_week_89 rfl (lv_at hl 2 rfl) ?_
          refine g_getf hx hb hts in_X4 hown hw 0 0 (ci_0 (by decide)) (bi_0 (by decide) hn) rfl rfl 0 (by decide) kX4_10 rfl dX4_week_90 ?_
          refine lv_iload_n hx hb dX4_week_93 rfl (lv_at hl 3 rfl) ?_
          refine g_ci hw (g_runV (As := [.int x1]) (rest := []) hx hb hml hown hts mX0_barsInWeek vX0_barsInWeek kX4_77 hw 5 0 (ci_5 (by decide)) (bi_5 (by decide) hn) rfl rfl (c_X0_barsInWeek hn (by decide) h) rfl rfl ⟨Nat.le_of_ble_eq_true rfl, Nat.le_of_ble_eq_true rfl⟩ rfl hl.1 rfl (Nat.le_of_ble_eq_true rfl) dX4_week_94 ⟨Nat.zero_le _, Nat.zero_le _⟩) ?_
          clear h hw; intro v8 M7 H locs hw h
          exact g_iret hx hb hr hlocks hw h dX4_week_97
        rw [if_neg c2] at h
        by_cases c3 : x2 = (3 : Int32)
        · rw [if_pos c3] at h
          refine lv_tableIn (tgt := 98) hx hb dX4_week_49 (by rw [c3]; decide) (by rw [c3]; decide) (by rw [c3]; rfl) (by decide) ?_
          clear c3
          refine lv_aload_n hx hb dX4_week_98 rfl (lv_at hl 2 rfl) ?_
          refine g_getf hx hb hts in_X4 hown hw 0 0 (ci_0 (by decide)) (bi_0 (by decide) hn) rfl rfl 0 (by decide) kX4_10 rfl dX4_week_99 ?_
          refine lv_iload_n hx hb dX4_week_102 rfl (lv_at hl 3 rfl) ?_
          refine g_ci hw (g_runV (As := [.int x1]) (rest := []) hx hb hml hown hts mX0_lanesInWeek vX0_lanesInWeek kX4_80 hw 5 0 (ci_5 (by decide)) (bi_5 (by decide) hn) rfl rfl (c_X0_lanesInWeek hn (by decide) h) rfl rfl ⟨Nat.le_of_ble_eq_true rfl, Nat.le_of_ble_eq_true rfl⟩ rfl hl.1 rfl (Nat.le_of_ble_eq_true rfl) dX4_week_103 ⟨Nat.zero_le _, Nat.zero_le _⟩) ?_
          clear h hw; intro v10 M9 H locs hw h
          exact g_iret hx hb hr hlocks hw h dX4_week_106
        rw [if_neg c3] at h
        by_cases c4 : x2 = (4 : Int32)
        · rw [if_pos c4] at h
          refine lv_tableIn (tgt := 107) hx hb dX4_week_49 (by rw [c4]; decide) (by rw [c4]; decide) (by rw [c4]; rfl) (by decide) ?_
          clear c4
          refine lv_aload_n hx hb dX4_week_107 rfl (lv_at hl 2 rfl) ?_
          refine g_getf hx hb hts in_X4 hown hw 0 0 (ci_0 (by decide)) (bi_0 (by decide) hn) rfl rfl 0 (by decide) kX4_10 rfl dX4_week_108 ?_
          refine g_getf hx hb hts in_X0 hown hw 5 0 (ci_5 (by decide)) (bi_5 (by decide) hn) rfl rfl 0 (by decide) kX4_40 rfl dX4_week_111 ?_
          refine lv_iload_n hx hb dX4_week_114 rfl (lv_at hl 1 rfl) ?_
          refine lv_iload hx hb dX4_week_115 (lv_at hl 0 rfl) ?_
          refine g_ci hw (g_runV (As := [.int v4, .int v6]) (rest := []) hx hb hml hown hts mX2_shortOnes vX2_shortOnes kX4_83 hw 11 0 (ci_11 (by decide)) (bi_11 (by decide) hn) rfl rfl (c_X2_shortOnes hn (by decide) h) rfl rfl ⟨Nat.le_of_ble_eq_true rfl, Nat.le_of_ble_eq_true rfl⟩ rfl hl.1 rfl (Nat.le_of_ble_eq_true rfl) dX4_week_117 ⟨Nat.zero_le _, Nat.zero_le _⟩) ?_
          clear h hw; intro v12 M11 H locs hw h
          exact g_iret hx hb hr hlocks hw h dX4_week_120
        rw [if_neg c4] at h
        refine lv_tableOut (tgt := 121) hx hb dX4_week_49 (tbl_out (fun k h1 => by rcases (show k = 0 ∨ k = 1 ∨ k = 2 ∨ k = 3 ∨ k = 4 by omega) with rfl | rfl | rfl | rfl | rfl <;> assumption)) (by decide) ?_
        clear c0 c1 c2 c3 c4
        refine lv_aload_n hx hb dX4_week_121 rfl (lv_at hl 2 rfl) ?_
        refine g_getf hx hb hts in_X4 hown hw 0 0 (ci_0 (by decide)) (bi_0 (by decide) hn) rfl rfl 0 (by decide) kX4_10 rfl dX4_week_122 ?_
        refine lv_iload_n hx hb dX4_week_125 rfl (lv_at hl 1 rfl) ?_
        refine lv_iload hx hb dX4_week_126 (lv_at hl 0 rfl) ?_
        refine lv_aload_n hx hb dX4_week_128 rfl (lv_at hl 2 rfl) ?_
        refine g_getf hx hb hts in_X4 hown hw 0 0 (ci_0 (by decide)) (bi_0 (by decide) hn) rfl rfl 0 (by decide) kX4_10 rfl dX4_week_129 ?_
        refine g_getf hx hb hts in_X0 hown hw 5 0 (ci_5 (by decide)) (bi_5 (by decide) hn) rfl rfl 0 (by decide) kX4_40 rfl dX4_week_132 ?_
        refine g_getf hx hb hts in_X2 hown hw 11 0 (ci_11 (by decide)) (bi_11 (by decide) hn) rfl rfl 3 (by decide) kX4_67 rfl dX4_week_135 ?_
        refine g_ci hw (g_runV (As := [.int v4, .int v6, .int (M5 11 0 3)]) (rest := []) hx hb hml hown hts mX0_hiddenOnDays vX0_hiddenOnDays kX4_87 hw 5 0 (ci_5 (by decide)) (bi_5 (by decide) hn) rfl rfl (c_X0_hiddenOnDays hn (by decide) h) rfl rfl ⟨Nat.le_of_ble_eq_true rfl, Nat.le_of_ble_eq_true rfl⟩ rfl hl.1 rfl (Nat.le_of_ble_eq_true rfl) dX4_week_138 ⟨Nat.zero_le _, Nat.zero_le _⟩) ?_
        clear h hw; intro v14 M13 H locs hw h
        exact g_iret hx hb hr hlocks hw h dX4_week_141
      · clear h; intro h
        refine lv_bipush (v := (-9)) hx hb dX4_week_26 (by decide) ?_
        exact g_iret hx hb hr hlocks hw h dX4_week_28
    · clear h; intro h
      refine lv_iconst (v := (-1)) hx hb dX4_week_13 (by decide) ?_
      exact g_iret hx hb hr hlocks hw h dX4_week_14
abbrev rm_X4_isTime : Room := { frames := 1, cells := 0, slots := 0, locals := 22 }
set_option maxHeartbeats 4000000 in
set_option maxRecDepth 100000 in
theorem c_X4_isTime {o : Om} {l : Launch} (hn : 115 ≤ o.2.2.2) {M : Mm} {x0 : Int32} {Q : Int32 → Mm → Prop} (h : w_X4_isTime M x0 Q) : CZ o l yX4_isTime cX4_isTime 1 rm_X4_isTime [.int x0] M Q := by
  refine g_start (by decide +kernel) (Nat.le_of_ble_eq_true rfl) ?_
  intro p e s m args below meth c hx hb hr hlocks hml hown hts hw ls hl
  replace hl : lv_has ls 1 [(0, .int x0)] := hl
  unfold w_X4_isTime at h
  refine lv_iload_n hx hb dX4_isTime_0 rfl (lv_at hl 0 rfl) ?_
  refine lv_bipush (v := (-9)) hx hb dX4_isTime_1 (by decide) ?_
  refine g_icmp_eq (tgt := 17) hx hb h dX4_isTime_3 (by decide) ?_ ?_
  · clear h; intro h
    refine lv_iconst (v := 1) hx hb dX4_isTime_17 (by decide) ?_
    refine lv_goto (tgt := 22) hx hb dX4_isTime_18 (by decide) ?_
    exact g_zret hx hb hr hlocks hw (Or.inr rfl) h dX4_isTime_22
  · clear h; intro h
    refine lv_iload_n hx hb dX4_isTime_6 rfl (lv_at hl 0 rfl) ?_
    refine lv_iconst (v := 0) hx hb dX4_isTime_7 (by decide) ?_
    refine lv_sipush (v := 1439) hx hb dX4_isTime_8 (by decide) ?_
    refine g_cz hw (g_runS (As := [.int x0, .int (0 : Int32), .int (1439 : Int32)]) (rest := []) hx hb hml hown hts mX4_isWithin sX4_isWithin kX4_60 hw (c_X4_isWithin hn h) rfl rfl ⟨Nat.le_of_ble_eq_true rfl, Nat.le_of_ble_eq_true rfl⟩ rfl hl.1 rfl (Nat.le_of_ble_eq_true rfl) dX4_isTime_11 ⟨Nat.zero_le _, Nat.zero_le _⟩) ?_
    clear h hw; intro v2 M1 H locs hw hz_v2 h
    refine g_if_eq (tgt := 21) hx hb h dX4_isTime_14 (by decide) ?_ ?_
    · clear h; intro h
      refine lv_iconst (v := 0) hx hb dX4_isTime_21 (by decide) ?_
      exact g_zret hx hb hr hlocks hw (Or.inl rfl) h dX4_isTime_22
    · clear h; intro h
      refine lv_iconst (v := 1) hx hb dX4_isTime_17 (by decide) ?_
      refine lv_goto (tgt := 22) hx hb dX4_isTime_18 (by decide) ?_
      exact g_zret hx hb hr hlocks hw (Or.inr rfl) h dX4_isTime_22
abbrev rm_X4_isRank : Room := { frames := 1, cells := 0, slots := 0, locals := 22 }
set_option maxHeartbeats 4000000 in
set_option maxRecDepth 100000 in
theorem c_X4_isRank {o : Om} {l : Launch} (hn : 115 ≤ o.2.2.2) {M : Mm} {x0 : Int32} {Q : Int32 → Mm → Prop} (h : w_X4_isRank M x0 Q) : CZ o l yX4_isRank cX4_isRank 1 rm_X4_isRank [.int x0] M Q := by
  refine g_start (by decide +kernel) (Nat.le_of_ble_eq_true rfl) ?_
  intro p e s m args below meth c hx hb hr hlocks hml hown hts hw ls hl
  replace hl : lv_has ls 1 [(0, .int x0)] := hl
  unfold w_X4_isRank at h
  refine lv_iload_n hx hb dX4_isRank_0 rfl (lv_at hl 0 rfl) ?_
  refine lv_iconst (v := 0) hx hb dX4_isRank_1 (by decide) ?_
  refine lv_bipush (v := 9) hx hb dX4_isRank_2 (by decide) ?_
  refine g_cz hw (g_runS (As := [.int x0, .int (0 : Int32), .int (9 : Int32)]) (rest := []) hx hb hml hown hts mX4_isWithin sX4_isWithin kX4_60 hw (c_X4_isWithin hn h) rfl rfl ⟨Nat.le_of_ble_eq_true rfl, Nat.le_of_ble_eq_true rfl⟩ rfl hl.1 rfl (Nat.le_of_ble_eq_true rfl) dX4_isRank_4 ⟨Nat.zero_le _, Nat.zero_le _⟩) ?_
  clear h hw; intro v2 M1 H locs hw hz_v2 h
  exact g_zret hx hb hr hlocks hw hz_v2 h dX4_isRank_7
abbrev rm_X4_add : Room := { frames := 4, cells := 0, slots := 0, locals := 91 }
set_option maxHeartbeats 4000000 in
set_option maxRecDepth 100000 in
theorem c_X4_add {o : Om} {l : Launch} (hn : 115 ≤ o.2.2.2) {M : Mm} {x1 : Int32} {x2 : Int32} {x3 : Int32} {x4 : Int32} {Q : Int32 → Mm → Prop} (h : w_X4_add M x1 x2 x3 x4 Q) : CI o l yX4_add cX4_add 5 rm_X4_add [.ref (o.2.1 0 0), .int x1, .int x2, .int x3, .int x4] M Q := by
  refine g_start (by decide +kernel) (Nat.le_of_ble_eq_true rfl) ?_
  intro p e s m args below meth c hx hb hr hlocks hml hown hts hw ls hl
  replace hl : lv_has ls 5 [(0, .ref (o.2.1 0 0)), (1, .int x1), (2, .int x2), (3, .int x3), (4, .int x4)] := hl
  unfold w_X4_add at h
  refine lv_iload_n hx hb dX4_add_0 rfl (lv_at hl 1 rfl) ?_
  refine g_cz hw (g_runS (As := [.int x1]) (rest := []) hx hb hml hown hts mX4_isDay sX4_isDay kX4_36 hw (c_X4_isDay hn h) rfl rfl ⟨Nat.le_of_ble_eq_true rfl, Nat.le_of_ble_eq_true rfl⟩ rfl hl.1 rfl (Nat.le_of_ble_eq_true rfl) dX4_add_1 ⟨Nat.zero_le _, Nat.zero_le _⟩) ?_
  clear h hw; intro v2 M1 H locs hw hz_v2 h
  refine g_if_eq (tgt := 34) hx hb h dX4_add_4 (by decide) ?_ ?_
  · clear h; intro h
    refine lv_iconst (v := (-1)) hx hb dX4_add_34 (by decide) ?_
    exact g_iret hx hb hr hlocks hw h dX4_add_35
  · clear h; intro h
    refine lv_iload_n hx hb dX4_add_7 rfl (lv_at hl 2 rfl) ?_
    refine g_cz hw (g_runS (As := [.int x2]) (rest := []) hx hb hml hown hts mX4_isDay sX4_isDay kX4_36 hw (c_X4_isDay hn h) rfl rfl ⟨Nat.le_of_ble_eq_true rfl, Nat.le_of_ble_eq_true rfl⟩ rfl hl.1 rfl (Nat.le_of_ble_eq_true rfl) dX4_add_8 ⟨Nat.zero_le _, Nat.zero_le _⟩) ?_
    clear h hw; intro v4 M3 H locs hw hz_v4 h
    refine g_if_eq (tgt := 34) hx hb h dX4_add_11 (by decide) ?_ ?_
    · clear h; intro h
      refine lv_iconst (v := (-1)) hx hb dX4_add_34 (by decide) ?_
      exact g_iret hx hb hr hlocks hw h dX4_add_35
    · clear h; intro h
      refine lv_iload_n hx hb dX4_add_14 rfl (lv_at hl 2 rfl) ?_
      refine lv_iload_n hx hb dX4_add_15 rfl (lv_at hl 1 rfl) ?_
      refine g_icmp_lt (tgt := 34) hx hb h dX4_add_16 (by decide) ?_ ?_
      · clear h; intro h
        refine lv_iconst (v := (-1)) hx hb dX4_add_34 (by decide) ?_
        exact g_iret hx hb hr hlocks hw h dX4_add_35
      · clear h; intro h
        refine lv_iload_n hx hb dX4_add_19 rfl (lv_at hl 3 rfl) ?_
        refine g_cz hw (g_runS (As := [.int x3]) (rest := []) hx hb hml hown hts mX4_isTime sX4_isTime kX4_108 hw (c_X4_isTime hn h) rfl rfl ⟨Nat.le_of_ble_eq_true rfl, Nat.le_of_ble_eq_true rfl⟩ rfl hl.1 rfl (Nat.le_of_ble_eq_true rfl) dX4_add_20 ⟨Nat.zero_le _, Nat.zero_le _⟩) ?_
        clear h hw; intro v6 M5 H locs hw hz_v6 h
        refine g_if_eq (tgt := 34) hx hb h dX4_add_23 (by decide) ?_ ?_
        · clear h; intro h
          refine lv_iconst (v := (-1)) hx hb dX4_add_34 (by decide) ?_
          exact g_iret hx hb hr hlocks hw h dX4_add_35
        · clear h; intro h
          refine lv_iload hx hb dX4_add_26 (lv_at hl 4 rfl) ?_
          refine g_cz hw (g_runS (As := [.int x4]) (rest := []) hx hb hml hown hts mX4_isRank sX4_isRank kX4_111 hw (c_X4_isRank hn h) rfl rfl ⟨Nat.le_of_ble_eq_true rfl, Nat.le_of_ble_eq_true rfl⟩ rfl hl.1 rfl (Nat.le_of_ble_eq_true rfl) dX4_add_28 ⟨Nat.zero_le _, Nat.zero_le _⟩) ?_
          clear h hw; intro v8 M7 H locs hw hz_v8 h
          refine g_if_ne (tgt := 36) hx hb h dX4_add_31 (by decide) ?_ ?_
          · clear h; intro h
            refine lv_aload_n hx hb dX4_add_36 rfl (lv_at hl 0 rfl) ?_
            refine g_getf hx hb hts in_X4 hown hw 0 0 (ci_0 (by decide)) (bi_0 (by decide) hn) rfl rfl 0 (by decide) kX4_10 rfl dX4_add_37 ?_
            refine g_getf hx hb hts in_X0 hown hw 5 0 (ci_5 (by decide)) (bi_5 (by decide) hn) rfl rfl 0 (by decide) kX4_40 rfl dX4_add_40 ?_
            refine g_getf hx hb hts in_X2 hown hw 11 0 (ci_11 (by decide)) (bi_11 (by decide) hn) rfl rfl 4 (by decide) kX4_105 rfl dX4_add_43 ?_
            refine lv_bipush (v := 24) hx hb dX4_add_46 (by decide) ?_
            refine g_icmp_lt (tgt := 54) hx hb h dX4_add_48 (by decide) ?_ ?_
            · clear h; intro h
              refine lv_aload_n hx hb dX4_add_54 rfl (lv_at hl 0 rfl) ?_
              refine g_getf hx hb hts in_X4 hown hw 0 0 (ci_0 (by decide)) (bi_0 (by decide) hn) rfl rfl 2 (by decide) kX4_22 rfl dX4_add_55 ?_
              refine lv_aload_n hx hb dX4_add_58 rfl (lv_at hl 0 rfl) ?_
              refine g_getf hx hb hts in_X4 hown hw 0 0 (ci_0 (by decide)) (bi_0 (by decide) hn) rfl rfl 0 (by decide) kX4_10 rfl dX4_add_59 ?_
              refine g_getf hx hb hts in_X0 hown hw 5 0 (ci_5 (by decide)) (bi_5 (by decide) hn) rfl rfl 0 (by decide) kX4_40 rfl dX4_add_62 ?_
              refine g_cv hw (g_runV (As := [.ref (o.2.1 11 0)]) (rest := []) hx hb hml hown hts mX1_record vX1_record kX4_44 hw 1 0 (ci_1 (by decide)) (bi_1 (by decide) hn) rfl rfl (c_X1_record hn (by decide) h) rfl rfl ⟨Nat.le_of_ble_eq_true rfl, Nat.le_of_ble_eq_true rfl⟩ rfl hl.1 rfl (Nat.le_of_ble_eq_true rfl) dX4_add_65 ⟨Nat.zero_le _, Nat.zero_le _⟩) ?_
              clear h hw; intro M9 H locs hw h
              refine lv_aload_n hx hb dX4_add_68 rfl (lv_at hl 0 rfl) ?_
              refine g_getf hx hb hts in_X4 hown hw 0 0 (ci_0 (by decide)) (bi_0 (by decide) hn) rfl rfl 0 (by decide) kX4_10 rfl dX4_add_69 ?_
              refine g_getf hx hb hts in_X0 hown hw 5 0 (ci_5 (by decide)) (bi_5 (by decide) hn) rfl rfl 0 (by decide) kX4_40 rfl dX4_add_72 ?_
              refine lv_iload_n hx hb dX4_add_75 rfl (lv_at hl 1 rfl) ?_
              refine lv_iload_n hx hb dX4_add_76 rfl (lv_at hl 2 rfl) ?_
              refine lv_iload_n hx hb dX4_add_77 rfl (lv_at hl 3 rfl) ?_
              refine lv_iload hx hb dX4_add_78 (lv_at hl 4 rfl) ?_
              refine g_cv hw (g_runV (As := [.int x1, .int x2, .int x3, .int x4]) (rest := []) hx hb hml hown hts mX2_append vX2_append kX4_114 hw 11 0 (ci_11 (by decide)) (bi_11 (by decide) hn) rfl rfl (c_X2_append hn (by decide) h) rfl rfl ⟨Nat.le_of_ble_eq_true rfl, Nat.le_of_ble_eq_true rfl⟩ rfl hl.1 rfl (Nat.le_of_ble_eq_true rfl) dX4_add_80 ⟨Nat.zero_le _, Nat.zero_le _⟩) ?_
              clear h hw; intro M10 H locs hw h
              refine lv_aload_n hx hb dX4_add_83 rfl (lv_at hl 0 rfl) ?_
              refine g_getf hx hb hts in_X4 hown hw 0 0 (ci_0 (by decide)) (bi_0 (by decide) hn) rfl rfl 0 (by decide) kX4_10 rfl dX4_add_84 ?_
              refine g_cv hw (g_runV (As := []) (rest := []) hx hb hml hown hts mX0_lay vX0_lay kX4_33 hw 5 0 (ci_5 (by decide)) (bi_5 (by decide) hn) rfl rfl (c_X0_lay hn (by decide) h) rfl rfl ⟨Nat.le_of_ble_eq_true rfl, Nat.le_of_ble_eq_true rfl⟩ rfl hl.1 rfl (Nat.le_of_ble_eq_true rfl) dX4_add_87 ⟨Nat.zero_le _, Nat.zero_le _⟩) ?_
              clear h hw; intro M11 H locs hw h
              refine lv_aload_n hx hb dX4_add_90 rfl (lv_at hl 0 rfl) ?_
              refine g_getf hx hb hts in_X4 hown hw 0 0 (ci_0 (by decide)) (bi_0 (by decide) hn) rfl rfl 0 (by decide) kX4_10 rfl dX4_add_91 ?_
              refine g_getf hx hb hts in_X0 hown hw 5 0 (ci_5 (by decide)) (bi_5 (by decide) hn) rfl rfl 0 (by decide) kX4_40 rfl dX4_add_94 ?_
              refine g_getf hx hb hts in_X2 hown hw 11 0 (ci_11 (by decide)) (bi_11 (by decide) hn) rfl rfl 4 (by decide) kX4_105 rfl dX4_add_97 ?_
              refine lv_iconst (v := 1) hx hb dX4_add_100 (by decide) ?_
              refine lv_isub hx hb dX4_add_101 ?_
              exact g_iret hx hb hr hlocks hw h dX4_add_102
            · clear h; intro h
              refine lv_bipush (v := (-3)) hx hb dX4_add_51 (by decide) ?_
              exact g_iret hx hb hr hlocks hw h dX4_add_53
          · clear h; intro h
            refine lv_iconst (v := (-1)) hx hb dX4_add_34 (by decide) ?_
            exact g_iret hx hb hr hlocks hw h dX4_add_35
abbrev rm_X4_isEntry : Room := { frames := 1, cells := 0, slots := 0, locals := 22 }
set_option maxHeartbeats 4000000 in
set_option maxRecDepth 100000 in
theorem c_X4_isEntry {o : Om} {l : Launch} (hn : 115 ≤ o.2.2.2) {M : Mm} {x1 : Int32} {Q : Int32 → Mm → Prop} (h : w_X4_isEntry M x1 Q) : CZ o l yX4_isEntry cX4_isEntry 2 rm_X4_isEntry [.ref (o.2.1 0 0), .int x1] M Q := by
  refine g_start (by decide +kernel) (Nat.le_of_ble_eq_true rfl) ?_
  intro p e s m args below meth c hx hb hr hlocks hml hown hts hw ls hl
  replace hl : lv_has ls 2 [(0, .ref (o.2.1 0 0)), (1, .int x1)] := hl
  unfold w_X4_isEntry at h
  refine lv_iload_n hx hb dX4_isEntry_0 rfl (lv_at hl 1 rfl) ?_
  refine lv_iconst (v := 0) hx hb dX4_isEntry_1 (by decide) ?_
  refine lv_aload_n hx hb dX4_isEntry_2 rfl (lv_at hl 0 rfl) ?_
  refine g_getf hx hb hts in_X4 hown hw 0 0 (ci_0 (by decide)) (bi_0 (by decide) hn) rfl rfl 0 (by decide) kX4_10 rfl dX4_isEntry_3 ?_
  refine g_getf hx hb hts in_X0 hown hw 5 0 (ci_5 (by decide)) (bi_5 (by decide) hn) rfl rfl 0 (by decide) kX4_40 rfl dX4_isEntry_6 ?_
  refine g_getf hx hb hts in_X2 hown hw 11 0 (ci_11 (by decide)) (bi_11 (by decide) hn) rfl rfl 4 (by decide) kX4_105 rfl dX4_isEntry_9 ?_
  refine lv_iconst (v := 1) hx hb dX4_isEntry_12 (by decide) ?_
  refine lv_isub hx hb dX4_isEntry_13 ?_
  refine g_cz hw (g_runS (As := [.int x1, .int (0 : Int32), .int ((M 11 0 4) - (1 : Int32))]) (rest := []) hx hb hml hown hts mX4_isWithin sX4_isWithin kX4_60 hw (c_X4_isWithin hn h) rfl rfl ⟨Nat.le_of_ble_eq_true rfl, Nat.le_of_ble_eq_true rfl⟩ rfl hl.1 rfl (Nat.le_of_ble_eq_true rfl) dX4_isEntry_14 ⟨Nat.zero_le _, Nat.zero_le _⟩) ?_
  clear h hw; intro v2 M1 H locs hw hz_v2 h
  exact g_zret hx hb hr hlocks hw hz_v2 h dX4_isEntry_17
abbrev rm_X4_move : Room := { frames := 4, cells := 0, slots := 0, locals := 91 }
set_option maxHeartbeats 4000000 in
set_option maxRecDepth 100000 in
theorem c_X4_move {o : Om} {l : Launch} (hn : 115 ≤ o.2.2.2) {M : Mm} {x1 : Int32} {x2 : Int32} {Q : Int32 → Mm → Prop} (h : w_X4_move M x1 x2 Q) : CI o l yX4_move cX4_move 5 rm_X4_move [.ref (o.2.1 0 0), .int x1, .int x2] M Q := by
  refine g_start (by decide +kernel) (Nat.le_of_ble_eq_true rfl) ?_
  intro p e s m args below meth c hx hb hr hlocks hml hown hts hw ls hl
  replace hl : lv_has ls 5 [(0, .ref (o.2.1 0 0)), (1, .int x1), (2, .int x2)] := hl
  unfold w_X4_move at h
  refine lv_aload_n hx hb dX4_move_0 rfl (lv_at hl 0 rfl) ?_
  refine lv_iload_n hx hb dX4_move_1 rfl (lv_at hl 1 rfl) ?_
  refine g_cz hw (g_runV (As := [.int x1]) (rest := []) hx hb hml hown hts mX4_isEntry vX4_isEntry kX4_117 hw 0 0 (ci_0 (by decide)) (bi_0 (by decide) hn) rfl rfl (c_X4_isEntry hn h) rfl rfl ⟨Nat.le_of_ble_eq_true rfl, Nat.le_of_ble_eq_true rfl⟩ rfl hl.1 rfl (Nat.le_of_ble_eq_true rfl) dX4_move_2 ⟨Nat.zero_le _, Nat.zero_le _⟩) ?_
  clear h hw; intro v2 M1 H locs hw hz_v2 h
  refine g_if_eq (tgt := 21) hx hb h dX4_move_5 (by decide) ?_ ?_
  · clear h; intro h
    refine lv_iconst (v := (-1)) hx hb dX4_move_21 (by decide) ?_
    exact g_iret hx hb hr hlocks hw h dX4_move_22
  · clear h; intro h
    refine lv_iload_n hx hb dX4_move_8 rfl (lv_at hl 2 rfl) ?_
    refine lv_sipush (v := (-999)) hx hb dX4_move_9 (by decide) ?_
    refine lv_sipush (v := 999) hx hb dX4_move_12 (by decide) ?_
    refine g_cz hw (g_runS (As := [.int x2, .int (-999 : Int32), .int (999 : Int32)]) (rest := []) hx hb hml hown hts mX4_isWithin sX4_isWithin kX4_60 hw (c_X4_isWithin hn h) rfl rfl ⟨Nat.le_of_ble_eq_true rfl, Nat.le_of_ble_eq_true rfl⟩ rfl hl.1 rfl (Nat.le_of_ble_eq_true rfl) dX4_move_15 ⟨Nat.zero_le _, Nat.zero_le _⟩) ?_
    clear h hw; intro v4 M3 H locs hw hz_v4 h
    refine g_if_ne (tgt := 23) hx hb h dX4_move_18 (by decide) ?_ ?_
    · clear h; intro h
      refine lv_aload_n hx hb dX4_move_23 rfl (lv_at hl 0 rfl) ?_
      refine g_getf hx hb hts in_X4 hown hw 0 0 (ci_0 (by decide)) (bi_0 (by decide) hn) rfl rfl 0 (by decide) kX4_10 rfl dX4_move_24 ?_
      refine g_getf hx hb hts in_X0 hown hw 5 0 (ci_5 (by decide)) (bi_5 (by decide) hn) rfl rfl 0 (by decide) kX4_40 rfl dX4_move_27 ?_
      refine g_getf hx hb hts in_X2 hown hw 11 0 (ci_11 (by decide)) (bi_11 (by decide) hn) rfl rfl 5 (by decide) kX4_123 rfl dX4_move_30 ?_
      refine lv_iload_n hx hb dX4_move_33 rfl (lv_at hl 1 rfl) ?_
      refine g_iald hx hb hw 13 0 (ci_13 (by decide)) (bi_13 (by decide) hn) rfl h dX4_move_34 ?_
      clear h; intro v5 h
      refine lv_iload_n hx hb dX4_move_35 rfl (lv_at hl 2 rfl) ?_
      refine lv_iadd hx hb dX4_move_36 ?_
      refine g_topi h ?_
      clear h; intro v6 h
      refine lv_istore_n (lv' := [(3, .int v6), (0, .ref (o.2.1 0 0)), (1, .int x1), (2, .int x2)]) hx hb dX4_move_37 rfl hl (by decide) rfl ?_
      clear hl; clear ls; intro ls hl
      refine lv_aload_n hx hb dX4_move_38 rfl (lv_at hl 1 rfl) ?_
      refine g_getf hx hb hts in_X4 hown hw 0 0 (ci_0 (by decide)) (bi_0 (by decide) hn) rfl rfl 0 (by decide) kX4_10 rfl dX4_move_39 ?_
      refine g_getf hx hb hts in_X0 hown hw 5 0 (ci_5 (by decide)) (bi_5 (by decide) hn) rfl rfl 0 (by decide) kX4_40 rfl dX4_move_42 ?_
      refine g_getf hx hb hts in_X2 hown hw 11 0 (ci_11 (by decide)) (bi_11 (by decide) hn) rfl rfl 6 (by decide) kX4_127 rfl dX4_move_45 ?_
      refine lv_iload_n hx hb dX4_move_48 rfl (lv_at hl 2 rfl) ?_
      refine g_iald hx hb hw 14 0 (ci_14 (by decide)) (bi_14 (by decide) hn) rfl h dX4_move_49 ?_
      clear h; intro v7 h
      refine lv_iload_n hx hb dX4_move_50 rfl (lv_at hl 3 rfl) ?_
      refine lv_iadd hx hb dX4_move_51 ?_
      refine g_topi h ?_
      clear h; intro v8 h
      refine lv_istore (lv' := [(4, .int v8), (3, .int v6), (0, .ref (o.2.1 0 0)), (1, .int x1), (2, .int x2)]) hx hb dX4_move_52 hl (by decide) rfl ?_
      clear hl; clear ls; intro ls hl
      refine lv_iload_n hx hb dX4_move_54 rfl (lv_at hl 1 rfl) ?_
      refine g_cz hw (g_runS (As := [.int v6]) (rest := []) hx hb hml hown hts mX4_isDay sX4_isDay kX4_36 hw (c_X4_isDay hn h) rfl rfl ⟨Nat.le_of_ble_eq_true rfl, Nat.le_of_ble_eq_true rfl⟩ rfl hl.1 rfl (Nat.le_of_ble_eq_true rfl) dX4_move_55 ⟨Nat.zero_le _, Nat.zero_le _⟩) ?_
      clear h hw; intro v10 M9 H locs hw hz_v10 h
      refine g_if_eq (tgt := 69) hx hb h dX4_move_58 (by decide) ?_ ?_
      · clear h; intro h
        refine lv_bipush (v := (-2)) hx hb dX4_move_69 (by decide) ?_
        exact g_iret hx hb hr hlocks hw h dX4_move_71
      · clear h; intro h
        refine lv_iload hx hb dX4_move_61 (lv_at hl 0 rfl) ?_
        refine g_cz hw (g_runS (As := [.int v8]) (rest := []) hx hb hml hown hts mX4_isDay sX4_isDay kX4_36 hw (c_X4_isDay hn h) rfl rfl ⟨Nat.le_of_ble_eq_true rfl, Nat.le_of_ble_eq_true rfl⟩ rfl hl.1 rfl (Nat.le_of_ble_eq_true rfl) dX4_move_63 ⟨Nat.zero_le _, Nat.zero_le _⟩) ?_
        clear h hw; intro v12 M11 H locs hw hz_v12 h
        refine g_if_ne (tgt := 72) hx hb h dX4_move_66 (by decide) ?_ ?_
        · clear h; intro h
          refine lv_aload_n hx hb dX4_move_72 rfl (lv_at hl 2 rfl) ?_
          refine g_getf hx hb hts in_X4 hown hw 0 0 (ci_0 (by decide)) (bi_0 (by decide) hn) rfl rfl 2 (by decide) kX4_22 rfl dX4_move_73 ?_
          refine lv_aload_n hx hb dX4_move_76 rfl (lv_at hl 2 rfl) ?_
          refine g_getf hx hb hts in_X4 hown hw 0 0 (ci_0 (by decide)) (bi_0 (by decide) hn) rfl rfl 0 (by decide) kX4_10 rfl dX4_move_77 ?_
          refine g_getf hx hb hts in_X0 hown hw 5 0 (ci_5 (by decide)) (bi_5 (by decide) hn) rfl rfl 0 (by decide) kX4_40 rfl dX4_move_80 ?_
          refine g_cv hw (g_runV (As := [.ref (o.2.1 11 0)]) (rest := []) hx hb hml hown hts mX1_record vX1_record kX4_44 hw 1 0 (ci_1 (by decide)) (bi_1 (by decide) hn) rfl rfl (c_X1_record hn (by decide) h) rfl rfl ⟨Nat.le_of_ble_eq_true rfl, Nat.le_of_ble_eq_true rfl⟩ rfl hl.1 rfl (Nat.le_of_ble_eq_true rfl) dX4_move_83 ⟨Nat.zero_le _, Nat.zero_le _⟩) ?_
          clear h hw; intro M13 H locs hw h
          refine lv_aload_n hx hb dX4_move_86 rfl (lv_at hl 2 rfl) ?_
          refine g_getf hx hb hts in_X4 hown hw 0 0 (ci_0 (by decide)) (bi_0 (by decide) hn) rfl rfl 0 (by decide) kX4_10 rfl dX4_move_87 ?_
          refine g_getf hx hb hts in_X0 hown hw 5 0 (ci_5 (by decide)) (bi_5 (by decide) hn) rfl rfl 0 (by decide) kX4_40 rfl dX4_move_90 ?_
          refine g_getf hx hb hts in_X2 hown hw 11 0 (ci_11 (by decide)) (bi_11 (by decide) hn) rfl rfl 5 (by decide) kX4_123 rfl dX4_move_93 ?_
          refine lv_iload_n hx hb dX4_move_96 rfl (lv_at hl 3 rfl) ?_
          refine lv_iload_n hx hb dX4_move_97 rfl (lv_at hl 1 rfl) ?_
          refine g_iast hx hb hw 13 0 (ci_13 (by decide)) (bi_13 (by decide) hn) (fun _ => rfl) h dX4_move_98 ?_
          clear h hw; intro M14 H locs hw h
          refine lv_aload_n hx hb dX4_move_99 rfl (lv_at hl 2 rfl) ?_
          refine g_getf hx hb hts in_X4 hown hw 0 0 (ci_0 (by decide)) (bi_0 (by decide) hn) rfl rfl 0 (by decide) kX4_10 rfl dX4_move_100 ?_
          refine g_getf hx hb hts in_X0 hown hw 5 0 (ci_5 (by decide)) (bi_5 (by decide) hn) rfl rfl 0 (by decide) kX4_40 rfl dX4_move_103 ?_
          refine g_getf hx hb hts in_X2 hown hw 11 0 (ci_11 (by decide)) (bi_11 (by decide) hn) rfl rfl 6 (by decide) kX4_127 rfl dX4_move_106 ?_
          refine lv_iload_n hx hb dX4_move_109 rfl (lv_at hl 3 rfl) ?_
          refine lv_iload hx hb dX4_move_110 (lv_at hl 0 rfl) ?_
          refine g_iast hx hb hw 14 0 (ci_14 (by decide)) (bi_14 (by decide) hn) (fun _ => rfl) h dX4_move_112 ?_
          clear h hw; intro M15 H locs hw h
          refine lv_aload_n hx hb dX4_move_113 rfl (lv_at hl 2 rfl) ?_
          refine g_getf hx hb hts in_X4 hown hw 0 0 (ci_0 (by decide)) (bi_0 (by decide) hn) rfl rfl 0 (by decide) kX4_10 rfl dX4_move_114 ?_
          refine g_cv hw (g_runV (As := []) (rest := []) hx hb hml hown hts mX0_lay vX0_lay kX4_33 hw 5 0 (ci_5 (by decide)) (bi_5 (by decide) hn) rfl rfl (c_X0_lay hn (by decide) h) rfl rfl ⟨Nat.le_of_ble_eq_true rfl, Nat.le_of_ble_eq_true rfl⟩ rfl hl.1 rfl (Nat.le_of_ble_eq_true rfl) dX4_move_117 ⟨Nat.zero_le _, Nat.zero_le _⟩) ?_
          clear h hw; intro M16 H locs hw h
          refine lv_iload_n hx hb dX4_move_120 rfl (lv_at hl 1 rfl) ?_
          exact g_iret hx hb hr hlocks hw h dX4_move_121
        · clear h; intro h
          refine lv_bipush (v := (-2)) hx hb dX4_move_69 (by decide) ?_
          exact g_iret hx hb hr hlocks hw h dX4_move_71
    · clear h; intro h
      refine lv_iconst (v := (-1)) hx hb dX4_move_21 (by decide) ?_
      exact g_iret hx hb hr hlocks hw h dX4_move_22
abbrev rm_X4_asNumber : Room := { frames := 0, cells := 0, slots := 0, locals := 0 }
set_option maxHeartbeats 4000000 in
set_option maxRecDepth 100000 in
theorem c_X4_asNumber {o : Om} {l : Launch} (hn : 115 ≤ o.2.2.2) {M : Mm} {x0 : Int32} {Q : Int32 → Mm → Prop} (h : w_X4_asNumber M x0 Q) : CI o l yX4_asNumber cX4_asNumber 1 rm_X4_asNumber [.int x0] M Q := by
  refine g_start (by decide +kernel) (Nat.le_of_ble_eq_true rfl) ?_
  intro p e s m args below meth c hx hb hr hlocks hml hown hts hw ls hl
  replace hl : lv_has ls 1 [(0, .int x0)] := hl
  unfold w_X4_asNumber at h
  refine lv_iload_n hx hb dX4_asNumber_0 rfl (lv_at hl 0 rfl) ?_
  refine g_if_eq (tgt := 8) hx hb h dX4_asNumber_1 (by decide) ?_ ?_
  · clear h; intro h
    refine lv_iconst (v := 0) hx hb dX4_asNumber_8 (by decide) ?_
    exact g_iret hx hb hr hlocks hw h dX4_asNumber_9
  · clear h; intro h
    refine lv_iconst (v := 1) hx hb dX4_asNumber_4 (by decide) ?_
    refine lv_goto (tgt := 9) hx hb dX4_asNumber_5 (by decide) ?_
    exact g_iret hx hb hr hlocks hw h dX4_asNumber_9
abbrev rm_X4_entry : Room := { frames := 3, cells := 0, slots := 0, locals := 68 }
set_option maxHeartbeats 4000000 in
set_option maxRecDepth 100000 in
theorem c_X4_entry {o : Om} {l : Launch} (hn : 115 ≤ o.2.2.2) {M : Mm} {x1 : Int32} {x2 : Int32} {Q : Int32 → Mm → Prop} (h : w_X4_entry M x1 x2 Q) : CI o l yX4_entry cX4_entry 3 rm_X4_entry [.ref (o.2.1 0 0), .int x1, .int x2] M Q := by
  refine g_start (by decide +kernel) (Nat.le_of_ble_eq_true rfl) ?_
  intro p e s m args below meth c hx hb hr hlocks hml hown hts hw ls hl
  replace hl : lv_has ls 3 [(0, .ref (o.2.1 0 0)), (1, .int x1), (2, .int x2)] := hl
  unfold w_X4_entry at h
  refine lv_aload_n hx hb dX4_entry_0 rfl (lv_at hl 0 rfl) ?_
  refine lv_iload_n hx hb dX4_entry_1 rfl (lv_at hl 1 rfl) ?_
  refine g_cz hw (g_runV (As := [.int x1]) (rest := []) hx hb hml hown hts mX4_isEntry vX4_isEntry kX4_117 hw 0 0 (ci_0 (by decide)) (bi_0 (by decide) hn) rfl rfl (c_X4_isEntry hn h) rfl rfl ⟨Nat.le_of_ble_eq_true rfl, Nat.le_of_ble_eq_true rfl⟩ rfl hl.1 rfl (Nat.le_of_ble_eq_true rfl) dX4_entry_2 ⟨Nat.zero_le _, Nat.zero_le _⟩) ?_
  clear h hw; intro v2 M1 H locs hw hz_v2 h
  refine g_if_ne (tgt := 10) hx hb h dX4_entry_5 (by decide) ?_ ?_
  · clear h; intro h
    refine lv_iload_n hx hb dX4_entry_10 rfl (lv_at hl 2 rfl) ?_
    by_cases c0 : x2 = (0 : Int32)
    · rw [if_pos c0] at h
      refine lv_tableIn (tgt := 56) hx hb dX4_entry_11 (by rw [c0]; decide) (by rw [c0]; decide) (by rw [c0]; rfl) (by decide) ?_
      clear c0
      refine lv_aload_n hx hb dX4_entry_56 rfl (lv_at hl 0 rfl) ?_
      refine g_getf hx hb hts in_X4 hown hw 0 0 (ci_0 (by decide)) (bi_0 (by decide) hn) rfl rfl 0 (by decide) kX4_10 rfl dX4_entry_57 ?_
      refine g_getf hx hb hts in_X0 hown hw 5 0 (ci_5 (by decide)) (bi_5 (by decide) hn) rfl rfl 0 (by decide) kX4_40 rfl dX4_entry_60 ?_
      refine g_getf hx hb hts in_X2 hown hw 11 0 (ci_11 (by decide)) (bi_11 (by decide) hn) rfl rfl 5 (by decide) kX4_123 rfl dX4_entry_63 ?_
      refine lv_iload_n hx hb dX4_entry_66 rfl (lv_at hl 1 rfl) ?_
      refine g_iald hx hb hw 13 0 (ci_13 (by decide)) (bi_13 (by decide) hn) rfl h dX4_entry_67 ?_
      clear h; intro v3 h
      exact g_iret hx hb hr hlocks hw h dX4_entry_68
    rw [if_neg c0] at h
    by_cases c1 : x2 = (1 : Int32)
    · rw [if_pos c1] at h
      refine lv_tableIn (tgt := 69) hx hb dX4_entry_11 (by rw [c1]; decide) (by rw [c1]; decide) (by rw [c1]; rfl) (by decide) ?_
      clear c1
      refine lv_aload_n hx hb dX4_entry_69 rfl (lv_at hl 0 rfl) ?_
      refine g_getf hx hb hts in_X4 hown hw 0 0 (ci_0 (by decide)) (bi_0 (by decide) hn) rfl rfl 0 (by decide) kX4_10 rfl dX4_entry_70 ?_
      refine g_getf hx hb hts in_X0 hown hw 5 0 (ci_5 (by decide)) (bi_5 (by decide) hn) rfl rfl 0 (by decide) kX4_40 rfl dX4_entry_73 ?_
      refine g_getf hx hb hts in_X2 hown hw 11 0 (ci_11 (by decide)) (bi_11 (by decide) hn) rfl rfl 6 (by decide) kX4_127 rfl dX4_entry_76 ?_
      refine lv_iload_n hx hb dX4_entry_79 rfl (lv_at hl 1 rfl) ?_
      refine g_iald hx hb hw 14 0 (ci_14 (by decide)) (bi_14 (by decide) hn) rfl h dX4_entry_80 ?_
      clear h; intro v4 h
      exact g_iret hx hb hr hlocks hw h dX4_entry_81
    rw [if_neg c1] at h
    by_cases c2 : x2 = (2 : Int32)
    · rw [if_pos c2] at h
      refine lv_tableIn (tgt := 82) hx hb dX4_entry_11 (by rw [c2]; decide) (by rw [c2]; decide) (by rw [c2]; rfl) (by decide) ?_
      clear c2
      refine lv_aload_n hx hb dX4_entry_82 rfl (lv_at hl 0 rfl) ?_
      refine g_getf hx hb hts in_X4 hown hw 0 0 (ci_0 (by decide)) (bi_0 (by decide) hn) rfl rfl 0 (by decide) kX4_10 rfl dX4_entry_83 ?_
      refine g_getf hx hb hts in_X0 hown hw 5 0 (ci_5 (by decide)) (bi_5 (by decide) hn) rfl rfl 0 (by decide) kX4_40 rfl dX4_entry_86 ?_
      refine g_getf hx hb hts in_X2 hown hw 11 0 (ci_11 (by decide)) (bi_11 (by decide) hn) rfl rfl 7 (by decide) kX4_130 rfl dX4_entry_89 ?_
      refine lv_iload_n hx hb dX4_entry_92 rfl (lv_at hl 1 rfl) ?_
      refine g_iald hx hb hw 15 0 (ci_15 (by decide)) (bi_15 (by decide) hn) rfl h dX4_entry_93 ?_
      clear h; intro v5 h
      exact g_iret hx hb hr hlocks hw h dX4_entry_94
    rw [if_neg c2] at h
    by_cases c3 : x2 = (3 : Int32)
    · rw [if_pos c3] at h
      refine lv_tableIn (tgt := 95) hx hb dX4_entry_11 (by rw [c3]; decide) (by rw [c3]; decide) (by rw [c3]; rfl) (by decide) ?_
      clear c3
      refine lv_aload_n hx hb dX4_entry_95 rfl (lv_at hl 0 rfl) ?_
      refine g_getf hx hb hts in_X4 hown hw 0 0 (ci_0 (by decide)) (bi_0 (by decide) hn) rfl rfl 0 (by decide) kX4_10 rfl dX4_entry_96 ?_
      refine g_getf hx hb hts in_X0 hown hw 5 0 (ci_5 (by decide)) (bi_5 (by decide) hn) rfl rfl 0 (by decide) kX4_40 rfl dX4_entry_99 ?_
      refine g_getf hx hb hts in_X2 hown hw 11 0 (ci_11 (by decide)) (bi_11 (by decide) hn) rfl rfl 8 (by decide) kX4_133 rfl dX4_entry_102 ?_
      refine lv_iload_n hx hb dX4_entry_105 rfl (lv_at hl 1 rfl) ?_
      refine g_iald hx hb hw 16 0 (ci_16 (by decide)) (bi_16 (by decide) hn) rfl h dX4_entry_106 ?_
      clear h; intro v6 h
      exact g_iret hx hb hr hlocks hw h dX4_entry_107
    rw [if_neg c3] at h
    by_cases c4 : x2 = (4 : Int32)
    · rw [if_pos c4] at h
      refine lv_tableIn (tgt := 108) hx hb dX4_entry_11 (by rw [c4]; decide) (by rw [c4]; decide) (by rw [c4]; rfl) (by decide) ?_
      clear c4
      refine lv_aload_n hx hb dX4_entry_108 rfl (lv_at hl 0 rfl) ?_
      refine g_getf hx hb hts in_X4 hown hw 0 0 (ci_0 (by decide)) (bi_0 (by decide) hn) rfl rfl 0 (by decide) kX4_10 rfl dX4_entry_109 ?_
      refine g_getf hx hb hts in_X0 hown hw 5 0 (ci_5 (by decide)) (bi_5 (by decide) hn) rfl rfl 0 (by decide) kX4_40 rfl dX4_entry_112 ?_
      refine lv_iload_n hx hb dX4_entry_115 rfl (lv_at hl 1 rfl) ?_
      refine g_cz hw (g_runV (As := [.int x1]) (rest := []) hx hb hml hown hts mX2_isLong vX2_isLong kX4_136 hw 11 0 (ci_11 (by decide)) (bi_11 (by decide) hn) rfl rfl (c_X2_isLong hn (by decide) h) rfl rfl ⟨Nat.le_of_ble_eq_true rfl, Nat.le_of_ble_eq_true rfl⟩ rfl hl.1 rfl (Nat.le_of_ble_eq_true rfl) dX4_entry_116 ⟨Nat.zero_le _, Nat.zero_le _⟩) ?_
      clear h hw; intro v8 M7 H locs hw hz_v8 h
      refine g_ci hw (g_runS (As := [.int v8]) (rest := []) hx hb hml hown hts mX4_asNumber sX4_asNumber kX4_139 hw (c_X4_asNumber hn h) rfl rfl ⟨Nat.le_of_ble_eq_true rfl, Nat.le_of_ble_eq_true rfl⟩ rfl hl.1 rfl (Nat.le_of_ble_eq_true rfl) dX4_entry_119 ⟨Nat.zero_le _, Nat.zero_le _⟩) ?_
      clear h hw; intro v10 M9 H locs hw h
      exact g_iret hx hb hr hlocks hw h dX4_entry_122
    rw [if_neg c4] at h
    by_cases c5 : x2 = (5 : Int32)
    · rw [if_pos c5] at h
      refine lv_tableIn (tgt := 123) hx hb dX4_entry_11 (by rw [c5]; decide) (by rw [c5]; decide) (by rw [c5]; rfl) (by decide) ?_
      clear c5
      refine lv_aload_n hx hb dX4_entry_123 rfl (lv_at hl 0 rfl) ?_
      refine g_getf hx hb hts in_X4 hown hw 0 0 (ci_0 (by decide)) (bi_0 (by decide) hn) rfl rfl 0 (by decide) kX4_10 rfl dX4_entry_124 ?_
      refine g_getf hx hb hts in_X0 hown hw 5 0 (ci_5 (by decide)) (bi_5 (by decide) hn) rfl rfl 0 (by decide) kX4_40 rfl dX4_entry_127 ?_
      refine lv_iload_n hx hb dX4_entry_130 rfl (lv_at hl 1 rfl) ?_
      refine g_ci hw (g_runV (As := [.int x1]) (rest := []) hx hb hml hown hts mX2_daysOnPage vX2_daysOnPage kX4_143 hw 11 0 (ci_11 (by decide)) (bi_11 (by decide) hn) rfl rfl (c_X2_daysOnPage hn (by decide) h) rfl rfl ⟨Nat.le_of_ble_eq_true rfl, Nat.le_of_ble_eq_true rfl⟩ rfl hl.1 rfl (Nat.le_of_ble_eq_true rfl) dX4_entry_131 ⟨Nat.zero_le _, Nat.zero_le _⟩) ?_
      clear h hw; intro v12 M11 H locs hw h
      exact g_iret hx hb hr hlocks hw h dX4_entry_134
    rw [if_neg c5] at h
    by_cases c6 : x2 = (6 : Int32)
    · rw [if_pos c6] at h
      refine lv_tableIn (tgt := 135) hx hb dX4_entry_11 (by rw [c6]; decide) (by rw [c6]; decide) (by rw [c6]; rfl) (by decide) ?_
      clear c6
      refine lv_aload_n hx hb dX4_entry_135 rfl (lv_at hl 0 rfl) ?_
      refine g_getf hx hb hts in_X4 hown hw 0 0 (ci_0 (by decide)) (bi_0 (by decide) hn) rfl rfl 0 (by decide) kX4_10 rfl dX4_entry_136 ?_
      refine lv_iload_n hx hb dX4_entry_139 rfl (lv_at hl 1 rfl) ?_
      refine g_ci hw (g_runV (As := [.int x1]) (rest := []) hx hb hml hown hts mX0_daysHidden vX0_daysHidden kX4_146 hw 5 0 (ci_5 (by decide)) (bi_5 (by decide) hn) rfl rfl (c_X0_daysHidden hn (by decide) h) rfl rfl ⟨Nat.le_of_ble_eq_true rfl, Nat.le_of_ble_eq_true rfl⟩ rfl hl.1 rfl (Nat.le_of_ble_eq_true rfl) dX4_entry_140 ⟨Nat.zero_le _, Nat.zero_le _⟩) ?_
      clear h hw; intro v14 M13 H locs hw h
      exact g_iret hx hb hr hlocks hw h dX4_entry_143
    rw [if_neg c6] at h
    by_cases c7 : x2 = (7 : Int32)
    · rw [if_pos c7] at h
      refine lv_tableIn (tgt := 144) hx hb dX4_entry_11 (by rw [c7]; decide) (by rw [c7]; decide) (by rw [c7]; rfl) (by decide) ?_
      clear c7
      refine lv_aload_n hx hb dX4_entry_144 rfl (lv_at hl 0 rfl) ?_
      refine g_getf hx hb hts in_X4 hown hw 0 0 (ci_0 (by decide)) (bi_0 (by decide) hn) rfl rfl 0 (by decide) kX4_10 rfl dX4_entry_145 ?_
      refine lv_iload_n hx hb dX4_entry_148 rfl (lv_at hl 1 rfl) ?_
      refine g_ci hw (g_runV (As := [.int x1]) (rest := []) hx hb hml hown hts mX0_barsOfEntry vX0_barsOfEntry kX4_149 hw 5 0 (ci_5 (by decide)) (bi_5 (by decide) hn) rfl rfl (c_X0_barsOfEntry hn (by decide) h) rfl rfl ⟨Nat.le_of_ble_eq_true rfl, Nat.le_of_ble_eq_true rfl⟩ rfl hl.1 rfl (Nat.le_of_ble_eq_true rfl) dX4_entry_149 ⟨Nat.zero_le _, Nat.zero_le _⟩) ?_
      clear h hw; intro v16 M15 H locs hw h
      exact g_iret hx hb hr hlocks hw h dX4_entry_152
    rw [if_neg c7] at h
    refine lv_tableOut (tgt := 153) hx hb dX4_entry_11 (tbl_out (fun k h1 => by rcases (show k = 0 ∨ k = 1 ∨ k = 2 ∨ k = 3 ∨ k = 4 ∨ k = 5 ∨ k = 6 ∨ k = 7 by omega) with rfl | rfl | rfl | rfl | rfl | rfl | rfl | rfl <;> assumption)) (by decide) ?_
    clear c0 c1 c2 c3 c4 c5 c6 c7
    refine lv_iconst (v := (-1)) hx hb dX4_entry_153 (by decide) ?_
    exact g_iret hx hb hr hlocks hw h dX4_entry_154
  · clear h; intro h
    refine lv_iconst (v := (-1)) hx hb dX4_entry_8 (by decide) ?_
    exact g_iret hx hb hr hlocks hw h dX4_entry_9
abbrev rm_X4_bar : Room := { frames := 2, cells := 0, slots := 0, locals := 43 }
set_option maxHeartbeats 4000000 in
set_option maxRecDepth 100000 in
theorem c_X4_bar {o : Om} {l : Launch} (hn : 115 ≤ o.2.2.2) {M : Mm} {x1 : Int32} {x2 : Int32} {x3 : Int32} {Q : Int32 → Mm → Prop} (h : w_X4_bar M x1 x2 x3 Q) : CI o l yX4_bar cX4_bar 6 rm_X4_bar [.ref (o.2.1 0 0), .int x1, .int x2, .int x3] M Q := by
  refine g_start (by decide +kernel) (Nat.le_of_ble_eq_true rfl) ?_
  intro p e s m args below meth c hx hb hr hlocks hml hown hts hw ls hl
  replace hl : lv_has ls 6 [(0, .ref (o.2.1 0 0)), (1, .int x1), (2, .int x2), (3, .int x3)] := hl
  unfold w_X4_bar at h
  refine lv_aload_n hx hb dX4_bar_0 rfl (lv_at hl 0 rfl) ?_
  refine lv_iload_n hx hb dX4_bar_1 rfl (lv_at hl 1 rfl) ?_
  refine g_cz hw (g_runV (As := [.int x1]) (rest := []) hx hb hml hown hts mX4_isEntry vX4_isEntry kX4_117 hw 0 0 (ci_0 (by decide)) (bi_0 (by decide) hn) rfl rfl (c_X4_isEntry hn h) rfl rfl ⟨Nat.le_of_ble_eq_true rfl, Nat.le_of_ble_eq_true rfl⟩ rfl hl.1 rfl (Nat.le_of_ble_eq_true rfl) dX4_bar_2 ⟨Nat.zero_le _, Nat.zero_le _⟩) ?_
  clear h hw; intro v2 M1 H locs hw hz_v2 h
  refine g_if_eq (tgt := 21) hx hb h dX4_bar_5 (by decide) ?_ ?_
  · clear h; intro h
    refine lv_iconst (v := (-1)) hx hb dX4_bar_21 (by decide) ?_
    exact g_iret hx hb hr hlocks hw h dX4_bar_22
  · clear h; intro h
    refine lv_iload_n hx hb dX4_bar_8 rfl (lv_at hl 2 rfl) ?_
    refine g_if_lt (tgt := 21) hx hb h dX4_bar_9 (by decide) ?_ ?_
    · clear h; intro h
      refine lv_iconst (v := (-1)) hx hb dX4_bar_21 (by decide) ?_
      exact g_iret hx hb hr hlocks hw h dX4_bar_22
    · clear h; intro h
      refine lv_iload_n hx hb dX4_bar_12 rfl (lv_at hl 3 rfl) ?_
      refine lv_iconst (v := 0) hx hb dX4_bar_13 (by decide) ?_
      refine lv_iconst (v := 4) hx hb dX4_bar_14 (by decide) ?_
      refine g_cz hw (g_runS (As := [.int x3, .int (0 : Int32), .int (4 : Int32)]) (rest := []) hx hb hml hown hts mX4_isWithin sX4_isWithin kX4_60 hw (c_X4_isWithin hn h) rfl rfl ⟨Nat.le_of_ble_eq_true rfl, Nat.le_of_ble_eq_true rfl⟩ rfl hl.1 rfl (Nat.le_of_ble_eq_true rfl) dX4_bar_15 ⟨Nat.zero_le _, Nat.zero_le _⟩) ?_
      clear h hw; intro v4 M3 H locs hw hz_v4 h
      refine g_if_ne (tgt := 23) hx hb h dX4_bar_18 (by decide) ?_ ?_
      · clear h; intro h
        refine lv_iload_n hx hb dX4_bar_23 rfl (lv_at hl 2 rfl) ?_
        refine lv_aload_n hx hb dX4_bar_24 rfl (lv_at hl 0 rfl) ?_
        refine g_getf hx hb hts in_X4 hown hw 0 0 (ci_0 (by decide)) (bi_0 (by decide) hn) rfl rfl 0 (by decide) kX4_10 rfl dX4_bar_25 ?_
        refine g_getf hx hb hts in_X0 hown hw 5 0 (ci_5 (by decide)) (bi_5 (by decide) hn) rfl rfl 1 (by decide) kX4_57 rfl dX4_bar_28 ?_
        refine g_icmp_ge (tgt := 50) hx hb h dX4_bar_31 (by decide) ?_ ?_
        · clear h; intro h
          refine lv_bipush (v := (-9)) hx hb dX4_bar_50 (by decide) ?_
          exact g_iret hx hb hr hlocks hw h dX4_bar_52
        · clear h; intro h
          refine lv_aload_n hx hb dX4_bar_34 rfl (lv_at hl 0 rfl) ?_
          refine g_getf hx hb hts in_X4 hown hw 0 0 (ci_0 (by decide)) (bi_0 (by decide) hn) rfl rfl 0 (by decide) kX4_10 rfl dX4_bar_35 ?_
          refine g_getf hx hb hts in_X0 hown hw 5 0 (ci_5 (by decide)) (bi_5 (by decide) hn) rfl rfl 3 (by decide) kX4_152 rfl dX4_bar_38 ?_
          refine lv_iload_n hx hb dX4_bar_41 rfl (lv_at hl 1 rfl) ?_
          refine g_aldR hx hb hw (by decide) hn h dX4_bar_42 ?_
          clear h; intro k5 hk5 h
          refine lv_iload_n hx hb dX4_bar_43 rfl (lv_at hl 2 rfl) ?_
          refine g_iald hx hb hw 12 (24 * 0 + k5) (ci_12 (r_48 (by decide) hk5)) (bi_12 (r_48 (by decide) hk5) hn) rfl h dX4_bar_44 ?_
          clear h; intro v6 h
          refine lv_bipush (v := (-9)) hx hb dX4_bar_45 (by decide) ?_
          refine g_icmp_ne (tgt := 53) hx hb h dX4_bar_47 (by decide) ?_ ?_
          · clear h; intro h
            refine lv_aload_n hx hb dX4_bar_53 rfl (lv_at hl 0 rfl) ?_
            refine g_getf hx hb hts in_X4 hown hw 0 0 (ci_0 (by decide)) (bi_0 (by decide) hn) rfl rfl 0 (by decide) kX4_10 rfl dX4_bar_54 ?_
            refine lv_iload_n hx hb dX4_bar_57 rfl (lv_at hl 2 rfl) ?_
            refine g_ci hw (g_runV (As := [.int x2]) (rest := []) hx hb hml hown hts mX0_firstOfWeek vX0_firstOfWeek kX4_70 hw 5 0 (ci_5 (by decide)) (bi_5 (by decide) hn) rfl rfl (c_X0_firstOfWeek hn (by decide) h) rfl rfl ⟨Nat.le_of_ble_eq_true rfl, Nat.le_of_ble_eq_true rfl⟩ rfl hl.1 rfl (Nat.le_of_ble_eq_true rfl) dX4_bar_58 ⟨Nat.zero_le _, Nat.zero_le _⟩) ?_
            clear h hw; intro v8 M7 H locs hw h
            refine lv_istore (lv' := [(4, .int v8), (0, .ref (o.2.1 0 0)), (1, .int x1), (2, .int x2), (3, .int x3)]) hx hb dX4_bar_61 hl (by decide) rfl ?_
            clear hl; clear ls; intro ls hl
            refine lv_aload_n hx hb dX4_bar_63 rfl (lv_at hl 1 rfl) ?_
            refine g_getf hx hb hts in_X4 hown hw 0 0 (ci_0 (by decide)) (bi_0 (by decide) hn) rfl rfl 0 (by decide) kX4_10 rfl dX4_bar_64 ?_
            refine lv_iload_n hx hb dX4_bar_67 rfl (lv_at hl 3 rfl) ?_
            refine g_ci hw (g_runV (As := [.int x2]) (rest := []) hx hb hml hown hts mX0_lastOfWeek vX0_lastOfWeek kX4_74 hw 5 0 (ci_5 (by decide)) (bi_5 (by decide) hn) rfl rfl (c_X0_lastOfWeek hn (by decide) h) rfl rfl ⟨Nat.le_of_ble_eq_true rfl, Nat.le_of_ble_eq_true rfl⟩ rfl hl.1 rfl (Nat.le_of_ble_eq_true rfl) dX4_bar_68 ⟨Nat.zero_le _, Nat.zero_le _⟩) ?_
            clear h hw; intro v10 M9 H locs hw h
            refine lv_istore (lv' := [(5, .int v10), (4, .int v8), (0, .ref (o.2.1 0 0)), (1, .int x1), (2, .int x2), (3, .int x3)]) hx hb dX4_bar_71 hl (by decide) rfl ?_
            clear hl; clear ls; intro ls hl
            refine lv_iload_n hx hb dX4_bar_73 rfl (lv_at hl 5 rfl) ?_
            by_cases c0 : x3 = (0 : Int32)
            · rw [if_pos c0] at h
              refine lv_tableIn (tgt := 104) hx hb dX4_bar_74 (by rw [c0]; decide) (by rw [c0]; decide) (by rw [c0]; rfl) (by decide) ?_
              clear c0
              refine lv_aload_n hx hb dX4_bar_104 rfl (lv_at hl 2 rfl) ?_
              refine g_getf hx hb hts in_X4 hown hw 0 0 (ci_0 (by decide)) (bi_0 (by decide) hn) rfl rfl 0 (by decide) kX4_10 rfl dX4_bar_105 ?_
              refine g_getf hx hb hts in_X0 hown hw 5 0 (ci_5 (by decide)) (bi_5 (by decide) hn) rfl rfl 3 (by decide) kX4_152 rfl dX4_bar_108 ?_
              refine lv_iload_n hx hb dX4_bar_111 rfl (lv_at hl 3 rfl) ?_
              refine g_aldR hx hb hw (by decide) hn h dX4_bar_112 ?_
              clear h; intro k11 hk11 h
              refine lv_iload_n hx hb dX4_bar_113 rfl (lv_at hl 4 rfl) ?_
              refine g_iald hx hb hw 12 (24 * 0 + k11) (ci_12 (r_48 (by decide) hk11)) (bi_12 (r_48 (by decide) hk11) hn) rfl h dX4_bar_114 ?_
              clear h; intro v12 h
              exact g_iret hx hb hr hlocks hw h dX4_bar_115
            rw [if_neg c0] at h
            by_cases c1 : x3 = (1 : Int32)
            · rw [if_pos c1] at h
              refine lv_tableIn (tgt := 116) hx hb dX4_bar_74 (by rw [c1]; decide) (by rw [c1]; decide) (by rw [c1]; rfl) (by decide) ?_
              clear c1
              refine lv_aload_n hx hb dX4_bar_116 rfl (lv_at hl 2 rfl) ?_
              refine g_getf hx hb hts in_X4 hown hw 0 0 (ci_0 (by decide)) (bi_0 (by decide) hn) rfl rfl 0 (by decide) kX4_10 rfl dX4_bar_117 ?_
              refine g_getf hx hb hts in_X0 hown hw 5 0 (ci_5 (by decide)) (bi_5 (by decide) hn) rfl rfl 0 (by decide) kX4_40 rfl dX4_bar_120 ?_
              refine g_getf hx hb hts in_X2 hown hw 11 0 (ci_11 (by decide)) (bi_11 (by decide) hn) rfl rfl 5 (by decide) kX4_123 rfl dX4_bar_123 ?_
              refine lv_iload_n hx hb dX4_bar_126 rfl (lv_at hl 3 rfl) ?_
              refine g_iald hx hb hw 13 0 (ci_13 (by decide)) (bi_13 (by decide) hn) rfl h dX4_bar_127 ?_
              clear h; intro v13 h
              refine lv_iload hx hb dX4_bar_128 (lv_at hl 1 rfl) ?_
              refine g_max hx hb hml hl.1 hown hts kX4_156 (Nat.le_of_ble_eq_true rfl) (Nat.le_of_ble_eq_true rfl) (Nat.zero_le _) (Nat.zero_le _) dX4_bar_130 ?_
              exact g_iret hx hb hr hlocks hw h dX4_bar_133
            rw [if_neg c1] at h
            by_cases c2 : x3 = (2 : Int32)
            · rw [if_pos c2] at h
              refine lv_tableIn (tgt := 134) hx hb dX4_bar_74 (by rw [c2]; decide) (by rw [c2]; decide) (by rw [c2]; rfl) (by decide) ?_
              clear c2
              refine lv_aload_n hx hb dX4_bar_134 rfl (lv_at hl 2 rfl) ?_
              refine g_getf hx hb hts in_X4 hown hw 0 0 (ci_0 (by decide)) (bi_0 (by decide) hn) rfl rfl 0 (by decide) kX4_10 rfl dX4_bar_135 ?_
              refine g_getf hx hb hts in_X0 hown hw 5 0 (ci_5 (by decide)) (bi_5 (by decide) hn) rfl rfl 0 (by decide) kX4_40 rfl dX4_bar_138 ?_
              refine g_getf hx hb hts in_X2 hown hw 11 0 (ci_11 (by decide)) (bi_11 (by decide) hn) rfl rfl 6 (by decide) kX4_127 rfl dX4_bar_141 ?_
              refine lv_iload_n hx hb dX4_bar_144 rfl (lv_at hl 3 rfl) ?_
              refine g_iald hx hb hw 14 0 (ci_14 (by decide)) (bi_14 (by decide) hn) rfl h dX4_bar_145 ?_
              clear h; intro v14 h
              refine lv_iload hx hb dX4_bar_146 (lv_at hl 0 rfl) ?_
              refine g_min hx hb hml hl.1 hown hts kX4_161 (Nat.le_of_ble_eq_true rfl) (Nat.le_of_ble_eq_true rfl) (Nat.zero_le _) (Nat.zero_le _) dX4_bar_148 ?_
              exact g_iret hx hb hr hlocks hw h dX4_bar_151
            rw [if_neg c2] at h
            by_cases c3 : x3 = (3 : Int32)
            · rw [if_pos c3] at h
              refine lv_tableIn (tgt := 152) hx hb dX4_bar_74 (by rw [c3]; decide) (by rw [c3]; decide) (by rw [c3]; rfl) (by decide) ?_
              clear c3
              refine lv_aload_n hx hb dX4_bar_152 rfl (lv_at hl 2 rfl) ?_
              refine g_getf hx hb hts in_X4 hown hw 0 0 (ci_0 (by decide)) (bi_0 (by decide) hn) rfl rfl 0 (by decide) kX4_10 rfl dX4_bar_153 ?_
              refine g_getf hx hb hts in_X0 hown hw 5 0 (ci_5 (by decide)) (bi_5 (by decide) hn) rfl rfl 0 (by decide) kX4_40 rfl dX4_bar_156 ?_
              refine g_getf hx hb hts in_X2 hown hw 11 0 (ci_11 (by decide)) (bi_11 (by decide) hn) rfl rfl 5 (by decide) kX4_123 rfl dX4_bar_159 ?_
              refine lv_iload_n hx hb dX4_bar_162 rfl (lv_at hl 3 rfl) ?_
              refine g_iald hx hb hw 13 0 (ci_13 (by decide)) (bi_13 (by decide) hn) rfl h dX4_bar_163 ?_
              clear h; intro v15 h
              refine lv_iload hx hb dX4_bar_164 (lv_at hl 1 rfl) ?_
              refine letJ_W (fun (x : Int32) => ∀ (H : Heap) (locs : List Loc) (ls : Array Slot), WO o (WA o) s s.heap H locs M9 → lv_has ls 6 [] → W p l e rm_X4_bar s m args below meth c H locs 0 0 (MQ below (QI o Q) args s 0 0 (WA o)) (F0 m 174 ls [.int x])) h ?_ ?_
              · clear h hw hl; clear ls; intro x h H locs ls hw hl
                obtain ⟨v16, rfl⟩ : ∃ z, z = x := ⟨_, rfl⟩
                replace hl : lv_has ls 6 [] := hl
                refine g_ci hw (g_runS (As := [.int v16]) (rest := []) hx hb hml hown hts mX4_asNumber sX4_asNumber kX4_139 hw (c_X4_asNumber hn h) rfl rfl ⟨Nat.le_of_ble_eq_true rfl, Nat.le_of_ble_eq_true rfl⟩ rfl hl.1 rfl (Nat.le_of_ble_eq_true rfl) dX4_bar_174 ⟨Nat.zero_le _, Nat.zero_le _⟩) ?_
                clear h hw; intro v19 M18 H locs hw h
                exact g_iret hx hb hr hlocks hw h dX4_bar_177
              clear h; intro J17 hJ17 h
              refine g_icmp_ge (tgt := 173) hx hb h dX4_bar_166 (by decide) ?_ ?_
              · clear h; intro h
                refine lv_iconst (v := 0) hx hb dX4_bar_173 (by decide) ?_
                exact hJ17 (0 : Int32) h _ _ _ hw (lv_sub hl [] rfl)
              · clear h; intro h
                refine lv_iconst (v := 1) hx hb dX4_bar_169 (by decide) ?_
                refine lv_goto (tgt := 174) hx hb dX4_bar_170 (by decide) ?_
                exact hJ17 (1 : Int32) h _ _ _ hw (lv_sub hl [] rfl)
            rw [if_neg c3] at h
            refine lv_tableOut (tgt := 178) hx hb dX4_bar_74 (tbl_out (fun k h1 => by rcases (show k = 0 ∨ k = 1 ∨ k = 2 ∨ k = 3 by omega) with rfl | rfl | rfl | rfl <;> assumption)) (by decide) ?_
            clear c0 c1 c2 c3
            refine lv_aload_n hx hb dX4_bar_178 rfl (lv_at hl 2 rfl) ?_
            refine g_getf hx hb hts in_X4 hown hw 0 0 (ci_0 (by decide)) (bi_0 (by decide) hn) rfl rfl 0 (by decide) kX4_10 rfl dX4_bar_179 ?_
            refine g_getf hx hb hts in_X0 hown hw 5 0 (ci_5 (by decide)) (bi_5 (by decide) hn) rfl rfl 0 (by decide) kX4_40 rfl dX4_bar_182 ?_
            refine g_getf hx hb hts in_X2 hown hw 11 0 (ci_11 (by decide)) (bi_11 (by decide) hn) rfl rfl 6 (by decide) kX4_127 rfl dX4_bar_185 ?_
            refine lv_iload_n hx hb dX4_bar_188 rfl (lv_at hl 3 rfl) ?_
            refine g_iald hx hb hw 14 0 (ci_14 (by decide)) (bi_14 (by decide) hn) rfl h dX4_bar_189 ?_
            clear h; intro v20 h
            refine lv_iload hx hb dX4_bar_190 (lv_at hl 0 rfl) ?_
            refine letJ_W (fun (x : Int32) => ∀ (H : Heap) (locs : List Loc) (ls : Array Slot), WO o (WA o) s s.heap H locs M9 → lv_has ls 6 [] → W p l e rm_X4_bar s m args below meth c H locs 0 0 (MQ below (QI o Q) args s 0 0 (WA o)) (F0 m 200 ls [.int x])) h ?_ ?_
            · clear h hw hl; clear ls; intro x h H locs ls hw hl
              obtain ⟨v21, rfl⟩ : ∃ z, z = x := ⟨_, rfl⟩
              replace hl : lv_has ls 6 [] := hl
              refine g_ci hw (g_runS (As := [.int v21]) (rest := []) hx hb hml hown hts mX4_asNumber sX4_asNumber kX4_139 hw (c_X4_asNumber hn h) rfl rfl ⟨Nat.le_of_ble_eq_true rfl, Nat.le_of_ble_eq_true rfl⟩ rfl hl.1 rfl (Nat.le_of_ble_eq_true rfl) dX4_bar_200 ⟨Nat.zero_le _, Nat.zero_le _⟩) ?_
              clear h hw; intro v24 M23 H locs hw h
              exact g_iret hx hb hr hlocks hw h dX4_bar_203
            clear h; intro J22 hJ22 h
            refine g_icmp_le (tgt := 199) hx hb h dX4_bar_192 (by decide) ?_ ?_
            · clear h; intro h
              refine lv_iconst (v := 0) hx hb dX4_bar_199 (by decide) ?_
              exact hJ22 (0 : Int32) h _ _ _ hw (lv_sub hl [] rfl)
            · clear h; intro h
              refine lv_iconst (v := 1) hx hb dX4_bar_195 (by decide) ?_
              refine lv_goto (tgt := 200) hx hb dX4_bar_196 (by decide) ?_
              exact hJ22 (1 : Int32) h _ _ _ hw (lv_sub hl [] rfl)
          · clear h; intro h
            refine lv_bipush (v := (-9)) hx hb dX4_bar_50 (by decide) ?_
            exact g_iret hx hb hr hlocks hw h dX4_bar_52
      · clear h; intro h
        refine lv_iconst (v := (-1)) hx hb dX4_bar_21 (by decide) ?_
        exact g_iret hx hb hr hlocks hw h dX4_bar_22
abbrev rm_X4_isOnPage : Room := { frames := 1, cells := 0, slots := 0, locals := 22 }
set_option maxHeartbeats 4000000 in
set_option maxRecDepth 100000 in
theorem c_X4_isOnPage {o : Om} {l : Launch} (hn : 115 ≤ o.2.2.2) {M : Mm} {x1 : Int32} {Q : Int32 → Mm → Prop} (h : w_X4_isOnPage M x1 Q) : CZ o l yX4_isOnPage cX4_isOnPage 2 rm_X4_isOnPage [.ref (o.2.1 0 0), .int x1] M Q := by
  refine g_start (by decide +kernel) (Nat.le_of_ble_eq_true rfl) ?_
  intro p e s m args below meth c hx hb hr hlocks hml hown hts hw ls hl
  replace hl : lv_has ls 2 [(0, .ref (o.2.1 0 0)), (1, .int x1)] := hl
  unfold w_X4_isOnPage at h
  refine lv_iload_n hx hb dX4_isOnPage_0 rfl (lv_at hl 1 rfl) ?_
  refine lv_aload_n hx hb dX4_isOnPage_1 rfl (lv_at hl 0 rfl) ?_
  refine g_getf hx hb hts in_X4 hown hw 0 0 (ci_0 (by decide)) (bi_0 (by decide) hn) rfl rfl 0 (by decide) kX4_10 rfl dX4_isOnPage_2 ?_
  refine g_getf hx hb hts in_X0 hown hw 5 0 (ci_5 (by decide)) (bi_5 (by decide) hn) rfl rfl 0 (by decide) kX4_40 rfl dX4_isOnPage_5 ?_
  refine g_getf hx hb hts in_X2 hown hw 11 0 (ci_11 (by decide)) (bi_11 (by decide) hn) rfl rfl 0 (by decide) kX4_48 rfl dX4_isOnPage_8 ?_
  refine lv_aload_n hx hb dX4_isOnPage_11 rfl (lv_at hl 0 rfl) ?_
  refine g_getf hx hb hts in_X4 hown hw 0 0 (ci_0 (by decide)) (bi_0 (by decide) hn) rfl rfl 0 (by decide) kX4_10 rfl dX4_isOnPage_12 ?_
  refine g_getf hx hb hts in_X0 hown hw 5 0 (ci_5 (by decide)) (bi_5 (by decide) hn) rfl rfl 0 (by decide) kX4_40 rfl dX4_isOnPage_15 ?_
  refine g_getf hx hb hts in_X2 hown hw 11 0 (ci_11 (by decide)) (bi_11 (by decide) hn) rfl rfl 1 (by decide) kX4_54 rfl dX4_isOnPage_18 ?_
  refine g_cz hw (g_runS (As := [.int x1, .int (M 11 0 0), .int (M 11 0 1)]) (rest := []) hx hb hml hown hts mX4_isWithin sX4_isWithin kX4_60 hw (c_X4_isWithin hn h) rfl rfl ⟨Nat.le_of_ble_eq_true rfl, Nat.le_of_ble_eq_true rfl⟩ rfl hl.1 rfl (Nat.le_of_ble_eq_true rfl) dX4_isOnPage_21 ⟨Nat.zero_le _, Nat.zero_le _⟩) ?_
  clear h hw; intro v2 M1 H locs hw hz_v2 h
  exact g_zret hx hb hr hlocks hw hz_v2 h dX4_isOnPage_24
