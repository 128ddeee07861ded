abbrev rm_X5_beganBefore : Room := { frames := 1, cells := 0, slots := 0, locals := 21 }
set_option maxHeartbeats 4000000 in
set_option maxRecDepth 100000 in
theorem c_X5_beganBefore {o : Om} {l : Launch} (hn : 122 ≤ o.2.2.2) {M : Mm} {x1 : Int32} {x2 : Int32} {Q : Int32 → Mm → Prop} (h : w_X5_beganBefore M x1 x2 Q) : CZ o l yX5_beganBefore cX5_beganBefore 3 rm_X5_beganBefore [.ref (o.2.1 17 0), .int x1, .int x2] M Q := by
  refine g_start (by decide +kernel) (Nat.le_of_ble_eq_true rfl) ?_
  intro p e s m args below meth c hx hb hr hlocks hml hown hts hw ls hl
  replace hl : lv_has ls 3 [(0, .ref (o.2.1 17 0)), (1, .int x1), (2, .int x2)] := hl
  unfold w_X5_beganBefore at h
  refine lv_aload_n hx hb dX5_beganBefore_0 rfl (lv_at hl 0 rfl) ?_
  refine lv_iload_n hx hb dX5_beganBefore_1 rfl (lv_at hl 1 rfl) ?_
  refine g_ci hw (g_runV (As := [.int x1]) (rest := []) hx hb hml hown hts mX5_begins vX5_begins kX5_40 hw 17 0 (ci_17 (by decide)) (bi_17 (by decide) hn) rfl rfl (c_X5_begins hn h) rfl rfl ⟨Nat.le_of_ble_eq_true rfl, Nat.le_of_ble_eq_true rfl⟩ rfl hl.1 rfl (Nat.le_of_ble_eq_true rfl) dX5_beganBefore_2 ⟨Nat.zero_le _, Nat.zero_le _⟩) ?_
  clear h hw; intro v2 M1 H locs hw h
  refine lv_aload_n hx hb dX5_beganBefore_5 rfl (lv_at hl 0 rfl) ?_
  refine g_getf hx hb hts in_X5 hown hw 17 0 (ci_17 (by decide)) (bi_17 (by decide) hn) rfl rfl 6 (by decide) kX5_22 rfl dX5_beganBefore_6 ?_
  refine lv_iload_n hx hb dX5_beganBefore_9 rfl (lv_at hl 2 rfl) ?_
  refine g_iald hx hb hw 22 0 (ci_22 (by decide)) (bi_22 (by decide) hn) rfl h dX5_beganBefore_10 ?_
  clear h; intro v3 h
  refine g_icmp_ge (tgt := 18) hx hb h dX5_beganBefore_11 (by decide) ?_ ?_
  · clear h; intro h
    refine lv_iconst (v := 0) hx hb dX5_beganBefore_18 (by decide) ?_
    exact g_zret hx hb hr hlocks hw (Or.inl rfl) h dX5_beganBefore_19
  · clear h; intro h
    refine lv_iconst (v := 1) hx hb dX5_beganBefore_14 (by decide) ?_
    refine lv_goto (tgt := 19) hx hb dX5_beganBefore_15 (by decide) ?_
    exact g_zret hx hb hr hlocks hw (Or.inr rfl) h dX5_beganBefore_19
abbrev rm_X5_isAhead : Room := { frames := 2, cells := 0, slots := 0, locals := 43 }
set_option maxHeartbeats 4000000 in
set_option maxRecDepth 100000 in
theorem c_X5_isAhead {o : Om} {l : Launch} (hn : 122 ≤ o.2.2.2) {M : Mm} {x1 : Int32} {x2 : Int32} {x3 : Int32} {Q : Int32 → Mm → Prop} (h : w_X5_isAhead M x1 x2 x3 Q) : CZ o l yX5_isAhead cX5_isAhead 6 rm_X5_isAhead [.ref (o.2.1 17 0), .int x1, .int x2, .int x3] M Q := by
  refine g_start (by decide +kernel) (Nat.le_of_ble_eq_true rfl) ?_
  intro p e s m args below meth c hx hb hr hlocks hml hown hts hw ls hl
  replace hl : lv_has ls 6 [(0, .ref (o.2.1 17 0)), (1, .int x1), (2, .int x2), (3, .int x3)] := hl
  unfold w_X5_isAhead at h
  refine lv_aload_n hx hb dX5_isAhead_0 rfl (lv_at hl 0 rfl) ?_
  refine lv_iload_n hx hb dX5_isAhead_1 rfl (lv_at hl 1 rfl) ?_
  refine lv_iload_n hx hb dX5_isAhead_2 rfl (lv_at hl 3 rfl) ?_
  refine g_cz hw (g_runV (As := [.int x1, .int x3]) (rest := []) hx hb hml hown hts mX5_beganBefore vX5_beganBefore kX5_60 hw 17 0 (ci_17 (by decide)) (bi_17 (by decide) hn) rfl rfl (c_X5_beganBefore hn h) rfl rfl ⟨Nat.le_of_ble_eq_true rfl, Nat.le_of_ble_eq_true rfl⟩ rfl hl.1 rfl (Nat.le_of_ble_eq_true rfl) dX5_isAhead_3 ⟨Nat.zero_le _, Nat.zero_le _⟩) ?_
  clear h hw; intro v2 M1 H locs hw hz_v2 h
  refine lv_aload_n hx hb dX5_isAhead_6 rfl (lv_at hl 0 rfl) ?_
  refine lv_iload_n hx hb dX5_isAhead_7 rfl (lv_at hl 2 rfl) ?_
  refine lv_iload_n hx hb dX5_isAhead_8 rfl (lv_at hl 3 rfl) ?_
  refine g_cz hw (g_runV (As := [.int x2, .int x3]) (rest := [.int v2]) hx hb hml hown hts mX5_beganBefore vX5_beganBefore kX5_60 hw 17 0 (ci_17 (by decide)) (bi_17 (by decide) hn) rfl rfl (c_X5_beganBefore hn h) rfl rfl ⟨Nat.le_of_ble_eq_true rfl, Nat.le_of_ble_eq_true rfl⟩ rfl hl.1 rfl (Nat.le_of_ble_eq_true rfl) dX5_isAhead_9 ⟨Nat.zero_le _, Nat.zero_le _⟩) ?_
  clear h hw; intro v4 M3 H locs hw hz_v4 h
  refine g_icmp_eq (tgt := 22) hx hb h dX5_isAhead_12 (by decide) ?_ ?_
  · clear h; intro h
    refine lv_aload_n hx hb dX5_isAhead_22 rfl (lv_at hl 0 rfl) ?_
    refine lv_iload_n hx hb dX5_isAhead_23 rfl (lv_at hl 1 rfl) ?_
    refine lv_iload_n hx hb dX5_isAhead_24 rfl (lv_at hl 3 rfl) ?_
    refine g_cz hw (g_runV (As := [.int x1, .int x3]) (rest := []) hx hb hml hown hts mX5_beganBefore vX5_beganBefore kX5_60 hw 17 0 (ci_17 (by decide)) (bi_17 (by decide) hn) rfl rfl (c_X5_beganBefore hn h) rfl rfl ⟨Nat.le_of_ble_eq_true rfl, Nat.le_of_ble_eq_true rfl⟩ rfl hl.1 rfl (Nat.le_of_ble_eq_true rfl) dX5_isAhead_25 ⟨Nat.zero_le _, Nat.zero_le _⟩) ?_
    clear h hw; intro v6 M5 H locs hw hz_v6 h
    refine g_if_eq (tgt := 83) hx hb h dX5_isAhead_28 (by decide) ?_ ?_
    · clear h; intro h
      refine lv_aload_n hx hb dX5_isAhead_83 rfl (lv_at hl 0 rfl) ?_
      refine lv_iload_n hx hb dX5_isAhead_84 rfl (lv_at hl 1 rfl) ?_
      refine g_ci hw (g_runV (As := [.int x1]) (rest := []) hx hb hml hown hts mX5_begins vX5_begins kX5_40 hw 17 0 (ci_17 (by decide)) (bi_17 (by decide) hn) rfl rfl (c_X5_begins hn h) rfl rfl ⟨Nat.le_of_ble_eq_true rfl, Nat.le_of_ble_eq_true rfl⟩ rfl hl.1 rfl (Nat.le_of_ble_eq_true rfl) dX5_isAhead_85 ⟨Nat.zero_le _, Nat.zero_le _⟩) ?_
      clear h hw; intro v8 M7 H locs hw h
      refine lv_aload_n hx hb dX5_isAhead_88 rfl (lv_at hl 0 rfl) ?_
      refine lv_iload_n hx hb dX5_isAhead_89 rfl (lv_at hl 2 rfl) ?_
      refine g_ci hw (g_runV (As := [.int x2]) (rest := [.int v8]) hx hb hml hown hts mX5_begins vX5_begins kX5_40 hw 17 0 (ci_17 (by decide)) (bi_17 (by decide) hn) rfl rfl (c_X5_begins hn h) rfl rfl ⟨Nat.le_of_ble_eq_true rfl, Nat.le_of_ble_eq_true rfl⟩ rfl hl.1 rfl (Nat.le_of_ble_eq_true rfl) dX5_isAhead_90 ⟨Nat.zero_le _, Nat.zero_le _⟩) ?_
      clear h hw; intro v10 M9 H locs hw h
      refine g_icmp_eq (tgt := 115) hx hb h dX5_isAhead_93 (by decide) ?_ ?_
      · clear h; intro h
        refine lv_aload_n hx hb dX5_isAhead_115 rfl (lv_at hl 0 rfl) ?_
        refine lv_iload_n hx hb dX5_isAhead_116 rfl (lv_at hl 1 rfl) ?_
        refine g_ci hw (g_runV (As := [.int x1]) (rest := []) hx hb hml hown hts mX5_ends vX5_ends kX5_36 hw 17 0 (ci_17 (by decide)) (bi_17 (by decide) hn) rfl rfl (c_X5_ends hn h) rfl rfl ⟨Nat.le_of_ble_eq_true rfl, Nat.le_of_ble_eq_true rfl⟩ rfl hl.1 rfl (Nat.le_of_ble_eq_true rfl) dX5_isAhead_117 ⟨Nat.zero_le _, Nat.zero_le _⟩) ?_
        clear h hw; intro v12 M11 H locs hw h
        refine lv_aload_n hx hb dX5_isAhead_120 rfl (lv_at hl 0 rfl) ?_
        refine lv_iload_n hx hb dX5_isAhead_121 rfl (lv_at hl 1 rfl) ?_
        refine g_ci hw (g_runV (As := [.int x1]) (rest := [.int v12]) hx hb hml hown hts mX5_begins vX5_begins kX5_40 hw 17 0 (ci_17 (by decide)) (bi_17 (by decide) hn) rfl rfl (c_X5_begins hn h) rfl rfl ⟨Nat.le_of_ble_eq_true rfl, Nat.le_of_ble_eq_true rfl⟩ rfl hl.1 rfl (Nat.le_of_ble_eq_true rfl) dX5_isAhead_122 ⟨Nat.zero_le _, Nat.zero_le _⟩) ?_
        clear h hw; intro v14 M13 H locs hw h
        refine lv_isub hx hb dX5_isAhead_125 ?_
        refine g_topi h ?_
        clear h; intro v15 h
        refine lv_istore (lv' := [(4, .int v15), (0, .ref (o.2.1 17 0)), (1, .int x1), (2, .int x2), (3, .int x3)]) hx hb dX5_isAhead_126 hl (by decide) rfl ?_
        clear hl; clear ls; intro ls hl
        refine lv_aload_n hx hb dX5_isAhead_128 rfl (lv_at hl 1 rfl) ?_
        refine lv_iload_n hx hb dX5_isAhead_129 rfl (lv_at hl 3 rfl) ?_
        refine g_ci hw (g_runV (As := [.int x2]) (rest := []) hx hb hml hown hts mX5_ends vX5_ends kX5_36 hw 17 0 (ci_17 (by decide)) (bi_17 (by decide) hn) rfl rfl (c_X5_ends hn h) rfl rfl ⟨Nat.le_of_ble_eq_true rfl, Nat.le_of_ble_eq_true rfl⟩ rfl hl.1 rfl (Nat.le_of_ble_eq_true rfl) dX5_isAhead_130 ⟨Nat.zero_le _, Nat.zero_le _⟩) ?_
        clear h hw; intro v17 M16 H locs hw h
        refine lv_aload_n hx hb dX5_isAhead_133 rfl (lv_at hl 1 rfl) ?_
        refine lv_iload_n hx hb dX5_isAhead_134 rfl (lv_at hl 3 rfl) ?_
        refine g_ci hw (g_runV (As := [.int x2]) (rest := [.int v17]) hx hb hml hown hts mX5_begins vX5_begins kX5_40 hw 17 0 (ci_17 (by decide)) (bi_17 (by decide) hn) rfl rfl (c_X5_begins hn h) rfl rfl ⟨Nat.le_of_ble_eq_true rfl, Nat.le_of_ble_eq_true rfl⟩ rfl hl.1 rfl (Nat.le_of_ble_eq_true rfl) dX5_isAhead_135 ⟨Nat.zero_le _, Nat.zero_le _⟩) ?_
        clear h hw; intro v19 M18 H locs hw h
        refine lv_isub hx hb dX5_isAhead_138 ?_
        refine g_topi h ?_
        clear h; intro v20 h
        refine lv_istore (lv' := [(5, .int v20), (4, .int v15), (0, .ref (o.2.1 17 0)), (1, .int x1), (2, .int x2), (3, .int x3)]) hx hb dX5_isAhead_139 hl (by decide) rfl ?_
        clear hl; clear ls; intro ls hl
        refine lv_iload hx hb dX5_isAhead_141 (lv_at hl 1 rfl) ?_
        refine lv_iload hx hb dX5_isAhead_143 (lv_at hl 0 rfl) ?_
        refine g_icmp_eq (tgt := 161) hx hb h dX5_isAhead_145 (by decide) ?_ ?_
        · clear h; intro h
          refine lv_aload_n hx hb dX5_isAhead_161 rfl (lv_at hl 2 rfl) ?_
          refine lv_iload_n hx hb dX5_isAhead_162 rfl (lv_at hl 3 rfl) ?_
          refine g_ci hw (g_runV (As := [.int x1]) (rest := []) hx hb hml hown hts mX5_rankOf vX5_rankOf kX5_64 hw 17 0 (ci_17 (by decide)) (bi_17 (by decide) hn) rfl rfl (c_X5_rankOf hn h) rfl rfl ⟨Nat.le_of_ble_eq_true rfl, Nat.le_of_ble_eq_true rfl⟩ rfl hl.1 rfl (Nat.le_of_ble_eq_true rfl) dX5_isAhead_163 ⟨Nat.zero_le _, Nat.zero_le _⟩) ?_
          clear h hw; intro v22 M21 H locs hw h
          refine lv_aload_n hx hb dX5_isAhead_166 rfl (lv_at hl 2 rfl) ?_
          refine lv_iload_n hx hb dX5_isAhead_167 rfl (lv_at hl 4 rfl) ?_
          refine g_ci hw (g_runV (As := [.int x2]) (rest := [.int v22]) hx hb hml hown hts mX5_rankOf vX5_rankOf kX5_64 hw 17 0 (ci_17 (by decide)) (bi_17 (by decide) hn) rfl rfl (c_X5_rankOf hn h) rfl rfl ⟨Nat.le_of_ble_eq_true rfl, Nat.le_of_ble_eq_true rfl⟩ rfl hl.1 rfl (Nat.le_of_ble_eq_true rfl) dX5_isAhead_168 ⟨Nat.zero_le _, Nat.zero_le _⟩) ?_
          clear h hw; intro v24 M23 H locs hw h
          refine g_icmp_eq (tgt := 195) hx hb h dX5_isAhead_171 (by decide) ?_ ?_
          · clear h; intro h
            refine lv_iload_n hx hb dX5_isAhead_195 rfl (lv_at hl 3 rfl) ?_
            refine lv_iload_n hx hb dX5_isAhead_196 rfl (lv_at hl 4 rfl) ?_
            refine g_icmp_ge (tgt := 204) hx hb h dX5_isAhead_197 (by decide) ?_ ?_
            · clear h; intro h
              refine lv_iconst (v := 0) hx hb dX5_isAhead_204 (by decide) ?_
              exact g_zret hx hb hr hlocks hw (Or.inl rfl) h dX5_isAhead_205
            · clear h; intro h
              refine lv_iconst (v := 1) hx hb dX5_isAhead_200 (by decide) ?_
              refine lv_goto (tgt := 205) hx hb dX5_isAhead_201 (by decide) ?_
              exact g_zret hx hb hr hlocks hw (Or.inr rfl) h dX5_isAhead_205
          · clear h; intro h
            refine lv_aload_n hx hb dX5_isAhead_174 rfl (lv_at hl 2 rfl) ?_
            refine lv_iload_n hx hb dX5_isAhead_175 rfl (lv_at hl 3 rfl) ?_
            refine g_ci hw (g_runV (As := [.int x1]) (rest := []) hx hb hml hown hts mX5_rankOf vX5_rankOf kX5_64 hw 17 0 (ci_17 (by decide)) (bi_17 (by decide) hn) rfl rfl (c_X5_rankOf hn h) rfl rfl ⟨Nat.le_of_ble_eq_true rfl, Nat.le_of_ble_eq_true rfl⟩ rfl hl.1 rfl (Nat.le_of_ble_eq_true rfl) dX5_isAhead_176 ⟨Nat.zero_le _, Nat.zero_le _⟩) ?_
            clear h hw; intro v26 M25 H locs hw h
            refine lv_aload_n hx hb dX5_isAhead_179 rfl (lv_at hl 2 rfl) ?_
            refine lv_iload_n hx hb dX5_isAhead_180 rfl (lv_at hl 4 rfl) ?_
            refine g_ci hw (g_runV (As := [.int x2]) (rest := [.int v26]) hx hb hml hown hts mX5_rankOf vX5_rankOf kX5_64 hw 17 0 (ci_17 (by decide)) (bi_17 (by decide) hn) rfl rfl (c_X5_rankOf hn h) rfl rfl ⟨Nat.le_of_ble_eq_true rfl, Nat.le_of_ble_eq_true rfl⟩ rfl hl.1 rfl (Nat.le_of_ble_eq_true rfl) dX5_isAhead_181 ⟨Nat.zero_le _, Nat.zero_le _⟩) ?_
            clear h hw; intro v28 M27 H locs hw h
            refine g_icmp_le (tgt := 191) hx hb h dX5_isAhead_184 (by decide) ?_ ?_
            · clear h; intro h
              refine lv_iconst (v := 0) hx hb dX5_isAhead_191 (by decide) ?_
              refine lv_goto (tgt := 205) hx hb dX5_isAhead_192 (by decide) ?_
              exact g_zret hx hb hr hlocks hw (Or.inl rfl) h dX5_isAhead_205
            · clear h; intro h
              refine lv_iconst (v := 1) hx hb dX5_isAhead_187 (by decide) ?_
              refine lv_goto (tgt := 205) hx hb dX5_isAhead_188 (by decide) ?_
              exact g_zret hx hb hr hlocks hw (Or.inr rfl) h dX5_isAhead_205
        · clear h; intro h
          refine lv_iload hx hb dX5_isAhead_148 (lv_at hl 1 rfl) ?_
          refine lv_iload hx hb dX5_isAhead_150 (lv_at hl 0 rfl) ?_
          refine g_icmp_le (tgt := 159) hx hb h dX5_isAhead_152 (by decide) ?_ ?_
          · clear h; intro h
            refine lv_iconst (v := 0) hx hb dX5_isAhead_159 (by decide) ?_
            exact g_zret hx hb hr hlocks hw (Or.inl rfl) h dX5_isAhead_160
          · clear h; intro h
            refine lv_iconst (v := 1) hx hb dX5_isAhead_155 (by decide) ?_
            refine lv_goto (tgt := 160) hx hb dX5_isAhead_156 (by decide) ?_
            exact g_zret hx hb hr hlocks hw (Or.inr rfl) h dX5_isAhead_160
      · clear h; intro h
        refine lv_aload_n hx hb dX5_isAhead_96 rfl (lv_at hl 0 rfl) ?_
        refine lv_iload_n hx hb dX5_isAhead_97 rfl (lv_at hl 1 rfl) ?_
        refine g_ci hw (g_runV (As := [.int x1]) (rest := []) hx hb hml hown hts mX5_begins vX5_begins kX5_40 hw 17 0 (ci_17 (by decide)) (bi_17 (by decide) hn) rfl rfl (c_X5_begins hn h) rfl rfl ⟨Nat.le_of_ble_eq_true rfl, Nat.le_of_ble_eq_true rfl⟩ rfl hl.1 rfl (Nat.le_of_ble_eq_true rfl) dX5_isAhead_98 ⟨Nat.zero_le _, Nat.zero_le _⟩) ?_
        clear h hw; intro v30 M29 H locs hw h
        refine lv_aload_n hx hb dX5_isAhead_101 rfl (lv_at hl 0 rfl) ?_
        refine lv_iload_n hx hb dX5_isAhead_102 rfl (lv_at hl 2 rfl) ?_
        refine g_ci hw (g_runV (As := [.int x2]) (rest := [.int v30]) hx hb hml hown hts mX5_begins vX5_begins kX5_40 hw 17 0 (ci_17 (by decide)) (bi_17 (by decide) hn) rfl rfl (c_X5_begins hn h) rfl rfl ⟨Nat.le_of_ble_eq_true rfl, Nat.le_of_ble_eq_true rfl⟩ rfl hl.1 rfl (Nat.le_of_ble_eq_true rfl) dX5_isAhead_103 ⟨Nat.zero_le _, Nat.zero_le _⟩) ?_
        clear h hw; intro v32 M31 H locs hw h
        refine g_icmp_ge (tgt := 113) hx hb h dX5_isAhead_106 (by decide) ?_ ?_
        · clear h; intro h
          refine lv_iconst (v := 0) hx hb dX5_isAhead_113 (by decide) ?_
          exact g_zret hx hb hr hlocks hw (Or.inl rfl) h dX5_isAhead_114
        · clear h; intro h
          refine lv_iconst (v := 1) hx hb dX5_isAhead_109 (by decide) ?_
          refine lv_goto (tgt := 114) hx hb dX5_isAhead_110 (by decide) ?_
          exact g_zret hx hb hr hlocks hw (Or.inr rfl) h dX5_isAhead_114
    · clear h; intro h
      refine lv_iload_n hx hb dX5_isAhead_31 rfl (lv_at hl 3 rfl) ?_
      refine g_if_ne (tgt := 48) hx hb h dX5_isAhead_32 (by decide) ?_ ?_
      · clear h; intro h
        refine lv_aload_n hx hb dX5_isAhead_48 rfl (lv_at hl 0 rfl) ?_
        refine g_getf hx hb hts in_X5 hown hw 17 0 (ci_17 (by decide)) (bi_17 (by decide) hn) rfl rfl 4 (by decide) kX5_16 rfl dX5_isAhead_49 ?_
        refine lv_bipush (v := 7) hx hb dX5_isAhead_52 (by decide) ?_
        refine lv_iload_n hx hb dX5_isAhead_54 rfl (lv_at hl 1 rfl) ?_
        refine lv_imul hx hb dX5_isAhead_55 ?_
        refine lv_iload_n hx hb dX5_isAhead_56 rfl (lv_at hl 3 rfl) ?_
        refine lv_iadd hx hb dX5_isAhead_57 ?_
        refine lv_iconst (v := 1) hx hb dX5_isAhead_58 (by decide) ?_
        refine lv_isub hx hb dX5_isAhead_59 ?_
        refine g_iald hx hb hw 20 0 (ci_20 (by decide)) (bi_20 (by decide) hn) rfl h dX5_isAhead_60 ?_
        clear h; intro v33 h
        refine lv_aload_n hx hb dX5_isAhead_61 rfl (lv_at hl 0 rfl) ?_
        refine g_getf hx hb hts in_X5 hown hw 17 0 (ci_17 (by decide)) (bi_17 (by decide) hn) rfl rfl 4 (by decide) kX5_16 rfl dX5_isAhead_62 ?_
        refine lv_bipush (v := 7) hx hb dX5_isAhead_65 (by decide) ?_
        refine lv_iload_n hx hb dX5_isAhead_67 rfl (lv_at hl 2 rfl) ?_
        refine lv_imul hx hb dX5_isAhead_68 ?_
        refine lv_iload_n hx hb dX5_isAhead_69 rfl (lv_at hl 3 rfl) ?_
        refine lv_iadd hx hb dX5_isAhead_70 ?_
        refine lv_iconst (v := 1) hx hb dX5_isAhead_71 (by decide) ?_
        refine lv_isub hx hb dX5_isAhead_72 ?_
        refine g_iald hx hb hw 20 0 (ci_20 (by decide)) (bi_20 (by decide) hn) rfl h dX5_isAhead_73 ?_
        clear h; intro v34 h
        refine g_icmp_ge (tgt := 81) hx hb h dX5_isAhead_74 (by decide) ?_ ?_
        · clear h; intro h
          refine lv_iconst (v := 0) hx hb dX5_isAhead_81 (by decide) ?_
          exact g_zret hx hb hr hlocks hw (Or.inl rfl) h dX5_isAhead_82
        · clear h; intro h
          refine lv_iconst (v := 1) hx hb dX5_isAhead_77 (by decide) ?_
          refine lv_goto (tgt := 82) hx hb dX5_isAhead_78 (by decide) ?_
          exact g_zret hx hb hr hlocks hw (Or.inr rfl) h dX5_isAhead_82
      · clear h; intro h
        refine lv_iload_n hx hb dX5_isAhead_35 rfl (lv_at hl 1 rfl) ?_
        refine lv_iload_n hx hb dX5_isAhead_36 rfl (lv_at hl 2 rfl) ?_
        refine g_icmp_ge (tgt := 44) hx hb h dX5_isAhead_37 (by decide) ?_ ?_
        · clear h; intro h
          refine lv_iconst (v := 0) hx hb dX5_isAhead_44 (by decide) ?_
          refine lv_goto (tgt := 82) hx hb dX5_isAhead_45 (by decide) ?_
          exact g_zret hx hb hr hlocks hw (Or.inl rfl) h dX5_isAhead_82
        · clear h; intro h
          refine lv_iconst (v := 1) hx hb dX5_isAhead_40 (by decide) ?_
          refine lv_goto (tgt := 82) hx hb dX5_isAhead_41 (by decide) ?_
          exact g_zret hx hb hr hlocks hw (Or.inr rfl) h dX5_isAhead_82
  · clear h; intro h
    refine lv_aload_n hx hb dX5_isAhead_15 rfl (lv_at hl 0 rfl) ?_
    refine lv_iload_n hx hb dX5_isAhead_16 rfl (lv_at hl 1 rfl) ?_
    refine lv_iload_n hx hb dX5_isAhead_17 rfl (lv_at hl 3 rfl) ?_
    refine g_cz hw (g_runV (As := [.int x1, .int x3]) (rest := []) hx hb hml hown hts mX5_beganBefore vX5_beganBefore kX5_60 hw 17 0 (ci_17 (by decide)) (bi_17 (by decide) hn) rfl rfl (c_X5_beganBefore hn h) rfl rfl ⟨Nat.le_of_ble_eq_true rfl, Nat.le_of_ble_eq_true rfl⟩ rfl hl.1 rfl (Nat.le_of_ble_eq_true rfl) dX5_isAhead_18 ⟨Nat.zero_le _, Nat.zero_le _⟩) ?_
    clear h hw; intro v36 M35 H locs hw hz_v36 h
    exact g_zret hx hb hr hlocks hw hz_v36 h dX5_isAhead_21
abbrev rm_X5_meetsIn : Room := { frames := 1, cells := 0, slots := 0, locals := 21 }
set_option maxHeartbeats 4000000 in
set_option maxRecDepth 100000 in
theorem c_X5_meetsIn {o : Om} {l : Launch} (hn : 122 ≤ o.2.2.2) {M : Mm} {x1 : Int32} {x2 : Int32} {x3 : Int32} {Q : Int32 → Mm → Prop} (h : w_X5_meetsIn M x1 x2 x3 Q) : CZ o l yX5_meetsIn cX5_meetsIn 6 rm_X5_meetsIn [.ref (o.2.1 17 0), .int x1, .int x2, .int x3] M Q := by
  refine g_start (by decide +kernel) (Nat.le_of_ble_eq_true rfl) ?_
  intro p e s m args below meth c hx hb hr hlocks hml hown hts hw ls hl
  replace hl : lv_has ls 6 [(0, .ref (o.2.1 17 0)), (1, .int x1), (2, .int x2), (3, .int x3)] := hl
  unfold w_X5_meetsIn at h
  refine lv_aload_n hx hb dX5_meetsIn_0 rfl (lv_at hl 0 rfl) ?_
  refine lv_iload_n hx hb dX5_meetsIn_1 rfl (lv_at hl 1 rfl) ?_
  refine g_ci hw (g_runV (As := [.int x1]) (rest := []) hx hb hml hown hts mX5_begins vX5_begins kX5_40 hw 17 0 (ci_17 (by decide)) (bi_17 (by decide) hn) rfl rfl (c_X5_begins hn h) rfl rfl ⟨Nat.le_of_ble_eq_true rfl, Nat.le_of_ble_eq_true rfl⟩ rfl hl.1 rfl (Nat.le_of_ble_eq_true rfl) dX5_meetsIn_2 ⟨Nat.zero_le _, Nat.zero_le _⟩) ?_
  clear h hw; intro v2 M1 H locs hw h
  refine lv_aload_n hx hb dX5_meetsIn_5 rfl (lv_at hl 0 rfl) ?_
  refine lv_iload_n hx hb dX5_meetsIn_6 rfl (lv_at hl 2 rfl) ?_
  refine g_ci hw (g_runV (As := [.int x2]) (rest := [.int v2]) hx hb hml hown hts mX5_begins vX5_begins kX5_40 hw 17 0 (ci_17 (by decide)) (bi_17 (by decide) hn) rfl rfl (c_X5_begins hn h) rfl rfl ⟨Nat.le_of_ble_eq_true rfl, Nat.le_of_ble_eq_true rfl⟩ rfl hl.1 rfl (Nat.le_of_ble_eq_true rfl) dX5_meetsIn_7 ⟨Nat.zero_le _, Nat.zero_le _⟩) ?_
  clear h hw; intro v4 M3 H locs hw h
  refine letJ_W (fun (x : Int32 × Mm) => ∀ (H : Heap) (locs : List Loc) (ls : Array Slot), WO o (WA o) s s.heap H locs x.2 → lv_has ls 6 [(0, .ref (o.2.1 17 0)), (1, .int x1), (2, .int x2), (3, .int x3)] → W p l e rm_X5_meetsIn s m args below meth c H locs 0 0 (MQ below (QZ o Q) args s 0 0 (WA o)) (F0 m 26 ls [.int x.1])) h ?_ ?_
  · clear h hw hl; clear ls; intro x h H locs ls hw hl
    obtain ⟨v5, M7⟩ := x
    replace hl : lv_has ls 6 [(0, .ref (o.2.1 17 0)), (1, .int x1), (2, .int x2), (3, .int x3)] := hl
    dsimp only at h
    dsimp only at hw
    refine lv_istore (lv' := [(4, .int v5), (0, .ref (o.2.1 17 0)), (1, .int x1), (2, .int x2), (3, .int x3)]) hx hb dX5_meetsIn_26 hl (by decide) rfl ?_
    clear hl; clear ls; intro ls hl
    refine lv_aload_n hx hb dX5_meetsIn_28 rfl (lv_at hl 1 rfl) ?_
    refine lv_iload_n hx hb dX5_meetsIn_29 rfl (lv_at hl 2 rfl) ?_
    refine g_ci hw (g_runV (As := [.int x1]) (rest := []) hx hb hml hown hts mX5_ends vX5_ends kX5_36 hw 17 0 (ci_17 (by decide)) (bi_17 (by decide) hn) rfl rfl (c_X5_ends hn h) rfl rfl ⟨Nat.le_of_ble_eq_true rfl, Nat.le_of_ble_eq_true rfl⟩ rfl hl.1 rfl (Nat.le_of_ble_eq_true rfl) dX5_meetsIn_30 ⟨Nat.zero_le _, Nat.zero_le _⟩) ?_
    clear h hw; intro v9 M8 H locs hw h
    refine lv_aload_n hx hb dX5_meetsIn_33 rfl (lv_at hl 1 rfl) ?_
    refine lv_iload_n hx hb dX5_meetsIn_34 rfl (lv_at hl 3 rfl) ?_
    refine g_ci hw (g_runV (As := [.int x2]) (rest := [.int v9]) hx hb hml hown hts mX5_ends vX5_ends kX5_36 hw 17 0 (ci_17 (by decide)) (bi_17 (by decide) hn) rfl rfl (c_X5_ends hn h) rfl rfl ⟨Nat.le_of_ble_eq_true rfl, Nat.le_of_ble_eq_true rfl⟩ rfl hl.1 rfl (Nat.le_of_ble_eq_true rfl) dX5_meetsIn_35 ⟨Nat.zero_le _, Nat.zero_le _⟩) ?_
    clear h hw; intro v11 M10 H locs hw h
    refine letJ_W (fun (x : Int32 × Mm) => ∀ (H : Heap) (locs : List Loc) (ls : Array Slot), WO o (WA o) s s.heap H locs x.2 → lv_has ls 6 [(0, .ref (o.2.1 17 0)), (3, .int x3), (4, .int v5)] → W p l e rm_X5_meetsIn s m args below meth c H locs 0 0 (MQ below (QZ o Q) args s 0 0 (WA o)) (F0 m 54 ls [.int x.1])) h ?_ ?_
    · clear h hw hl; clear ls; intro x h H locs ls hw hl
      obtain ⟨v12, M14⟩ := x
      replace hl : lv_has ls 6 [(0, .ref (o.2.1 17 0)), (3, .int x3), (4, .int v5)] := hl
      dsimp only at h
      dsimp only at hw
      refine lv_istore (lv' := [(5, .int v12), (0, .ref (o.2.1 17 0)), (3, .int x3), (4, .int v5)]) hx hb dX5_meetsIn_54 hl (by decide) rfl ?_
      clear hl; clear ls; intro ls hl
      refine lv_iload hx hb dX5_meetsIn_56 (lv_at hl 3 rfl) ?_
      refine lv_aload_n hx hb dX5_meetsIn_58 rfl (lv_at hl 1 rfl) ?_
      refine g_getf hx hb hts in_X5 hown hw 17 0 (ci_17 (by decide)) (bi_17 (by decide) hn) rfl rfl 6 (by decide) kX5_22 rfl dX5_meetsIn_59 ?_
      refine lv_iload_n hx hb dX5_meetsIn_62 rfl (lv_at hl 2 rfl) ?_
      refine lv_iconst (v := 1) hx hb dX5_meetsIn_63 (by decide) ?_
      refine lv_iadd hx hb dX5_meetsIn_64 ?_
      refine g_iald hx hb hw 22 0 (ci_22 (by decide)) (bi_22 (by decide) hn) rfl h dX5_meetsIn_65 ?_
      clear h; intro v15 h
      refine g_icmp_ge (tgt := 84) hx hb h dX5_meetsIn_66 (by decide) ?_ ?_
      · clear h; intro h
        refine lv_iconst (v := 0) hx hb dX5_meetsIn_84 (by decide) ?_
        exact g_zret hx hb hr hlocks hw (Or.inl rfl) h dX5_meetsIn_85
      · clear h; intro h
        refine lv_iload hx hb dX5_meetsIn_69 (lv_at hl 0 rfl) ?_
        refine lv_aload_n hx hb dX5_meetsIn_71 rfl (lv_at hl 1 rfl) ?_
        refine g_getf hx hb hts in_X5 hown hw 17 0 (ci_17 (by decide)) (bi_17 (by decide) hn) rfl rfl 6 (by decide) kX5_22 rfl dX5_meetsIn_72 ?_
        refine lv_iload_n hx hb dX5_meetsIn_75 rfl (lv_at hl 2 rfl) ?_
        refine g_iald hx hb hw 22 0 (ci_22 (by decide)) (bi_22 (by decide) hn) rfl h dX5_meetsIn_76 ?_
        clear h; intro v16 h
        refine g_icmp_lt (tgt := 84) hx hb h dX5_meetsIn_77 (by decide) ?_ ?_
        · clear h; intro h
          refine lv_iconst (v := 0) hx hb dX5_meetsIn_84 (by decide) ?_
          exact g_zret hx hb hr hlocks hw (Or.inl rfl) h dX5_meetsIn_85
        · clear h; intro h
          refine lv_iconst (v := 1) hx hb dX5_meetsIn_80 (by decide) ?_
          refine lv_goto (tgt := 85) hx hb dX5_meetsIn_81 (by decide) ?_
          exact g_zret hx hb hr hlocks hw (Or.inr rfl) h dX5_meetsIn_85
    clear h; intro J13 hJ13 h
    refine g_icmp_ge (tgt := 49) hx hb h dX5_meetsIn_38 (by decide) ?_ ?_
    · clear h; intro h
      refine lv_aload_n hx hb dX5_meetsIn_49 rfl (lv_at hl 1 rfl) ?_
      refine lv_iload_n hx hb dX5_meetsIn_50 rfl (lv_at hl 3 rfl) ?_
      refine g_ci hw (g_runV (As := [.int x2]) (rest := []) hx hb hml hown hts mX5_ends vX5_ends kX5_36 hw 17 0 (ci_17 (by decide)) (bi_17 (by decide) hn) rfl rfl (c_X5_ends hn h) rfl rfl ⟨Nat.le_of_ble_eq_true rfl, Nat.le_of_ble_eq_true rfl⟩ rfl hl.1 rfl (Nat.le_of_ble_eq_true rfl) dX5_meetsIn_51 ⟨Nat.zero_le _, Nat.zero_le _⟩) ?_
      clear h hw; intro v18 M17 H locs hw h
      exact hJ13 (v18, M17) h _ _ _ hw (lv_sub hl [1, 4, 0] rfl)
    · clear h; intro h
      refine lv_aload_n hx hb dX5_meetsIn_41 rfl (lv_at hl 1 rfl) ?_
      refine lv_iload_n hx hb dX5_meetsIn_42 rfl (lv_at hl 2 rfl) ?_
      refine g_ci hw (g_runV (As := [.int x1]) (rest := []) hx hb hml hown hts mX5_ends vX5_ends kX5_36 hw 17 0 (ci_17 (by decide)) (bi_17 (by decide) hn) rfl rfl (c_X5_ends hn h) rfl rfl ⟨Nat.le_of_ble_eq_true rfl, Nat.le_of_ble_eq_true rfl⟩ rfl hl.1 rfl (Nat.le_of_ble_eq_true rfl) dX5_meetsIn_43 ⟨Nat.zero_le _, Nat.zero_le _⟩) ?_
      clear h hw; intro v20 M19 H locs hw h
      refine lv_goto (tgt := 54) hx hb dX5_meetsIn_46 (by decide) ?_
      exact hJ13 (v20, M19) h _ _ _ hw (lv_sub hl [1, 4, 0] rfl)
  clear h; intro J6 hJ6 h
  refine g_icmp_le (tgt := 21) hx hb h dX5_meetsIn_10 (by decide) ?_ ?_
  · clear h; intro h
    refine lv_aload_n hx hb dX5_meetsIn_21 rfl (lv_at hl 0 rfl) ?_
    refine lv_iload_n hx hb dX5_meetsIn_22 rfl (lv_at hl 2 rfl) ?_
    refine g_ci hw (g_runV (As := [.int x2]) (rest := []) hx hb hml hown hts mX5_begins vX5_begins kX5_40 hw 17 0 (ci_17 (by decide)) (bi_17 (by decide) hn) rfl rfl (c_X5_begins hn h) rfl rfl ⟨Nat.le_of_ble_eq_true rfl, Nat.le_of_ble_eq_true rfl⟩ rfl hl.1 rfl (Nat.le_of_ble_eq_true rfl) dX5_meetsIn_23 ⟨Nat.zero_le _, Nat.zero_le _⟩) ?_
    clear h hw; intro v22 M21 H locs hw h
    exact hJ6 (v22, M21) h _ _ _ hw (lv_sub hl [0, 1, 2, 3] rfl)
  · clear h; intro h
    refine lv_aload_n hx hb dX5_meetsIn_13 rfl (lv_at hl 0 rfl) ?_
    refine lv_iload_n hx hb dX5_meetsIn_14 rfl (lv_at hl 1 rfl) ?_
    refine g_ci hw (g_runV (As := [.int x1]) (rest := []) hx hb hml hown hts mX5_begins vX5_begins kX5_40 hw 17 0 (ci_17 (by decide)) (bi_17 (by decide) hn) rfl rfl (c_X5_begins hn h) rfl rfl ⟨Nat.le_of_ble_eq_true rfl, Nat.le_of_ble_eq_true rfl⟩ rfl hl.1 rfl (Nat.le_of_ble_eq_true rfl) dX5_meetsIn_15 ⟨Nat.zero_le _, Nat.zero_le _⟩) ?_
    clear h hw; intro v24 M23 H locs hw h
    refine lv_goto (tgt := 26) hx hb dX5_meetsIn_18 (by decide) ?_
    exact hJ6 (v24, M23) h _ _ _ hw (lv_sub hl [0, 1, 2, 3] rfl)
abbrev rm_X5_isFree : Room := { frames := 2, cells := 0, slots := 0, locals := 46 }
set_option maxHeartbeats 4000000 in
set_option maxRecDepth 100000 in
theorem c_X5_isFree {o : Om} {l : Launch} (hn : 122 ≤ o.2.2.2) {M : Mm} {x1 : Int32} {x2 : Int32} {x3 : Int32} {Q : Int32 → Mm → Prop} (h : w_X5_isFree M x1 x2 x3 Q) : CZ o l yX5_isFree cX5_isFree 7 rm_X5_isFree [.ref (o.2.1 17 0), .int x1, .int x2, .int x3] M Q := by
  refine g_start (by decide +kernel) (Nat.le_of_ble_eq_true rfl) ?_
  intro p e s m args below meth c hx hb hr hlocks hml hown hts hw ls hl
  replace hl : lv_has ls 7 [(0, .ref (o.2.1 17 0)), (1, .int x1), (2, .int x2), (3, .int x3)] := hl
  unfold w_X5_isFree at h
  refine lv_iconst (v := 1) hx hb dX5_isFree_0 (by decide) ?_
  refine lv_istore (lv' := [(4, .int (1 : Int32)), (0, .ref (o.2.1 17 0)), (1, .int x1), (2, .int x2), (3, .int x3)]) hx hb dX5_isFree_1 hl (by decide) rfl ?_
  clear hl; clear ls; intro ls hl
  refine lv_iconst (v := 0) hx hb dX5_isFree_3 (by decide) ?_
  refine lv_istore (lv' := [(5, .int (0 : Int32)), (4, .int (1 : Int32)), (0, .ref (o.2.1 17 0)), (1, .int x1), (2, .int x2), (3, .int x3)]) hx hb dX5_isFree_4 hl (by decide) rfl ?_
  clear hl; clear ls; intro ls hl
  obtain ⟨n, h⟩ := h
  refine letK_W (body := fun K => w_X5_isFree_L6 x1 x2 x3 K) (fun (x : Int32 × Int32 × Mm) => ∀ (H : Heap) (locs : List Loc) (ls : Array Slot), WO o (WA o) s s.heap H locs x.2.2 → lv_has ls 7 [(4, .int x.1)] → W p l e rm_X5_isFree s m args below meth c H locs 0 0 (MQ below (QZ o Q) args s 0 0 (WA o)) (F0 m 108 ls [])) h ?_ ?_
  · clear h hw hl; clear ls; intro x h H locs ls hw hl
    obtain ⟨v27, v28, M29⟩ := x
    replace hl : lv_has ls 7 [(4, .int v27)] := hl
    dsimp only at h hw
    refine lv_iload hx hb dX5_isFree_108 (lv_at hl 0 rfl) ?_
    exact g_zret hx hb hr hlocks hw h.1 h.2 dX5_isFree_110
  clear h; intro K4 hK4 h
  refine loop_W (body := w_X5_isFree_L6 x1 x2 x3 K4) (fun (x : Int32 × Int32 × Mm) => ∀ (H : Heap) (locs : List Loc) (ls : Array Slot), WO o (WA o) s s.heap H locs x.2.2 → lv_has ls 7 [(0, .ref (o.2.1 17 0)), (1, .int x1), (2, .int x2), (3, .int x3), (4, .int x.1), (5, .int x.2.1)] → W p l e rm_X5_isFree s m args below meth c H locs 0 0 (MQ below (QZ o Q) args s 0 0 (WA o)) (F0 m 6 ls [])) ?_ n _ h _ _ _ hw (lv_sub hl [2, 3, 4, 5, 1, 0] rfl)
  clear h hw hl; clear ls; intro R5 x hR5 h H locs ls hw hl
  obtain ⟨v1, v2, M3⟩ := x
  replace hl : lv_has ls 7 [(0, .ref (o.2.1 17 0)), (1, .int x1), (2, .int x2), (3, .int x3), (4, .int v1), (5, .int v2)] := hl
  dsimp only at hw
  unfold w_X5_isFree_L6 at h
  dsimp only at h
  refine lv_iload hx hb dX5_isFree_6 (lv_at hl 5 rfl) ?_
  refine lv_aload_n hx hb dX5_isFree_8 rfl (lv_at hl 0 rfl) ?_
  refine g_getf hx hb hts in_X5 hown hw 17 0 (ci_17 (by decide)) (bi_17 (by decide) hn) rfl rfl 0 (by decide) kX5_7 rfl dX5_isFree_9 ?_
  refine lv_iconst (v := 4) hx hb dX5_isFree_12 (by decide) ?_
  refine g_iald hx hb hw 18 0 (ci_18 (by decide)) (bi_18 (by decide) hn) rfl h dX5_isFree_13 ?_
  clear h; intro v6 h
  refine g_icmp_ge (tgt := 108) hx hb h dX5_isFree_14 (by decide) ?_ ?_
  · clear h; intro h
    exact hK4 (v1, v2, M3) h _ _ _ hw (lv_sub hl [4] rfl)
  · clear h; intro h
    refine lv_iload hx hb dX5_isFree_17 (lv_at hl 5 rfl) ?_
    refine lv_iload_n hx hb dX5_isFree_19 rfl (lv_at hl 1 rfl) ?_
    refine letJ_W (fun (x : Int32) => ∀ (H : Heap) (locs : List Loc) (ls : Array Slot), WO o (WA o) s s.heap H locs M3 → lv_has ls 7 [(0, .ref (o.2.1 17 0)), (1, .int x1), (2, .int x2), (3, .int x3), (4, .int v1), (5, .int v2)] → W p l e rm_X5_isFree s m args below meth c H locs 0 0 (MQ below (QZ o Q) args s 0 0 (WA o)) (F0 m 44 ls [.int x])) h ?_ ?_
    · clear h hw hl; clear ls; intro x h H locs ls hw hl
      obtain ⟨v7, rfl⟩ : ∃ z, z = x := ⟨_, rfl⟩
      replace hl : lv_has ls 7 [(0, .ref (o.2.1 17 0)), (1, .int x1), (2, .int x2), (3, .int x3), (4, .int v1), (5, .int v2)] := hl
      refine lv_istore (lv' := [(6, .int v7), (0, .ref (o.2.1 17 0)), (1, .int x1), (2, .int x2), (3, .int x3), (4, .int v1), (5, .int v2)]) hx hb dX5_isFree_44 hl (by decide) rfl ?_
      clear hl; clear ls; intro ls hl
      refine lv_iload hx hb dX5_isFree_46 (lv_at hl 5 rfl) ?_
      refine g_if_eq (tgt := 99) hx hb h dX5_isFree_48 (by decide) ?_ ?_
      · clear h; intro h
        refine lv_iconst (v := 0) hx hb dX5_isFree_99 (by decide) ?_
        refine lv_istore (lv' := [(4, .int (0 : Int32)), (6, .int v7), (0, .ref (o.2.1 17 0)), (1, .int x1), (2, .int x2), (3, .int x3), (5, .int v2)]) hx hb dX5_isFree_100 hl (by decide) rfl ?_
        clear hl; clear ls; intro ls hl
        refine g_iinc (k := 6) (v := (v2 + (1 : Int32))) (lv' := fun v9 => [(5, .int v9), (4, .int (0 : Int32)), (6, .int v7), (0, .ref (o.2.1 17 0)), (1, .int x1), (2, .int x2), (3, .int x3)]) hx hb dX5_isFree_102 hl rfl rfl (by decide) (fun _ => rfl) h ?_
        clear h hl; clear ls; intro v9 ls h hl
        refine lv_goto (tgt := 6) hx hb dX5_isFree_105 (by decide) ?_
        exact hR5 ((0 : Int32), v9, M3) h _ _ _ hw (lv_sub hl [3, 4, 5, 6, 1, 0] rfl)
      · clear h; intro h
        refine lv_iload hx hb dX5_isFree_51 (lv_at hl 0 rfl) ?_
        refine g_if_eq (tgt := 95) hx hb h dX5_isFree_53 (by decide) ?_ ?_
        · clear h; intro h
          refine lv_iconst (v := 1) hx hb dX5_isFree_95 (by decide) ?_
          refine lv_goto (tgt := 100) hx hb dX5_isFree_96 (by decide) ?_
          refine lv_istore (lv' := [(4, .int (1 : Int32)), (6, .int v7), (0, .ref (o.2.1 17 0)), (1, .int x1), (2, .int x2), (3, .int x3), (5, .int v2)]) hx hb dX5_isFree_100 hl (by decide) rfl ?_
          clear hl; clear ls; intro ls hl
          refine g_iinc (k := 6) (v := (v2 + (1 : Int32))) (lv' := fun v10 => [(5, .int v10), (4, .int (1 : Int32)), (6, .int v7), (0, .ref (o.2.1 17 0)), (1, .int x1), (2, .int x2), (3, .int x3)]) hx hb dX5_isFree_102 hl rfl rfl (by decide) (fun _ => rfl) h ?_
          clear h hl; clear ls; intro v10 ls h hl
          refine lv_goto (tgt := 6) hx hb dX5_isFree_105 (by decide) ?_
          exact hR5 ((1 : Int32), v10, M3) h _ _ _ hw (lv_sub hl [3, 4, 5, 6, 1, 0] rfl)
        · clear h; intro h
          refine lv_aload_n hx hb dX5_isFree_56 rfl (lv_at hl 1 rfl) ?_
          refine lv_iload hx hb dX5_isFree_57 (lv_at hl 6 rfl) ?_
          refine g_ci hw (g_runV (As := [.int v2]) (rest := []) hx hb hml hown hts mX5_begins vX5_begins kX5_40 hw 17 0 (ci_17 (by decide)) (bi_17 (by decide) hn) rfl rfl (c_X5_begins hn h) rfl rfl ⟨Nat.le_of_ble_eq_true rfl, Nat.le_of_ble_eq_true rfl⟩ rfl hl.1 rfl (Nat.le_of_ble_eq_true rfl) dX5_isFree_59 ⟨Nat.zero_le _, Nat.zero_le _⟩) ?_
          clear h hw; intro v12 M11 H locs hw h
          refine lv_aload_n hx hb dX5_isFree_62 rfl (lv_at hl 1 rfl) ?_
          refine lv_iload_n hx hb dX5_isFree_63 rfl (lv_at hl 2 rfl) ?_
          refine g_ci hw (g_runV (As := [.int x1]) (rest := [.int v12]) hx hb hml hown hts mX5_ends vX5_ends kX5_36 hw 17 0 (ci_17 (by decide)) (bi_17 (by decide) hn) rfl rfl (c_X5_ends hn h) rfl rfl ⟨Nat.le_of_ble_eq_true rfl, Nat.le_of_ble_eq_true rfl⟩ rfl hl.1 rfl (Nat.le_of_ble_eq_true rfl) dX5_isFree_64 ⟨Nat.zero_le _, Nat.zero_le _⟩) ?_
          clear h hw; intro v14 M13 H locs hw h
          refine g_icmp_gt (tgt := 95) hx hb h dX5_isFree_67 (by decide) ?_ ?_
          · clear h; intro h
            refine lv_iconst (v := 1) hx hb dX5_isFree_95 (by decide) ?_
            refine lv_goto (tgt := 100) hx hb dX5_isFree_96 (by decide) ?_
            refine lv_istore (lv' := [(4, .int (1 : Int32)), (6, .int v7), (0, .ref (o.2.1 17 0)), (1, .int x1), (2, .int x2), (3, .int x3), (5, .int v2)]) hx hb dX5_isFree_100 hl (by decide) rfl ?_
            clear hl; clear ls; intro ls hl
            refine g_iinc (k := 6) (v := (v2 + (1 : Int32))) (lv' := fun v15 => [(5, .int v15), (4, .int (1 : Int32)), (6, .int v7), (0, .ref (o.2.1 17 0)), (1, .int x1), (2, .int x2), (3, .int x3)]) hx hb dX5_isFree_102 hl rfl rfl (by decide) (fun _ => rfl) h ?_
            clear h hl; clear ls; intro v15 ls h hl
            refine lv_goto (tgt := 6) hx hb dX5_isFree_105 (by decide) ?_
            exact hR5 ((1 : Int32), v15, M13) h _ _ _ hw (lv_sub hl [3, 4, 5, 6, 1, 0] rfl)
          · clear h; intro h
            refine lv_aload_n hx hb dX5_isFree_70 rfl (lv_at hl 1 rfl) ?_
            refine lv_iload_n hx hb dX5_isFree_71 rfl (lv_at hl 2 rfl) ?_
            refine g_ci hw (g_runV (As := [.int x1]) (rest := []) hx hb hml hown hts mX5_begins vX5_begins kX5_40 hw 17 0 (ci_17 (by decide)) (bi_17 (by decide) hn) rfl rfl (c_X5_begins hn h) rfl rfl ⟨Nat.le_of_ble_eq_true rfl, Nat.le_of_ble_eq_true rfl⟩ rfl hl.1 rfl (Nat.le_of_ble_eq_true rfl) dX5_isFree_72 ⟨Nat.zero_le _, Nat.zero_le _⟩) ?_
            clear h hw; intro v17 M16 H locs hw h
            refine lv_aload_n hx hb dX5_isFree_75 rfl (lv_at hl 1 rfl) ?_
            refine lv_iload hx hb dX5_isFree_76 (lv_at hl 6 rfl) ?_
            refine g_ci hw (g_runV (As := [.int v2]) (rest := [.int v17]) hx hb hml hown hts mX5_ends vX5_ends kX5_36 hw 17 0 (ci_17 (by decide)) (bi_17 (by decide) hn) rfl rfl (c_X5_ends hn h) rfl rfl ⟨Nat.le_of_ble_eq_true rfl, Nat.le_of_ble_eq_true rfl⟩ rfl hl.1 rfl (Nat.le_of_ble_eq_true rfl) dX5_isFree_78 ⟨Nat.zero_le _, Nat.zero_le _⟩) ?_
            clear h hw; intro v19 M18 H locs hw h
            refine g_icmp_gt (tgt := 95) hx hb h dX5_isFree_81 (by decide) ?_ ?_
            · clear h; intro h
              refine lv_iconst (v := 1) hx hb dX5_isFree_95 (by decide) ?_
              refine lv_goto (tgt := 100) hx hb dX5_isFree_96 (by decide) ?_
              refine lv_istore (lv' := [(4, .int (1 : Int32)), (6, .int v7), (0, .ref (o.2.1 17 0)), (1, .int x1), (2, .int x2), (3, .int x3), (5, .int v2)]) hx hb dX5_isFree_100 hl (by decide) rfl ?_
              clear hl; clear ls; intro ls hl
              refine g_iinc (k := 6) (v := (v2 + (1 : Int32))) (lv' := fun v20 => [(5, .int v20), (4, .int (1 : Int32)), (6, .int v7), (0, .ref (o.2.1 17 0)), (1, .int x1), (2, .int x2), (3, .int x3)]) hx hb dX5_isFree_102 hl rfl rfl (by decide) (fun _ => rfl) h ?_
              clear h hl; clear ls; intro v20 ls h hl
              refine lv_goto (tgt := 6) hx hb dX5_isFree_105 (by decide) ?_
              exact hR5 ((1 : Int32), v20, M18) h _ _ _ hw (lv_sub hl [3, 4, 5, 6, 1, 0] rfl)
            · clear h; intro h
              refine lv_aload_n hx hb dX5_isFree_84 rfl (lv_at hl 1 rfl) ?_
              refine lv_iload hx hb dX5_isFree_85 (lv_at hl 6 rfl) ?_
              refine lv_iload_n hx hb dX5_isFree_87 rfl (lv_at hl 2 rfl) ?_
              refine lv_iload_n hx hb dX5_isFree_88 rfl (lv_at hl 3 rfl) ?_
              refine g_cz hw (g_runV (As := [.int v2, .int x1, .int x2]) (rest := []) hx hb hml hown hts mX5_meetsIn vX5_meetsIn kX5_67 hw 17 0 (ci_17 (by decide)) (bi_17 (by decide) hn) rfl rfl (c_X5_meetsIn hn h) rfl rfl ⟨Nat.le_of_ble_eq_true rfl, Nat.le_of_ble_eq_true rfl⟩ rfl hl.1 rfl (Nat.le_of_ble_eq_true rfl) dX5_isFree_89 ⟨Nat.zero_le _, Nat.zero_le _⟩) ?_
              clear h hw; intro v22 M21 H locs hw hz_v22 h
              refine g_if_ne (tgt := 99) hx hb h dX5_isFree_92 (by decide) ?_ ?_
              · clear h; intro h
                refine lv_iconst (v := 0) hx hb dX5_isFree_99 (by decide) ?_
                refine lv_istore (lv' := [(4, .int (0 : Int32)), (6, .int v7), (0, .ref (o.2.1 17 0)), (1, .int x1), (2, .int x2), (3, .int x3), (5, .int v2)]) hx hb dX5_isFree_100 hl (by decide) rfl ?_
                clear hl; clear ls; intro ls hl
                refine g_iinc (k := 6) (v := (v2 + (1 : Int32))) (lv' := fun v23 => [(5, .int v23), (4, .int (0 : Int32)), (6, .int v7), (0, .ref (o.2.1 17 0)), (1, .int x1), (2, .int x2), (3, .int x3)]) hx hb dX5_isFree_102 hl rfl rfl (by decide) (fun _ => rfl) h ?_
                clear h hl; clear ls; intro v23 ls h hl
                refine lv_goto (tgt := 6) hx hb dX5_isFree_105 (by decide) ?_
                exact hR5 ((0 : Int32), v23, M21) h _ _ _ hw (lv_sub hl [3, 4, 5, 6, 1, 0] rfl)
              · clear h; intro h
                refine lv_iconst (v := 1) hx hb dX5_isFree_95 (by decide) ?_
                refine lv_goto (tgt := 100) hx hb dX5_isFree_96 (by decide) ?_
                refine lv_istore (lv' := [(4, .int (1 : Int32)), (6, .int v7), (0, .ref (o.2.1 17 0)), (1, .int x1), (2, .int x2), (3, .int x3), (5, .int v2)]) hx hb dX5_isFree_100 hl (by decide) rfl ?_
                clear hl; clear ls; intro ls hl
                refine g_iinc (k := 6) (v := (v2 + (1 : Int32))) (lv' := fun v24 => [(5, .int v24), (4, .int (1 : Int32)), (6, .int v7), (0, .ref (o.2.1 17 0)), (1, .int x1), (2, .int x2), (3, .int x3)]) hx hb dX5_isFree_102 hl rfl rfl (by decide) (fun _ => rfl) h ?_
                clear h hl; clear ls; intro v24 ls h hl
                refine lv_goto (tgt := 6) hx hb dX5_isFree_105 (by decide) ?_
                exact hR5 ((1 : Int32), v24, M21) h _ _ _ hw (lv_sub hl [3, 4, 5, 6, 1, 0] rfl)
    clear h; intro J8 hJ8 h
    refine letJ_W (fun (x : Unit) => ∀ (H : Heap) (locs : List Loc) (ls : Array Slot), WO o (WA o) s s.heap H locs M3 → lv_has ls 7 [(0, .ref (o.2.1 17 0)), (1, .int x1), (2, .int x2), (3, .int x3), (4, .int v1), (5, .int v2)] → W p l e rm_X5_isFree s m args below meth c H locs 0 0 (MQ below (QZ o Q) args s 0 0 (WA o)) (F0 m 43 ls [])) h ?_ ?_
    · clear h hw hl; clear ls; intro x h H locs ls hw hl
      replace hl : lv_has ls 7 [(0, .ref (o.2.1 17 0)), (1, .int x1), (2, .int x2), (3, .int x3), (4, .int v1), (5, .int v2)] := hl
      refine lv_iconst (v := 0) hx hb dX5_isFree_43 (by decide) ?_
      exact hJ8 (0 : Int32) h _ _ _ hw (lv_sub hl [0, 1, 2, 3, 4, 5] rfl)
    clear h; intro J25 hJ25 h
    refine g_icmp_eq (tgt := 43) hx hb h dX5_isFree_20 (by decide) ?_ ?_
    · clear h; intro h
      exact hJ25 () h _ _ _ hw (lv_sub hl [0, 1, 2, 3, 4, 5] rfl)
    · clear h; intro h
      refine lv_aload_n hx hb dX5_isFree_23 rfl (lv_at hl 0 rfl) ?_
      refine g_getf hx hb hts in_X5 hown hw 17 0 (ci_17 (by decide)) (bi_17 (by decide) hn) rfl rfl 4 (by decide) kX5_16 rfl dX5_isFree_24 ?_
      refine lv_bipush (v := 7) hx hb dX5_isFree_27 (by decide) ?_
      refine lv_iload hx hb dX5_isFree_29 (lv_at hl 5 rfl) ?_
      refine lv_imul hx hb dX5_isFree_31 ?_
      refine lv_iload_n hx hb dX5_isFree_32 rfl (lv_at hl 2 rfl) ?_
      refine lv_iadd hx hb dX5_isFree_33 ?_
      refine g_iald hx hb hw 20 0 (ci_20 (by decide)) (bi_20 (by decide) hn) rfl h dX5_isFree_34 ?_
      clear h; intro v26 h
      refine lv_iload_n hx hb dX5_isFree_35 rfl (lv_at hl 3 rfl) ?_
      refine g_icmp_ne (tgt := 43) hx hb h dX5_isFree_36 (by decide) ?_ ?_
      · clear h; intro h
        exact hJ25 () h _ _ _ hw (lv_sub hl [0, 1, 2, 3, 4, 5] rfl)
      · clear h; intro h
        refine lv_iconst (v := 1) hx hb dX5_isFree_39 (by decide) ?_
        refine lv_goto (tgt := 44) hx hb dX5_isFree_40 (by decide) ?_
        exact hJ8 (1 : Int32) h _ _ _ hw (lv_sub hl [0, 1, 2, 3, 4, 5] rfl)
abbrev rm_X5_laysBar : Room := { frames := 3, cells := 0, slots := 0, locals := 72 }
set_option maxHeartbeats 4000000 in
set_option maxRecDepth 100000 in
theorem c_X5_laysBar {o : Om} {l : Launch} (hn : 122 ≤ o.2.2.2) {M : Mm} {x1 : Int32} {x2 : Int32} {Q : Mm → Prop} (h : w_X5_laysBar M x1 x2 Q) : CV o l yX5_laysBar cX5_laysBar 5 rm_X5_laysBar [.ref (o.2.1 17 0), .int x1, .int x2] M Q := by
  refine g_start (by decide +kernel) (Nat.le_of_ble_eq_true rfl) ?_
  intro p e s m args below meth c hx hb hr hlocks hml hown hts hw ls hl
  replace hl : lv_has ls 5 [(0, .ref (o.2.1 17 0)), (1, .int x1), (2, .int x2)] := hl
  unfold w_X5_laysBar at h
  refine lv_iload_n hx hb dX5_laysBar_0 rfl (lv_at hl 2 rfl) ?_
  refine letJ_W (fun (x : Int32) => ∀ (H : Heap) (locs : List Loc) (ls : Array Slot), WO o (WA o) s s.heap H locs M → lv_has ls 5 [(0, .ref (o.2.1 17 0)), (1, .int x1), (2, .int x2)] → W p l e rm_X5_laysBar s m args below meth c H locs 0 0 (MQ below (QV o Q) args s 0 0 (WA o)) (F0 m 22 ls [.int x])) h ?_ ?_
  · clear h hw hl; clear ls; intro x h H locs ls hw hl
    obtain ⟨v1, rfl⟩ : ∃ z, z = x := ⟨_, rfl⟩
    replace hl : lv_has ls 5 [(0, .ref (o.2.1 17 0)), (1, .int x1), (2, .int x2)] := hl
    refine lv_istore_n (lv' := [(3, .int v1), (0, .ref (o.2.1 17 0)), (1, .int x1), (2, .int x2)]) hx hb dX5_laysBar_22 rfl hl (by decide) rfl ?_
    clear hl; clear ls; intro ls hl
    refine lv_iconst (v := 0) hx hb dX5_laysBar_23 (by decide) ?_
    refine lv_istore (lv' := [(4, .int (0 : Int32)), (3, .int v1), (0, .ref (o.2.1 17 0)), (1, .int x1), (2, .int x2)]) hx hb dX5_laysBar_24 hl (by decide) rfl ?_
    clear hl; clear ls; intro ls hl
    obtain ⟨n, h⟩ := h
    refine letK_W (body := fun K => w_X5_laysBar_L26 x1 x2 v1 K) (fun (x : Int32 × Mm) => ∀ (H : Heap) (locs : List Loc) (ls : Array Slot), WO o (WA o) s s.heap H locs x.2 → lv_has ls 5 [(0, .ref (o.2.1 17 0)), (1, .int x1), (2, .int x2), (3, .int v1), (4, .int x.1)] → W p l e rm_X5_laysBar s m args below meth c H locs 0 0 (MQ below (QV o Q) args s 0 0 (WA o)) (F0 m 43 ls [])) h ?_ ?_
    · clear h hw hl; clear ls; intro x h H locs ls hw hl
      obtain ⟨v10, M11⟩ := x
      replace hl : lv_has ls 5 [(0, .ref (o.2.1 17 0)), (1, .int x1), (2, .int x2), (3, .int v1), (4, .int v10)] := hl
      dsimp only at h hw
      refine lv_aload_n hx hb dX5_laysBar_43 rfl (lv_at hl 0 rfl) ?_
      refine g_getf hx hb hts in_X5 hown hw 17 0 (ci_17 (by decide)) (bi_17 (by decide) hn) rfl rfl 4 (by decide) kX5_16 rfl dX5_laysBar_44 ?_
      refine lv_bipush (v := 7) hx hb dX5_laysBar_47 (by decide) ?_
      refine lv_iload_n hx hb dX5_laysBar_49 rfl (lv_at hl 1 rfl) ?_
      refine lv_imul hx hb dX5_laysBar_50 ?_
      refine lv_iload_n hx hb dX5_laysBar_51 rfl (lv_at hl 2 rfl) ?_
      refine lv_iadd hx hb dX5_laysBar_52 ?_
      refine lv_iload_n hx hb dX5_laysBar_53 rfl (lv_at hl 3 rfl) ?_
      refine lv_bipush (v := (-9)) hx hb dX5_laysBar_54 (by decide) ?_
      refine letJ_W (fun (x : Int32 × Mm) => ∀ (H : Heap) (locs : List Loc) (ls : Array Slot), WO o (WA o) s s.heap H locs x.2 → lv_has ls 5 [] → W p l e rm_X5_laysBar s m args below meth c H locs 0 0 (MQ below (QV o Q) args s 0 0 (WA o)) (F0 m 75 ls [.int x.1, .int (((7 : Int32) * x1) + x2), .ref (o.2.1 20 0)])) h ?_ ?_
      · clear h hw hl; clear ls; intro x h H locs ls hw hl
        obtain ⟨v12, M14⟩ := x
        replace hl : lv_has ls 5 [] := hl
        dsimp only at h
        dsimp only at hw
        refine g_iast hx hb hw 20 0 (ci_20 (by decide)) (bi_20 (by decide) hn) (fun _ => rfl) h dX5_laysBar_75 ?_
        clear h hw; intro M15 H locs hw h
        exact g_vret hx hb hr hlocks hw h dX5_laysBar_76
      clear h; intro J13 hJ13 h
      refine letJ_W (fun (x : Mm) => ∀ (H : Heap) (locs : List Loc) (ls : Array Slot), WO o (WA o) s s.heap H locs x → lv_has ls 5 [(4, .int v10)] → W p l e rm_X5_laysBar s m args below meth c H locs 0 0 (MQ below (QV o Q) args s 0 0 (WA o)) (F0 m 73 ls [.int (((7 : Int32) * x1) + x2), .ref (o.2.1 20 0)])) h ?_ ?_
      · clear h hw hl; clear ls; intro x h H locs ls hw hl
        obtain ⟨M17, rfl⟩ : ∃ z, z = x := ⟨_, rfl⟩
        replace hl : lv_has ls 5 [(4, .int v10)] := hl
        refine lv_iload hx hb dX5_laysBar_73 (lv_at hl 0 rfl) ?_
        exact hJ13 (v10, M17) h _ _ _ hw (lv_sub hl [] rfl)
      clear h; intro J16 hJ16 h
      refine g_icmp_eq (tgt := 73) hx hb h dX5_laysBar_56 (by decide) ?_ ?_
      · clear h; intro h
        exact hJ16 M11 h _ _ _ hw (lv_sub hl [4] rfl)
      · clear h; intro h
        refine lv_aload_n hx hb dX5_laysBar_59 rfl (lv_at hl 0 rfl) ?_
        refine lv_iload_n hx hb dX5_laysBar_60 rfl (lv_at hl 1 rfl) ?_
        refine lv_iload_n hx hb dX5_laysBar_61 rfl (lv_at hl 2 rfl) ?_
        refine lv_iload_n hx hb dX5_laysBar_62 rfl (lv_at hl 3 rfl) ?_
        refine g_cz hw (g_runV (As := [.int x1, .int x2, .int v1]) (rest := [.int (((7 : Int32) * x1) + x2), .ref (o.2.1 20 0)]) hx hb hml hown hts mX5_isFree vX5_isFree kX5_70 hw 17 0 (ci_17 (by decide)) (bi_17 (by decide) hn) rfl rfl (c_X5_isFree hn h) rfl rfl ⟨Nat.le_of_ble_eq_true rfl, Nat.le_of_ble_eq_true rfl⟩ rfl hl.1 rfl (Nat.le_of_ble_eq_true rfl) dX5_laysBar_63 ⟨Nat.zero_le _, Nat.zero_le _⟩) ?_
        clear h hw; intro v19 M18 H locs hw hz_v19 h
        refine g_if_eq (tgt := 73) hx hb h dX5_laysBar_66 (by decide) ?_ ?_
        · clear h; intro h
          exact hJ16 M18 h _ _ _ hw (lv_sub hl [4] rfl)
        · clear h; intro h
          refine lv_iload_n hx hb dX5_laysBar_69 rfl (lv_at hl 3 rfl) ?_
          refine lv_goto (tgt := 75) hx hb dX5_laysBar_70 (by decide) ?_
          exact hJ13 (v1, M18) h _ _ _ hw (lv_sub hl [] rfl)
    clear h; intro K5 hK5 h
    refine loop_W (body := w_X5_laysBar_L26 x1 x2 v1 K5) (fun (x : Int32 × Mm) => ∀ (H : Heap) (locs : List Loc) (ls : Array Slot), WO o (WA o) s s.heap H locs x.2 → lv_has ls 5 [(0, .ref (o.2.1 17 0)), (1, .int x1), (2, .int x2), (3, .int v1), (4, .int x.1)] → W p l e rm_X5_laysBar s m args below meth c H locs 0 0 (MQ below (QV o Q) args s 0 0 (WA o)) (F0 m 26 ls [])) ?_ n _ h _ _ _ hw (lv_sub hl [2, 3, 4, 1, 0] rfl)
    clear h hw hl; clear ls; intro R6 x hR6 h H locs ls hw hl
    obtain ⟨v3, M4⟩ := x
    replace hl : lv_has ls 5 [(0, .ref (o.2.1 17 0)), (1, .int x1), (2, .int x2), (3, .int v1), (4, .int v3)] := hl
    dsimp only at hw
    unfold w_X5_laysBar_L26 at h
    dsimp only at h
    refine lv_aload_n hx hb dX5_laysBar_26 rfl (lv_at hl 0 rfl) ?_
    refine lv_iload_n hx hb dX5_laysBar_27 rfl (lv_at hl 1 rfl) ?_
    refine lv_iload_n hx hb dX5_laysBar_28 rfl (lv_at hl 2 rfl) ?_
    refine lv_iload hx hb dX5_laysBar_29 (lv_at hl 4 rfl) ?_
    refine g_cz hw (g_runV (As := [.int x1, .int x2, .int v3]) (rest := []) hx hb hml hown hts mX5_isFree vX5_isFree kX5_70 hw 17 0 (ci_17 (by decide)) (bi_17 (by decide) hn) rfl rfl (c_X5_isFree hn h) rfl rfl ⟨Nat.le_of_ble_eq_true rfl, Nat.le_of_ble_eq_true rfl⟩ rfl hl.1 rfl (Nat.le_of_ble_eq_true rfl) dX5_laysBar_31 ⟨Nat.zero_le _, Nat.zero_le _⟩) ?_
    clear h hw; intro v8 M7 H locs hw hz_v8 h
    refine g_if_ne (tgt := 43) hx hb h dX5_laysBar_34 (by decide) ?_ ?_
    · clear h; intro h
      exact hK5 (v3, M7) h _ _ _ hw (lv_sub hl [0, 1, 2, 3, 4] rfl)
    · clear h; intro h
      refine g_iinc (k := 4) (v := (v3 + (1 : Int32))) (lv' := fun v9 => [(4, .int v9), (0, .ref (o.2.1 17 0)), (1, .int x1), (2, .int x2), (3, .int v1)]) hx hb dX5_laysBar_37 hl rfl rfl (by decide) (fun _ => rfl) h ?_
      clear h hl; clear ls; intro v9 ls h hl
      refine lv_goto (tgt := 26) hx hb dX5_laysBar_40 (by decide) ?_
      exact hR6 (v9, M7) h _ _ _ hw (lv_sub hl [1, 2, 3, 4, 0] rfl)
  clear h; intro J2 hJ2 h
  refine g_if_ne (tgt := 9) hx hb h dX5_laysBar_1 (by decide) ?_ ?_
  · clear h; intro h
    refine lv_aload_n hx hb dX5_laysBar_9 rfl (lv_at hl 0 rfl) ?_
    refine g_getf hx hb hts in_X5 hown hw 17 0 (ci_17 (by decide)) (bi_17 (by decide) hn) rfl rfl 4 (by decide) kX5_16 rfl dX5_laysBar_10 ?_
    refine lv_bipush (v := 7) hx hb dX5_laysBar_13 (by decide) ?_
    refine lv_iload_n hx hb dX5_laysBar_15 rfl (lv_at hl 1 rfl) ?_
    refine lv_imul hx hb dX5_laysBar_16 ?_
    refine lv_iload_n hx hb dX5_laysBar_17 rfl (lv_at hl 2 rfl) ?_
    refine lv_iadd hx hb dX5_laysBar_18 ?_
    refine lv_iconst (v := 1) hx hb dX5_laysBar_19 (by decide) ?_
    refine lv_isub hx hb dX5_laysBar_20 ?_
    refine g_iald hx hb hw 20 0 (ci_20 (by decide)) (bi_20 (by decide) hn) rfl h dX5_laysBar_21 ?_
    clear h; intro v20 h
    exact hJ2 v20 h _ _ _ hw (lv_sub hl [0, 1, 2] rfl)
  · clear h; intro h
    refine lv_bipush (v := (-9)) hx hb dX5_laysBar_4 (by decide) ?_
    refine lv_goto (tgt := 22) hx hb dX5_laysBar_6 (by decide) ?_
    exact hJ2 (-9 : Int32) h _ _ _ hw (lv_sub hl [0, 1, 2] rfl)
abbrev rm_X5_laysWeek : Room := { frames := 4, cells := 0, slots := 0, locals := 96 }
set_option maxHeartbeats 4000000 in
set_option maxRecDepth 100000 in
theorem c_X5_laysWeek {o : Om} {l : Launch} (hn : 122 ≤ o.2.2.2) {M : Mm} {x1 : Int32} {Q : Mm → Prop} (h : w_X5_laysWeek M x1 Q) : CV o l yX5_laysWeek cX5_laysWeek 6 rm_X5_laysWeek [.ref (o.2.1 17 0), .int x1] M Q := by
  refine g_start (by decide +kernel) (Nat.le_of_ble_eq_true rfl) ?_
  intro p e s m args below meth c hx hb hr hlocks hml hown hts hw ls hl
  replace hl : lv_has ls 6 [(0, .ref (o.2.1 17 0)), (1, .int x1)] := hl
  unfold w_X5_laysWeek at h
  refine lv_iconst (v := 1) hx hb dX5_laysWeek_0 (by decide) ?_
  refine lv_istore_n (lv' := [(2, .int (1 : Int32)), (0, .ref (o.2.1 17 0)), (1, .int x1)]) hx hb dX5_laysWeek_1 rfl hl (by decide) rfl ?_
  clear hl; clear ls; intro ls hl
  obtain ⟨n, h⟩ := h
  refine letK_W (body := fun K => w_X5_laysWeek_L2 x1 K) (fun (x : Int32 × Mm) => ∀ (H : Heap) (locs : List Loc) (ls : Array Slot), WO o (WA o) s s.heap H locs x.2 → lv_has ls 6 [] → W p l e rm_X5_laysWeek s m args below meth c H locs 0 0 (MQ below (QV o Q) args s 0 0 (WA o)) (F0 m 126 ls [])) h ?_ ?_
  · clear h hw hl; clear ls; intro x h H locs ls hw hl
    obtain ⟨v33, M34⟩ := x
    replace hl : lv_has ls 6 [] := hl
    dsimp only at h hw
    exact g_vret hx hb hr hlocks hw h dX5_laysWeek_126
  clear h; intro K3 hK3 h
  refine loop_W (body := w_X5_laysWeek_L2 x1 K3) (fun (x : Int32 × Mm) => ∀ (H : Heap) (locs : List Loc) (ls : Array Slot), WO o (WA o) s s.heap H locs x.2 → lv_has ls 6 [(0, .ref (o.2.1 17 0)), (1, .int x1), (2, .int x.1)] → W p l e rm_X5_laysWeek s m args below meth c H locs 0 0 (MQ below (QV o Q) args s 0 0 (WA o)) (F0 m 2 ls [])) ?_ n _ h _ _ _ hw (lv_sub hl [1, 2, 0] rfl)
  clear h hw hl; clear ls; intro R4 x hR4 h H locs ls hw hl
  obtain ⟨v1, M2⟩ := x
  replace hl : lv_has ls 6 [(0, .ref (o.2.1 17 0)), (1, .int x1), (2, .int v1)] := hl
  dsimp only at hw
  unfold w_X5_laysWeek_L2 at h
  dsimp only at h
  refine lv_iload_n hx hb dX5_laysWeek_2 rfl (lv_at hl 2 rfl) ?_
  refine g_if_eq (tgt := 126) hx hb h dX5_laysWeek_3 (by decide) ?_ ?_
  · clear h; intro h
    exact hK3 (v1, M2) h _ _ _ hw (lv_sub hl [] rfl)
  · clear h; intro h
    refine lv_bipush (v := (-9)) hx hb dX5_laysWeek_6 (by decide) ?_
    refine lv_istore_n (lv' := [(3, .int (-9 : Int32)), (0, .ref (o.2.1 17 0)), (1, .int x1), (2, .int v1)]) hx hb dX5_laysWeek_8 rfl hl (by decide) rfl ?_
    clear hl; clear ls; intro ls hl
    refine lv_iconst (v := 0) hx hb dX5_laysWeek_9 (by decide) ?_
    refine lv_istore (lv' := [(4, .int (0 : Int32)), (3, .int (-9 : Int32)), (0, .ref (o.2.1 17 0)), (1, .int x1), (2, .int v1)]) hx hb dX5_laysWeek_10 hl (by decide) rfl ?_
    clear hl; clear ls; intro ls hl
    obtain ⟨n, h⟩ := h
    refine letK_W (body := fun K => w_X5_laysWeek_L12 x1 K) (fun (x : Int32 × Int32 × Mm) => ∀ (H : Heap) (locs : List Loc) (ls : Array Slot), WO o (WA o) s s.heap H locs x.2.2 → lv_has ls 6 [(0, .ref (o.2.1 17 0)), (1, .int x1), (3, .int x.1)] → W p l e rm_X5_laysWeek s m args below meth c H locs 0 0 (MQ below (QV o Q) args s 0 0 (WA o)) (F0 m 101 ls [])) h ?_ ?_
    · clear h hw hl; clear ls; intro x h H locs ls hw hl
      obtain ⟨v27, v28, M29⟩ := x
      replace hl : lv_has ls 6 [(0, .ref (o.2.1 17 0)), (1, .int x1), (3, .int v27)] := hl
      dsimp only at h hw
      refine lv_iload_n hx hb dX5_laysWeek_101 rfl (lv_at hl 2 rfl) ?_
      refine lv_bipush (v := (-9)) hx hb dX5_laysWeek_102 (by decide) ?_
      refine letJ_W (fun (x : Int32) => ∀ (H : Heap) (locs : List Loc) (ls : Array Slot), WO o (WA o) s s.heap H locs M29 → lv_has ls 6 [(0, .ref (o.2.1 17 0)), (1, .int x1), (3, .int v27)] → W p l e rm_X5_laysWeek s m args below meth c H locs 0 0 (MQ below (QV o Q) args s 0 0 (WA o)) (F0 m 112 ls [.int x])) h ?_ ?_
      · clear h hw hl; clear ls; intro x h H locs ls hw hl
        obtain ⟨v30, rfl⟩ : ∃ z, z = x := ⟨_, rfl⟩
        replace hl : lv_has ls 6 [(0, .ref (o.2.1 17 0)), (1, .int x1), (3, .int v27)] := hl
        refine lv_istore_n (lv' := [(2, .int v30), (0, .ref (o.2.1 17 0)), (1, .int x1), (3, .int v27)]) hx hb dX5_laysWeek_112 rfl hl (by decide) rfl ?_
        clear hl; clear ls; intro ls hl
        refine lv_iload_n hx hb dX5_laysWeek_113 rfl (lv_at hl 0 rfl) ?_
        refine g_if_eq (tgt := 123) hx hb h dX5_laysWeek_114 (by decide) ?_ ?_
        · clear h; intro h
          refine lv_goto (tgt := 2) hx hb dX5_laysWeek_123 (by decide) ?_
          exact hR4 (v30, M29) h _ _ _ hw (lv_sub hl [1, 2, 0] rfl)
        · clear h; intro h
          refine lv_aload_n hx hb dX5_laysWeek_117 rfl (lv_at hl 1 rfl) ?_
          refine lv_iload_n hx hb dX5_laysWeek_118 rfl (lv_at hl 3 rfl) ?_
          refine lv_iload_n hx hb dX5_laysWeek_119 rfl (lv_at hl 2 rfl) ?_
          refine g_cv hw (g_runV (As := [.int v27, .int x1]) (rest := []) hx hb hml hown hts mX5_laysBar vX5_laysBar kX5_82 hw 17 0 (ci_17 (by decide)) (bi_17 (by decide) hn) rfl rfl (c_X5_laysBar hn h) rfl rfl ⟨Nat.le_of_ble_eq_true rfl, Nat.le_of_ble_eq_true rfl⟩ rfl hl.1 rfl (Nat.le_of_ble_eq_true rfl) dX5_laysWeek_120 ⟨Nat.zero_le _, Nat.zero_le _⟩) ?_
          clear h hw; intro M32 H locs hw h
          refine lv_goto (tgt := 2) hx hb dX5_laysWeek_123 (by decide) ?_
          exact hR4 (v30, M32) h _ _ _ hw (lv_sub hl [1, 2, 0] rfl)
      clear h; intro J31 hJ31 h
      refine g_icmp_eq (tgt := 111) hx hb h dX5_laysWeek_104 (by decide) ?_ ?_
      · clear h; intro h
        refine lv_iconst (v := 0) hx hb dX5_laysWeek_111 (by decide) ?_
        exact hJ31 (0 : Int32) h _ _ _ hw (lv_sub hl [0, 1, 2] rfl)
      · clear h; intro h
        refine lv_iconst (v := 1) hx hb dX5_laysWeek_107 (by decide) ?_
        refine lv_goto (tgt := 112) hx hb dX5_laysWeek_108 (by decide) ?_
        exact hJ31 (1 : Int32) h _ _ _ hw (lv_sub hl [0, 1, 2] rfl)
    clear h; intro K8 hK8 h
    refine loop_W (body := w_X5_laysWeek_L12 x1 K8) (fun (x : Int32 × Int32 × Mm) => ∀ (H : Heap) (locs : List Loc) (ls : Array Slot), WO o (WA o) s s.heap H locs x.2.2 → lv_has ls 6 [(0, .ref (o.2.1 17 0)), (1, .int x1), (3, .int x.1), (4, .int x.2.1)] → W p l e rm_X5_laysWeek s m args below meth c H locs 0 0 (MQ below (QV o Q) args s 0 0 (WA o)) (F0 m 12 ls [])) ?_ n _ h _ _ _ hw (lv_sub hl [2, 3, 1, 0] rfl)
    clear h hw hl; clear ls; intro R9 x hR9 h H locs ls hw hl
    obtain ⟨v5, v6, M7⟩ := x
    replace hl : lv_has ls 6 [(0, .ref (o.2.1 17 0)), (1, .int x1), (3, .int v5), (4, .int v6)] := hl
    dsimp only at hw
    unfold w_X5_laysWeek_L12 at h
    dsimp only at h
    refine lv_iload hx hb dX5_laysWeek_12 (lv_at hl 3 rfl) ?_
    refine lv_aload_n hx hb dX5_laysWeek_14 rfl (lv_at hl 0 rfl) ?_
    refine g_getf hx hb hts in_X5 hown hw 17 0 (ci_17 (by decide)) (bi_17 (by decide) hn) rfl rfl 0 (by decide) kX5_7 rfl dX5_laysWeek_15 ?_
    refine lv_iconst (v := 4) hx hb dX5_laysWeek_18 (by decide) ?_
    refine g_iald hx hb hw 18 0 (ci_18 (by decide)) (bi_18 (by decide) hn) rfl h dX5_laysWeek_19 ?_
    clear h; intro v10 h
    refine g_icmp_ge (tgt := 101) hx hb h dX5_laysWeek_20 (by decide) ?_ ?_
    · clear h; intro h
      exact hK8 (v5, v6, M7) h _ _ _ hw (lv_sub hl [0, 1, 2] rfl)
    · clear h; intro h
      refine lv_aload_n hx hb dX5_laysWeek_23 rfl (lv_at hl 0 rfl) ?_
      refine lv_iload hx hb dX5_laysWeek_24 (lv_at hl 3 rfl) ?_
      refine g_cz hw (g_runV (As := [.int v6]) (rest := []) hx hb hml hown hts mX5_isLong vX5_isLong kX5_73 hw 17 0 (ci_17 (by decide)) (bi_17 (by decide) hn) rfl rfl (c_X5_isLong hn h) rfl rfl ⟨Nat.le_of_ble_eq_true rfl, Nat.le_of_ble_eq_true rfl⟩ rfl hl.1 rfl (Nat.le_of_ble_eq_true rfl) dX5_laysWeek_26 ⟨Nat.zero_le _, Nat.zero_le _⟩) ?_
      clear h hw; intro v12 M11 H locs hw hz_v12 h
      refine letJ_W (fun (x : Int32 × Mm) => ∀ (H : Heap) (locs : List Loc) (ls : Array Slot), WO o (WA o) s s.heap H locs x.2 → lv_has ls 6 [(0, .ref (o.2.1 17 0)), (1, .int x1), (3, .int v5), (4, .int v6)] → W p l e rm_X5_laysWeek s m args below meth c H locs 0 0 (MQ below (QV o Q) args s 0 0 (WA o)) (F0 m 64 ls [.int x.1])) h ?_ ?_
      · clear h hw hl; clear ls; intro x h H locs ls hw hl
        obtain ⟨v13, M15⟩ := x
        replace hl : lv_has ls 6 [(0, .ref (o.2.1 17 0)), (1, .int x1), (3, .int v5), (4, .int v6)] := hl
        dsimp only at h
        dsimp only at hw
        refine lv_istore (lv' := [(5, .int v13), (0, .ref (o.2.1 17 0)), (1, .int x1), (3, .int v5), (4, .int v6)]) hx hb dX5_laysWeek_64 hl (by decide) rfl ?_
        clear hl; clear ls; intro ls hl
        refine lv_iload hx hb dX5_laysWeek_66 (lv_at hl 0 rfl) ?_
        refine g_if_eq (tgt := 93) hx hb h dX5_laysWeek_68 (by decide) ?_ ?_
        · clear h; intro h
          refine lv_iload_n hx hb dX5_laysWeek_93 rfl (lv_at hl 3 rfl) ?_
          refine lv_istore_n (lv' := [(3, .int v5), (5, .int v13), (0, .ref (o.2.1 17 0)), (1, .int x1), (4, .int v6)]) hx hb dX5_laysWeek_94 rfl hl (by decide) rfl ?_
          clear hl; clear ls; intro ls hl
          refine g_iinc (k := 4) (v := (v6 + (1 : Int32))) (lv' := fun v16 => [(4, .int v16), (3, .int v5), (5, .int v13), (0, .ref (o.2.1 17 0)), (1, .int x1)]) hx hb dX5_laysWeek_95 hl rfl rfl (by decide) (fun _ => rfl) h ?_
          clear h hl; clear ls; intro v16 ls h hl
          refine lv_goto (tgt := 12) hx hb dX5_laysWeek_98 (by decide) ?_
          exact hR9 (v5, v16, M15) h _ _ _ hw (lv_sub hl [3, 4, 1, 0] rfl)
        · clear h; intro h
          refine lv_iload_n hx hb dX5_laysWeek_71 rfl (lv_at hl 3 rfl) ?_
          refine lv_bipush (v := (-9)) hx hb dX5_laysWeek_72 (by decide) ?_
          refine g_icmp_eq (tgt := 88) hx hb h dX5_laysWeek_74 (by decide) ?_ ?_
          · clear h; intro h
            refine lv_iload hx hb dX5_laysWeek_88 (lv_at hl 4 rfl) ?_
            refine lv_goto (tgt := 94) hx hb dX5_laysWeek_90 (by decide) ?_
            refine lv_istore_n (lv' := [(3, .int v6), (5, .int v13), (0, .ref (o.2.1 17 0)), (1, .int x1), (4, .int v6)]) hx hb dX5_laysWeek_94 rfl hl (by decide) rfl ?_
            clear hl; clear ls; intro ls hl
            refine g_iinc (k := 4) (v := (v6 + (1 : Int32))) (lv' := fun v17 => [(4, .int v17), (3, .int v6), (5, .int v13), (0, .ref (o.2.1 17 0)), (1, .int x1)]) hx hb dX5_laysWeek_95 hl rfl rfl (by decide) (fun _ => rfl) h ?_
            clear h hl; clear ls; intro v17 ls h hl
            refine lv_goto (tgt := 12) hx hb dX5_laysWeek_98 (by decide) ?_
            exact hR9 (v6, v17, M15) h _ _ _ hw (lv_sub hl [3, 4, 1, 0] rfl)
          · clear h; intro h
            refine lv_aload_n hx hb dX5_laysWeek_77 rfl (lv_at hl 1 rfl) ?_
            refine lv_iload hx hb dX5_laysWeek_78 (lv_at hl 4 rfl) ?_
            refine lv_iload_n hx hb dX5_laysWeek_80 rfl (lv_at hl 3 rfl) ?_
            refine lv_iload_n hx hb dX5_laysWeek_81 rfl (lv_at hl 2 rfl) ?_
            refine g_cz hw (g_runV (As := [.int v6, .int v5, .int x1]) (rest := []) hx hb hml hown hts mX5_isAhead vX5_isAhead kX5_79 hw 17 0 (ci_17 (by decide)) (bi_17 (by decide) hn) rfl rfl (c_X5_isAhead hn h) rfl rfl ⟨Nat.le_of_ble_eq_true rfl, Nat.le_of_ble_eq_true rfl⟩ rfl hl.1 rfl (Nat.le_of_ble_eq_true rfl) dX5_laysWeek_82 ⟨Nat.zero_le _, Nat.zero_le _⟩) ?_
            clear h hw; intro v19 M18 H locs hw hz_v19 h
            refine g_if_eq (tgt := 93) hx hb h dX5_laysWeek_85 (by decide) ?_ ?_
            · clear h; intro h
              refine lv_iload_n hx hb dX5_laysWeek_93 rfl (lv_at hl 3 rfl) ?_
              refine lv_istore_n (lv' := [(3, .int v5), (5, .int v13), (0, .ref (o.2.1 17 0)), (1, .int x1), (4, .int v6)]) hx hb dX5_laysWeek_94 rfl hl (by decide) rfl ?_
              clear hl; clear ls; intro ls hl
              refine g_iinc (k := 4) (v := (v6 + (1 : Int32))) (lv' := fun v20 => [(4, .int v20), (3, .int v5), (5, .int v13), (0, .ref (o.2.1 17 0)), (1, .int x1)]) hx hb dX5_laysWeek_95 hl rfl rfl (by decide) (fun _ => rfl) h ?_
              clear h hl; clear ls; intro v20 ls h hl
              refine lv_goto (tgt := 12) hx hb dX5_laysWeek_98 (by decide) ?_
              exact hR9 (v5, v20, M18) h _ _ _ hw (lv_sub hl [3, 4, 1, 0] rfl)
            · clear h; intro h
              refine lv_iload hx hb dX5_laysWeek_88 (lv_at hl 4 rfl) ?_
              refine lv_goto (tgt := 94) hx hb dX5_laysWeek_90 (by decide) ?_
              refine lv_istore_n (lv' := [(3, .int v6), (5, .int v13), (0, .ref (o.2.1 17 0)), (1, .int x1), (4, .int v6)]) hx hb dX5_laysWeek_94 rfl hl (by decide) rfl ?_
              clear hl; clear ls; intro ls hl
              refine g_iinc (k := 4) (v := (v6 + (1 : Int32))) (lv' := fun v21 => [(4, .int v21), (3, .int v6), (5, .int v13), (0, .ref (o.2.1 17 0)), (1, .int x1)]) hx hb dX5_laysWeek_95 hl rfl rfl (by decide) (fun _ => rfl) h ?_
              clear h hl; clear ls; intro v21 ls h hl
              refine lv_goto (tgt := 12) hx hb dX5_laysWeek_98 (by decide) ?_
              exact hR9 (v6, v21, M18) h _ _ _ hw (lv_sub hl [3, 4, 1, 0] rfl)
      clear h; intro J14 hJ14 h
      refine letJ_W (fun (x : Mm) => ∀ (H : Heap) (locs : List Loc) (ls : Array Slot), WO o (WA o) s s.heap H locs x → lv_has ls 6 [(0, .ref (o.2.1 17 0)), (1, .int x1), (3, .int v5), (4, .int v6)] → W p l e rm_X5_laysWeek s m args below meth c H locs 0 0 (MQ below (QV o Q) args s 0 0 (WA o)) (F0 m 63 ls [])) h ?_ ?_
      · clear h hw hl; clear ls; intro x h H locs ls hw hl
        obtain ⟨M23, rfl⟩ : ∃ z, z = x := ⟨_, rfl⟩
        replace hl : lv_has ls 6 [(0, .ref (o.2.1 17 0)), (1, .int x1), (3, .int v5), (4, .int v6)] := hl
        refine lv_iconst (v := 0) hx hb dX5_laysWeek_63 (by decide) ?_
        exact hJ14 ((0 : Int32), M23) h _ _ _ hw (lv_sub hl [0, 1, 2, 3] rfl)
      clear h; intro J22 hJ22 h
      refine g_if_eq (tgt := 63) hx hb h dX5_laysWeek_29 (by decide) ?_ ?_
      · clear h; intro h
        exact hJ22 M11 h _ _ _ hw (lv_sub hl [0, 1, 2, 3] rfl)
      · clear h; intro h
        refine lv_aload_n hx hb dX5_laysWeek_32 rfl (lv_at hl 0 rfl) ?_
        refine lv_iload hx hb dX5_laysWeek_33 (lv_at hl 3 rfl) ?_
        refine lv_iload_n hx hb dX5_laysWeek_35 rfl (lv_at hl 1 rfl) ?_
        refine g_cz hw (g_runV (As := [.int v6, .int x1]) (rest := []) hx hb hml hown hts mX5_isIn vX5_isIn kX5_76 hw 17 0 (ci_17 (by decide)) (bi_17 (by decide) hn) rfl rfl (c_X5_isIn hn h) rfl rfl ⟨Nat.le_of_ble_eq_true rfl, Nat.le_of_ble_eq_true rfl⟩ rfl hl.1 rfl (Nat.le_of_ble_eq_true rfl) dX5_laysWeek_36 ⟨Nat.zero_le _, Nat.zero_le _⟩) ?_
        clear h hw; intro v25 M24 H locs hw hz_v25 h
        refine g_if_eq (tgt := 63) hx hb h dX5_laysWeek_39 (by decide) ?_ ?_
        · clear h; intro h
          exact hJ22 M24 h _ _ _ hw (lv_sub hl [0, 1, 2, 3] rfl)
        · clear h; intro h
          refine lv_aload_n hx hb dX5_laysWeek_42 rfl (lv_at hl 0 rfl) ?_
          refine g_getf hx hb hts in_X5 hown hw 17 0 (ci_17 (by decide)) (bi_17 (by decide) hn) rfl rfl 4 (by decide) kX5_16 rfl dX5_laysWeek_43 ?_
          refine lv_bipush (v := 7) hx hb dX5_laysWeek_46 (by decide) ?_
          refine lv_iload hx hb dX5_laysWeek_48 (lv_at hl 3 rfl) ?_
          refine lv_imul hx hb dX5_laysWeek_50 ?_
          refine lv_iload_n hx hb dX5_laysWeek_51 rfl (lv_at hl 1 rfl) ?_
          refine lv_iadd hx hb dX5_laysWeek_52 ?_
          refine g_iald hx hb hw 20 0 (ci_20 (by decide)) (bi_20 (by decide) hn) rfl h dX5_laysWeek_53 ?_
          clear h; intro v26 h
          refine lv_bipush (v := (-9)) hx hb dX5_laysWeek_54 (by decide) ?_
          refine g_icmp_ne (tgt := 63) hx hb h dX5_laysWeek_56 (by decide) ?_ ?_
          · clear h; intro h
            exact hJ22 M24 h _ _ _ hw (lv_sub hl [0, 1, 2, 3] rfl)
          · clear h; intro h
            refine lv_iconst (v := 1) hx hb dX5_laysWeek_59 (by decide) ?_
            refine lv_goto (tgt := 64) hx hb dX5_laysWeek_60 (by decide) ?_
            exact hJ14 ((1 : Int32), M24) h _ _ _ hw (lv_sub hl [0, 1, 2, 3] rfl)
abbrev rm_X5_isShortBefore : Room := { frames := 1, cells := 0, slots := 0, locals := 21 }
set_option maxHeartbeats 4000000 in
set_option maxRecDepth 100000 in
theorem c_X5_isShortBefore {o : Om} {l : Launch} (hn : 122 ≤ o.2.2.2) {M : Mm} {x1 : Int32} {x2 : Int32} {Q : Int32 → Mm → Prop} (h : w_X5_isShortBefore M x1 x2 Q) : CZ o l yX5_isShortBefore cX5_isShortBefore 3 rm_X5_isShortBefore [.ref (o.2.1 17 0), .int x1, .int x2] M Q := by
  refine g_start (by decide +kernel) (Nat.le_of_ble_eq_true rfl) ?_
  intro p e s m args below meth c hx hb hr hlocks hml hown hts hw ls hl
  replace hl : lv_has ls 3 [(0, .ref (o.2.1 17 0)), (1, .int x1), (2, .int x2)] := hl
  unfold w_X5_isShortBefore at h
  refine lv_aload_n hx hb dX5_isShortBefore_0 rfl (lv_at hl 0 rfl) ?_
  refine lv_iload_n hx hb dX5_isShortBefore_1 rfl (lv_at hl 1 rfl) ?_
  refine g_ci hw (g_runV (As := [.int x1]) (rest := []) hx hb hml hown hts mX5_rankOf vX5_rankOf kX5_64 hw 17 0 (ci_17 (by decide)) (bi_17 (by decide) hn) rfl rfl (c_X5_rankOf hn h) rfl rfl ⟨Nat.le_of_ble_eq_true rfl, Nat.le_of_ble_eq_true rfl⟩ rfl hl.1 rfl (Nat.le_of_ble_eq_true rfl) dX5_isShortBefore_2 ⟨Nat.zero_le _, Nat.zero_le _⟩) ?_
  clear h hw; intro v2 M1 H locs hw h
  refine lv_aload_n hx hb dX5_isShortBefore_5 rfl (lv_at hl 0 rfl) ?_
  refine lv_iload_n hx hb dX5_isShortBefore_6 rfl (lv_at hl 2 rfl) ?_
  refine g_ci hw (g_runV (As := [.int x2]) (rest := [.int v2]) hx hb hml hown hts mX5_rankOf vX5_rankOf kX5_64 hw 17 0 (ci_17 (by decide)) (bi_17 (by decide) hn) rfl rfl (c_X5_rankOf hn h) rfl rfl ⟨Nat.le_of_ble_eq_true rfl, Nat.le_of_ble_eq_true rfl⟩ rfl hl.1 rfl (Nat.le_of_ble_eq_true rfl) dX5_isShortBefore_7 ⟨Nat.zero_le _, Nat.zero_le _⟩) ?_
  clear h hw; intro v4 M3 H locs hw h
  refine g_icmp_eq (tgt := 32) hx hb h dX5_isShortBefore_10 (by decide) ?_ ?_
  · clear h; intro h
    refine lv_aload_n hx hb dX5_isShortBefore_32 rfl (lv_at hl 0 rfl) ?_
    refine lv_iload_n hx hb dX5_isShortBefore_33 rfl (lv_at hl 1 rfl) ?_
    refine g_ci hw (g_runV (As := [.int x1]) (rest := []) hx hb hml hown hts mX5_timeOf vX5_timeOf kX5_43 hw 17 0 (ci_17 (by decide)) (bi_17 (by decide) hn) rfl rfl (c_X5_timeOf hn h) rfl rfl ⟨Nat.le_of_ble_eq_true rfl, Nat.le_of_ble_eq_true rfl⟩ rfl hl.1 rfl (Nat.le_of_ble_eq_true rfl) dX5_isShortBefore_34 ⟨Nat.zero_le _, Nat.zero_le _⟩) ?_
    clear h hw; intro v6 M5 H locs hw h
    refine lv_aload_n hx hb dX5_isShortBefore_37 rfl (lv_at hl 0 rfl) ?_
    refine lv_iload_n hx hb dX5_isShortBefore_38 rfl (lv_at hl 2 rfl) ?_
    refine g_ci hw (g_runV (As := [.int x2]) (rest := [.int v6]) hx hb hml hown hts mX5_timeOf vX5_timeOf kX5_43 hw 17 0 (ci_17 (by decide)) (bi_17 (by decide) hn) rfl rfl (c_X5_timeOf hn h) rfl rfl ⟨Nat.le_of_ble_eq_true rfl, Nat.le_of_ble_eq_true rfl⟩ rfl hl.1 rfl (Nat.le_of_ble_eq_true rfl) dX5_isShortBefore_39 ⟨Nat.zero_le _, Nat.zero_le _⟩) ?_
    clear h hw; intro v8 M7 H locs hw h
    refine g_icmp_eq (tgt := 66) hx hb h dX5_isShortBefore_42 (by decide) ?_ ?_
    · clear h; intro h
      refine lv_iload_n hx hb dX5_isShortBefore_66 rfl (lv_at hl 1 rfl) ?_
      refine lv_iload_n hx hb dX5_isShortBefore_67 rfl (lv_at hl 2 rfl) ?_
      refine g_icmp_ge (tgt := 75) hx hb h dX5_isShortBefore_68 (by decide) ?_ ?_
      · clear h; intro h
        refine lv_iconst (v := 0) hx hb dX5_isShortBefore_75 (by decide) ?_
        exact g_zret hx hb hr hlocks hw (Or.inl rfl) h dX5_isShortBefore_76
      · clear h; intro h
        refine lv_iconst (v := 1) hx hb dX5_isShortBefore_71 (by decide) ?_
        refine lv_goto (tgt := 76) hx hb dX5_isShortBefore_72 (by decide) ?_
        exact g_zret hx hb hr hlocks hw (Or.inr rfl) h dX5_isShortBefore_76
    · clear h; intro h
      refine lv_aload_n hx hb dX5_isShortBefore_45 rfl (lv_at hl 0 rfl) ?_
      refine lv_iload_n hx hb dX5_isShortBefore_46 rfl (lv_at hl 1 rfl) ?_
      refine g_ci hw (g_runV (As := [.int x1]) (rest := []) hx hb hml hown hts mX5_timeOf vX5_timeOf kX5_43 hw 17 0 (ci_17 (by decide)) (bi_17 (by decide) hn) rfl rfl (c_X5_timeOf hn h) rfl rfl ⟨Nat.le_of_ble_eq_true rfl, Nat.le_of_ble_eq_true rfl⟩ rfl hl.1 rfl (Nat.le_of_ble_eq_true rfl) dX5_isShortBefore_47 ⟨Nat.zero_le _, Nat.zero_le _⟩) ?_
      clear h hw; intro v10 M9 H locs hw h
      refine lv_aload_n hx hb dX5_isShortBefore_50 rfl (lv_at hl 0 rfl) ?_
      refine lv_iload_n hx hb dX5_isShortBefore_51 rfl (lv_at hl 2 rfl) ?_
      refine g_ci hw (g_runV (As := [.int x2]) (rest := [.int v10]) hx hb hml hown hts mX5_timeOf vX5_timeOf kX5_43 hw 17 0 (ci_17 (by decide)) (bi_17 (by decide) hn) rfl rfl (c_X5_timeOf hn h) rfl rfl ⟨Nat.le_of_ble_eq_true rfl, Nat.le_of_ble_eq_true rfl⟩ rfl hl.1 rfl (Nat.le_of_ble_eq_true rfl) dX5_isShortBefore_52 ⟨Nat.zero_le _, Nat.zero_le _⟩) ?_
      clear h hw; intro v12 M11 H locs hw h
      refine g_icmp_ge (tgt := 62) hx hb h dX5_isShortBefore_55 (by decide) ?_ ?_
      · clear h; intro h
        refine lv_iconst (v := 0) hx hb dX5_isShortBefore_62 (by decide) ?_
        refine lv_goto (tgt := 76) hx hb dX5_isShortBefore_63 (by decide) ?_
        exact g_zret hx hb hr hlocks hw (Or.inl rfl) h dX5_isShortBefore_76
      · clear h; intro h
        refine lv_iconst (v := 1) hx hb dX5_isShortBefore_58 (by decide) ?_
        refine lv_goto (tgt := 76) hx hb dX5_isShortBefore_59 (by decide) ?_
        exact g_zret hx hb hr hlocks hw (Or.inr rfl) h dX5_isShortBefore_76
  · clear h; intro h
    refine lv_aload_n hx hb dX5_isShortBefore_13 rfl (lv_at hl 0 rfl) ?_
    refine lv_iload_n hx hb dX5_isShortBefore_14 rfl (lv_at hl 1 rfl) ?_
    refine g_ci hw (g_runV (As := [.int x1]) (rest := []) hx hb hml hown hts mX5_rankOf vX5_rankOf kX5_64 hw 17 0 (ci_17 (by decide)) (bi_17 (by decide) hn) rfl rfl (c_X5_rankOf hn h) rfl rfl ⟨Nat.le_of_ble_eq_true rfl, Nat.le_of_ble_eq_true rfl⟩ rfl hl.1 rfl (Nat.le_of_ble_eq_true rfl) dX5_isShortBefore_15 ⟨Nat.zero_le _, Nat.zero_le _⟩) ?_
    clear h hw; intro v14 M13 H locs hw h
    refine lv_aload_n hx hb dX5_isShortBefore_18 rfl (lv_at hl 0 rfl) ?_
    refine lv_iload_n hx hb dX5_isShortBefore_19 rfl (lv_at hl 2 rfl) ?_
    refine g_ci hw (g_runV (As := [.int x2]) (rest := [.int v14]) hx hb hml hown hts mX5_rankOf vX5_rankOf kX5_64 hw 17 0 (ci_17 (by decide)) (bi_17 (by decide) hn) rfl rfl (c_X5_rankOf hn h) rfl rfl ⟨Nat.le_of_ble_eq_true rfl, Nat.le_of_ble_eq_true rfl⟩ rfl hl.1 rfl (Nat.le_of_ble_eq_true rfl) dX5_isShortBefore_20 ⟨Nat.zero_le _, Nat.zero_le _⟩) ?_
    clear h hw; intro v16 M15 H locs hw h
    refine g_icmp_le (tgt := 30) hx hb h dX5_isShortBefore_23 (by decide) ?_ ?_
    · clear h; intro h
      refine lv_iconst (v := 0) hx hb dX5_isShortBefore_30 (by decide) ?_
      exact g_zret hx hb hr hlocks hw (Or.inl rfl) h dX5_isShortBefore_31
    · clear h; intro h
      refine lv_iconst (v := 1) hx hb dX5_isShortBefore_26 (by decide) ?_
      refine lv_goto (tgt := 31) hx hb dX5_isShortBefore_27 (by decide) ?_
      exact g_zret hx hb hr hlocks hw (Or.inr rfl) h dX5_isShortBefore_31
abbrev rm_X5_isShortOn : Room := { frames := 2, cells := 0, slots := 0, locals := 42 }
set_option maxHeartbeats 4000000 in
set_option maxRecDepth 100000 in
theorem c_X5_isShortOn {o : Om} {l : Launch} (hn : 122 ≤ o.2.2.2) {M : Mm} {x1 : Int32} {x2 : Int32} {Q : Int32 → Mm → Prop} (h : w_X5_isShortOn M x1 x2 Q) : CZ o l yX5_isShortOn cX5_isShortOn 3 rm_X5_isShortOn [.ref (o.2.1 17 0), .int x1, .int x2] M Q := by
  refine g_start (by decide +kernel) (Nat.le_of_ble_eq_true rfl) ?_
  intro p e s m args below meth c hx hb hr hlocks hml hown hts hw ls hl
  replace hl : lv_has ls 3 [(0, .ref (o.2.1 17 0)), (1, .int x1), (2, .int x2)] := hl
  unfold w_X5_isShortOn at h
  refine lv_aload_n hx hb dX5_isShortOn_0 rfl (lv_at hl 0 rfl) ?_
  refine lv_iload_n hx hb dX5_isShortOn_1 rfl (lv_at hl 1 rfl) ?_
  refine g_cz hw (g_runV (As := [.int x1]) (rest := []) hx hb hml hown hts mX5_isLong vX5_isLong kX5_73 hw 17 0 (ci_17 (by decide)) (bi_17 (by decide) hn) rfl rfl (c_X5_isLong hn h) rfl rfl ⟨Nat.le_of_ble_eq_true rfl, Nat.le_of_ble_eq_true rfl⟩ rfl hl.1 rfl (Nat.le_of_ble_eq_true rfl) dX5_isShortOn_2 ⟨Nat.zero_le _, Nat.zero_le _⟩) ?_
  clear h hw; intro v2 M1 H locs hw hz_v2 h
  refine g_if_ne (tgt := 21) hx hb h dX5_isShortOn_5 (by decide) ?_ ?_
  · clear h; intro h
    refine lv_iconst (v := 0) hx hb dX5_isShortOn_21 (by decide) ?_
    exact g_zret hx hb hr hlocks hw (Or.inl rfl) h dX5_isShortOn_22
  · clear h; intro h
    refine lv_aload_n hx hb dX5_isShortOn_8 rfl (lv_at hl 0 rfl) ?_
    refine lv_iload_n hx hb dX5_isShortOn_9 rfl (lv_at hl 1 rfl) ?_
    refine g_ci hw (g_runV (As := [.int x1]) (rest := []) hx hb hml hown hts mX5_begins vX5_begins kX5_40 hw 17 0 (ci_17 (by decide)) (bi_17 (by decide) hn) rfl rfl (c_X5_begins hn h) rfl rfl ⟨Nat.le_of_ble_eq_true rfl, Nat.le_of_ble_eq_true rfl⟩ rfl hl.1 rfl (Nat.le_of_ble_eq_true rfl) dX5_isShortOn_10 ⟨Nat.zero_le _, Nat.zero_le _⟩) ?_
    clear h hw; intro v4 M3 H locs hw h
    refine lv_iload_n hx hb dX5_isShortOn_13 rfl (lv_at hl 2 rfl) ?_
    refine g_icmp_ne (tgt := 21) hx hb h dX5_isShortOn_14 (by decide) ?_ ?_
    · clear h; intro h
      refine lv_iconst (v := 0) hx hb dX5_isShortOn_21 (by decide) ?_
      exact g_zret hx hb hr hlocks hw (Or.inl rfl) h dX5_isShortOn_22
    · clear h; intro h
      refine lv_iconst (v := 1) hx hb dX5_isShortOn_17 (by decide) ?_
      refine lv_goto (tgt := 22) hx hb dX5_isShortOn_18 (by decide) ?_
      exact g_zret hx hb hr hlocks hw (Or.inr rfl) h dX5_isShortOn_22
abbrev rm_X5_rowAt : Room := { frames := 2, cells := 0, slots := 0, locals := 42 }
set_option maxHeartbeats 4000000 in
set_option maxRecDepth 100000 in
theorem c_X5_rowAt {o : Om} {l : Launch} (hn : 122 ≤ o.2.2.2) {M : Mm} {x1 : Int32} {x2 : Int32} {Q : Int32 → Mm → Prop} (h : w_X5_rowAt M x1 x2 Q) : CI o l yX5_rowAt cX5_rowAt 3 rm_X5_rowAt [.ref (o.2.1 17 0), .int x1, .int x2] M Q := by
  refine g_start (by decide +kernel) (Nat.le_of_ble_eq_true rfl) ?_
  intro p e s m args below meth c hx hb hr hlocks hml hown hts hw ls hl
  replace hl : lv_has ls 3 [(0, .ref (o.2.1 17 0)), (1, .int x1), (2, .int x2)] := hl
  unfold w_X5_rowAt at h
  refine lv_aload_n hx hb dX5_rowAt_0 rfl (lv_at hl 0 rfl) ?_
  refine lv_iload_n hx hb dX5_rowAt_1 rfl (lv_at hl 1 rfl) ?_
  refine g_cz hw (g_runV (As := [.int x1]) (rest := []) hx hb hml hown hts mX5_isLong vX5_isLong kX5_73 hw 17 0 (ci_17 (by decide)) (bi_17 (by decide) hn) rfl rfl (c_X5_isLong hn h) rfl rfl ⟨Nat.le_of_ble_eq_true rfl, Nat.le_of_ble_eq_true rfl⟩ rfl hl.1 rfl (Nat.le_of_ble_eq_true rfl) dX5_rowAt_2 ⟨Nat.zero_le _, Nat.zero_le _⟩) ?_
  clear h hw; intro v2 M1 H locs hw hz_v2 h
  refine g_if_eq (tgt := 26) hx hb h dX5_rowAt_5 (by decide) ?_ ?_
  · clear h; intro h
    refine lv_aload_n hx hb dX5_rowAt_26 rfl (lv_at hl 0 rfl) ?_
    refine g_getf hx hb hts in_X5 hown hw 17 0 (ci_17 (by decide)) (bi_17 (by decide) hn) rfl rfl 5 (by decide) kX5_19 rfl dX5_rowAt_27 ?_
    refine lv_iload_n hx hb dX5_rowAt_30 rfl (lv_at hl 1 rfl) ?_
    refine g_iald hx hb hw 21 0 (ci_21 (by decide)) (bi_21 (by decide) hn) rfl h dX5_rowAt_31 ?_
    clear h; intro v3 h
    exact g_iret hx hb hr hlocks hw h dX5_rowAt_32
  · clear h; intro h
    refine lv_aload_n hx hb dX5_rowAt_8 rfl (lv_at hl 0 rfl) ?_
    refine g_getf hx hb hts in_X5 hown hw 17 0 (ci_17 (by decide)) (bi_17 (by decide) hn) rfl rfl 4 (by decide) kX5_16 rfl dX5_rowAt_9 ?_
    refine lv_bipush (v := 7) hx hb dX5_rowAt_12 (by decide) ?_
    refine lv_iload_n hx hb dX5_rowAt_14 rfl (lv_at hl 1 rfl) ?_
    refine lv_imul hx hb dX5_rowAt_15 ?_
    refine lv_aload_n hx hb dX5_rowAt_16 rfl (lv_at hl 0 rfl) ?_
    refine lv_iload_n hx hb dX5_rowAt_17 rfl (lv_at hl 2 rfl) ?_
    refine g_ci hw (g_runV (As := [.int x2]) (rest := [.int ((7 : Int32) * x1), .ref (o.2.1 20 0)]) hx hb hml hown hts mX5_weekAt vX5_weekAt kX5_93 hw 17 0 (ci_17 (by decide)) (bi_17 (by decide) hn) rfl rfl (c_X5_weekAt hn h) rfl rfl ⟨Nat.le_of_ble_eq_true rfl, Nat.le_of_ble_eq_true rfl⟩ rfl hl.1 rfl (Nat.le_of_ble_eq_true rfl) dX5_rowAt_18 ⟨Nat.zero_le _, Nat.zero_le _⟩) ?_
    clear h hw; intro v5 M4 H locs hw h
    refine lv_iadd hx hb dX5_rowAt_21 ?_
    refine g_iald hx hb hw 20 0 (ci_20 (by decide)) (bi_20 (by decide) hn) rfl h dX5_rowAt_22 ?_
    clear h; intro v6 h
    refine lv_goto (tgt := 32) hx hb dX5_rowAt_23 (by decide) ?_
    exact g_iret hx hb hr hlocks hw h dX5_rowAt_32
abbrev rm_X5_isTaken : Room := { frames := 3, cells := 0, slots := 0, locals := 64 }
set_option maxHeartbeats 4000000 in
set_option maxRecDepth 100000 in
theorem c_X5_isTaken {o : Om} {l : Launch} (hn : 122 ≤ o.2.2.2) {M : Mm} {x1 : Int32} {x2 : Int32} {Q : Int32 → Mm → Prop} (h : w_X5_isTaken M x1 x2 Q) : CZ o l yX5_isTaken cX5_isTaken 5 rm_X5_isTaken [.ref (o.2.1 17 0), .int x1, .int x2] M Q := by
  refine g_start (by decide +kernel) (Nat.le_of_ble_eq_true rfl) ?_
  intro p e s m args below meth c hx hb hr hlocks hml hown hts hw ls hl
  replace hl : lv_has ls 5 [(0, .ref (o.2.1 17 0)), (1, .int x1), (2, .int x2)] := hl
  unfold w_X5_isTaken at h
  refine lv_iconst (v := 0) hx hb dX5_isTaken_0 (by decide) ?_
  refine lv_istore_n (lv' := [(3, .int (0 : Int32)), (0, .ref (o.2.1 17 0)), (1, .int x1), (2, .int x2)]) hx hb dX5_isTaken_1 rfl hl (by decide) rfl ?_
  clear hl; clear ls; intro ls hl
  refine lv_iconst (v := 0) hx hb dX5_isTaken_2 (by decide) ?_
  refine lv_istore (lv' := [(4, .int (0 : Int32)), (3, .int (0 : Int32)), (0, .ref (o.2.1 17 0)), (1, .int x1), (2, .int x2)]) hx hb dX5_isTaken_3 hl (by decide) rfl ?_
  clear hl; clear ls; intro ls hl
  obtain ⟨n, h⟩ := h
  refine letK_W (body := fun K => w_X5_isTaken_L5 x1 x2 K) (fun (x : Int32 × Int32 × Mm) => ∀ (H : Heap) (locs : List Loc) (ls : Array Slot), WO o (WA o) s s.heap H locs x.2.2 → lv_has ls 5 [(3, .int x.1)] → W p l e rm_X5_isTaken s m args below meth c H locs 0 0 (MQ below (QZ o Q) args s 0 0 (WA o)) (F0 m 53 ls [])) h ?_ ?_
  · clear h hw hl; clear ls; intro x h H locs ls hw hl
    obtain ⟨v15, v16, M17⟩ := x
    replace hl : lv_has ls 5 [(3, .int v15)] := hl
    dsimp only at h hw
    refine lv_iload_n hx hb dX5_isTaken_53 rfl (lv_at hl 0 rfl) ?_
    exact g_zret hx hb hr hlocks hw h.1 h.2 dX5_isTaken_54
  clear h; intro K4 hK4 h
  refine loop_W (body := w_X5_isTaken_L5 x1 x2 K4) (fun (x : Int32 × Int32 × Mm) => ∀ (H : Heap) (locs : List Loc) (ls : Array Slot), WO o (WA o) s s.heap H locs x.2.2 → lv_has ls 5 [(0, .ref (o.2.1 17 0)), (1, .int x1), (2, .int x2), (3, .int x.1), (4, .int x.2.1)] → W p l e rm_X5_isTaken s m args below meth c H locs 0 0 (MQ below (QZ o Q) args s 0 0 (WA o)) (F0 m 5 ls [])) ?_ n _ h _ _ _ hw (lv_sub hl [2, 3, 4, 1, 0] rfl)
  clear h hw hl; clear ls; intro R5 x hR5 h H locs ls hw hl
  obtain ⟨v1, v2, M3⟩ := x
  replace hl : lv_has ls 5 [(0, .ref (o.2.1 17 0)), (1, .int x1), (2, .int x2), (3, .int v1), (4, .int v2)] := hl
  dsimp only at hw
  unfold w_X5_isTaken_L5 at h
  dsimp only at h
  refine lv_iload hx hb dX5_isTaken_5 (lv_at hl 4 rfl) ?_
  refine lv_aload_n hx hb dX5_isTaken_7 rfl (lv_at hl 0 rfl) ?_
  refine g_getf hx hb hts in_X5 hown hw 17 0 (ci_17 (by decide)) (bi_17 (by decide) hn) rfl rfl 0 (by decide) kX5_7 rfl dX5_isTaken_8 ?_
  refine lv_iconst (v := 4) hx hb dX5_isTaken_11 (by decide) ?_
  refine g_iald hx hb hw 18 0 (ci_18 (by decide)) (bi_18 (by decide) hn) rfl h dX5_isTaken_12 ?_
  clear h; intro v6 h
  refine g_icmp_ge (tgt := 53) hx hb h dX5_isTaken_13 (by decide) ?_ ?_
  · clear h; intro h
    exact hK4 (v1, v2, M3) h _ _ _ hw (lv_sub hl [3] rfl)
  · clear h; intro h
    refine lv_iload_n hx hb dX5_isTaken_16 rfl (lv_at hl 3 rfl) ?_
    refine g_if_ne (tgt := 41) hx hb h dX5_isTaken_17 (by decide) ?_ ?_
    · clear h; intro h
      refine lv_iconst (v := 1) hx hb dX5_isTaken_41 (by decide) ?_
      refine lv_goto (tgt := 46) hx hb dX5_isTaken_42 (by decide) ?_
      refine lv_istore_n (lv' := [(3, .int (1 : Int32)), (0, .ref (o.2.1 17 0)), (1, .int x1), (2, .int x2), (4, .int v2)]) hx hb dX5_isTaken_46 rfl hl (by decide) rfl ?_
      clear hl; clear ls; intro ls hl
      refine g_iinc (k := 4) (v := (v2 + (1 : Int32))) (lv' := fun v7 => [(4, .int v7), (3, .int (1 : Int32)), (0, .ref (o.2.1 17 0)), (1, .int x1), (2, .int x2)]) hx hb dX5_isTaken_47 hl rfl rfl (by decide) (fun _ => rfl) h ?_
      clear h hl; clear ls; intro v7 ls h hl
      refine lv_goto (tgt := 5) hx hb dX5_isTaken_50 (by decide) ?_
      exact hR5 ((1 : Int32), v7, M3) h _ _ _ hw (lv_sub hl [2, 3, 4, 1, 0] rfl)
    · clear h; intro h
      refine lv_aload_n hx hb dX5_isTaken_20 rfl (lv_at hl 0 rfl) ?_
      refine lv_iload hx hb dX5_isTaken_21 (lv_at hl 4 rfl) ?_
      refine lv_iload_n hx hb dX5_isTaken_23 rfl (lv_at hl 1 rfl) ?_
      refine g_cz hw (g_runV (As := [.int v2, .int x1]) (rest := []) hx hb hml hown hts mX5_isOn vX5_isOn kX5_86 hw 17 0 (ci_17 (by decide)) (bi_17 (by decide) hn) rfl rfl (c_X5_isOn hn h) rfl rfl ⟨Nat.le_of_ble_eq_true rfl, Nat.le_of_ble_eq_true rfl⟩ rfl hl.1 rfl (Nat.le_of_ble_eq_true rfl) dX5_isTaken_24 ⟨Nat.zero_le _, Nat.zero_le _⟩) ?_
      clear h hw; intro v9 M8 H locs hw hz_v9 h
      refine g_if_eq (tgt := 45) hx hb h dX5_isTaken_27 (by decide) ?_ ?_
      · clear h; intro h
        refine lv_iconst (v := 0) hx hb dX5_isTaken_45 (by decide) ?_
        refine lv_istore_n (lv' := [(3, .int (0 : Int32)), (0, .ref (o.2.1 17 0)), (1, .int x1), (2, .int x2), (4, .int v2)]) hx hb dX5_isTaken_46 rfl hl (by decide) rfl ?_
        clear hl; clear ls; intro ls hl
        refine g_iinc (k := 4) (v := (v2 + (1 : Int32))) (lv' := fun v10 => [(4, .int v10), (3, .int (0 : Int32)), (0, .ref (o.2.1 17 0)), (1, .int x1), (2, .int x2)]) hx hb dX5_isTaken_47 hl rfl rfl (by decide) (fun _ => rfl) h ?_
        clear h hl; clear ls; intro v10 ls h hl
        refine lv_goto (tgt := 5) hx hb dX5_isTaken_50 (by decide) ?_
        exact hR5 ((0 : Int32), v10, M8) h _ _ _ hw (lv_sub hl [2, 3, 4, 1, 0] rfl)
      · clear h; intro h
        refine lv_aload_n hx hb dX5_isTaken_30 rfl (lv_at hl 0 rfl) ?_
        refine lv_iload hx hb dX5_isTaken_31 (lv_at hl 4 rfl) ?_
        refine lv_iload_n hx hb dX5_isTaken_33 rfl (lv_at hl 1 rfl) ?_
        refine g_ci hw (g_runV (As := [.int v2, .int x1]) (rest := []) hx hb hml hown hts mX5_rowAt vX5_rowAt kX5_89 hw 17 0 (ci_17 (by decide)) (bi_17 (by decide) hn) rfl rfl (c_X5_rowAt hn h) rfl rfl ⟨Nat.le_of_ble_eq_true rfl, Nat.le_of_ble_eq_true rfl⟩ rfl hl.1 rfl (Nat.le_of_ble_eq_true rfl) dX5_isTaken_34 ⟨Nat.zero_le _, Nat.zero_le _⟩) ?_
        clear h hw; intro v12 M11 H locs hw h
        refine lv_iload_n hx hb dX5_isTaken_37 rfl (lv_at hl 2 rfl) ?_
        refine g_icmp_ne (tgt := 45) hx hb h dX5_isTaken_38 (by decide) ?_ ?_
        · clear h; intro h
          refine lv_iconst (v := 0) hx hb dX5_isTaken_45 (by decide) ?_
          refine lv_istore_n (lv' := [(3, .int (0 : Int32)), (0, .ref (o.2.1 17 0)), (1, .int x1), (2, .int x2), (4, .int v2)]) hx hb dX5_isTaken_46 rfl hl (by decide) rfl ?_
          clear hl; clear ls; intro ls hl
          refine g_iinc (k := 4) (v := (v2 + (1 : Int32))) (lv' := fun v13 => [(4, .int v13), (3, .int (0 : Int32)), (0, .ref (o.2.1 17 0)), (1, .int x1), (2, .int x2)]) hx hb dX5_isTaken_47 hl rfl rfl (by decide) (fun _ => rfl) h ?_
          clear h hl; clear ls; intro v13 ls h hl
          refine lv_goto (tgt := 5) hx hb dX5_isTaken_50 (by decide) ?_
          exact hR5 ((0 : Int32), v13, M11) h _ _ _ hw (lv_sub hl [2, 3, 4, 1, 0] rfl)
        · clear h; intro h
          refine lv_iconst (v := 1) hx hb dX5_isTaken_41 (by decide) ?_
          refine lv_goto (tgt := 46) hx hb dX5_isTaken_42 (by decide) ?_
          refine lv_istore_n (lv' := [(3, .int (1 : Int32)), (0, .ref (o.2.1 17 0)), (1, .int x1), (2, .int x2), (4, .int v2)]) hx hb dX5_isTaken_46 rfl hl (by decide) rfl ?_
          clear hl; clear ls; intro ls hl
          refine g_iinc (k := 4) (v := (v2 + (1 : Int32))) (lv' := fun v14 => [(4, .int v14), (3, .int (1 : Int32)), (0, .ref (o.2.1 17 0)), (1, .int x1), (2, .int x2)]) hx hb dX5_isTaken_47 hl rfl rfl (by decide) (fun _ => rfl) h ?_
          clear h hl; clear ls; intro v14 ls h hl
          refine lv_goto (tgt := 5) hx hb dX5_isTaken_50 (by decide) ?_
          exact hR5 ((1 : Int32), v14, M11) h _ _ _ hw (lv_sub hl [2, 3, 4, 1, 0] rfl)
abbrev rm_X5_laysDay : Room := { frames := 4, cells := 0, slots := 0, locals := 88 }
set_option maxHeartbeats 4000000 in
set_option maxRecDepth 100000 in
theorem c_X5_laysDay {o : Om} {l : Launch} (hn : 122 ≤ o.2.2.2) {M : Mm} {x1 : Int32} {Q : Mm → Prop} (h : w_X5_laysDay M x1 Q) : CV o l yX5_laysDay cX5_laysDay 6 rm_X5_laysDay [.ref (o.2.1 17 0), .int x1] M Q := by
  refine g_start (by decide +kernel) (Nat.le_of_ble_eq_true rfl) ?_
  intro p e s m args below meth c hx hb hr hlocks hml hown hts hw ls hl
  replace hl : lv_has ls 6 [(0, .ref (o.2.1 17 0)), (1, .int x1)] := hl
  unfold w_X5_laysDay at h
  refine lv_iconst (v := 1) hx hb dX5_laysDay_0 (by decide) ?_
  refine lv_istore_n (lv' := [(2, .int (1 : Int32)), (0, .ref (o.2.1 17 0)), (1, .int x1)]) hx hb dX5_laysDay_1 rfl hl (by decide) rfl ?_
  clear hl; clear ls; intro ls hl
  obtain ⟨n, h⟩ := h
  refine letK_W (body := fun K => w_X5_laysDay_L2 x1 K) (fun (x : Int32 × Mm) => ∀ (H : Heap) (locs : List Loc) (ls : Array Slot), WO o (WA o) s s.heap H locs x.2 → lv_has ls 6 [] → W p l e rm_X5_laysDay s m args below meth c H locs 0 0 (MQ below (QV o Q) args s 0 0 (WA o)) (F0 m 132 ls [])) h ?_ ?_
  · clear h hw hl; clear ls; intro x h H locs ls hw hl
    obtain ⟨v38, M39⟩ := x
    replace hl : lv_has ls 6 [] := hl
    dsimp only at h hw
    exact g_vret hx hb hr hlocks hw h dX5_laysDay_132
  clear h; intro K3 hK3 h
  refine loop_W (body := w_X5_laysDay_L2 x1 K3) (fun (x : Int32 × Mm) => ∀ (H : Heap) (locs : List Loc) (ls : Array Slot), WO o (WA o) s s.heap H locs x.2 → lv_has ls 6 [(0, .ref (o.2.1 17 0)), (1, .int x1), (2, .int x.1)] → W p l e rm_X5_laysDay s m args below meth c H locs 0 0 (MQ below (QV o Q) args s 0 0 (WA o)) (F0 m 2 ls [])) ?_ n _ h _ _ _ hw (lv_sub hl [1, 2, 0] rfl)
  clear h hw hl; clear ls; intro R4 x hR4 h H locs ls hw hl
  obtain ⟨v1, M2⟩ := x
  replace hl : lv_has ls 6 [(0, .ref (o.2.1 17 0)), (1, .int x1), (2, .int v1)] := hl
  dsimp only at hw
  unfold w_X5_laysDay_L2 at h
  dsimp only at h
  refine lv_iload_n hx hb dX5_laysDay_2 rfl (lv_at hl 2 rfl) ?_
  refine g_if_eq (tgt := 132) hx hb h dX5_laysDay_3 (by decide) ?_ ?_
  · clear h; intro h
    exact hK3 (v1, M2) h _ _ _ hw (lv_sub hl [] rfl)
  · clear h; intro h
    refine lv_bipush (v := (-9)) hx hb dX5_laysDay_6 (by decide) ?_
    refine lv_istore_n (lv' := [(3, .int (-9 : Int32)), (0, .ref (o.2.1 17 0)), (1, .int x1), (2, .int v1)]) hx hb dX5_laysDay_8 rfl hl (by decide) rfl ?_
    clear hl; clear ls; intro ls hl
    refine lv_iconst (v := 0) hx hb dX5_laysDay_9 (by decide) ?_
    refine lv_istore (lv' := [(4, .int (0 : Int32)), (3, .int (-9 : Int32)), (0, .ref (o.2.1 17 0)), (1, .int x1), (2, .int v1)]) hx hb dX5_laysDay_10 hl (by decide) rfl ?_
    clear hl; clear ls; intro ls hl
    obtain ⟨n, h⟩ := h
    refine letK_W (body := fun K => w_X5_laysDay_L12 x1 K) (fun (x : Int32 × Int32 × Mm) => ∀ (H : Heap) (locs : List Loc) (ls : Array Slot), WO o (WA o) s s.heap H locs x.2.2 → lv_has ls 6 [(0, .ref (o.2.1 17 0)), (1, .int x1), (3, .int x.1)] → W p l e rm_X5_laysDay s m args below meth c H locs 0 0 (MQ below (QV o Q) args s 0 0 (WA o)) (F0 m 86 ls [])) h ?_ ?_
    · clear h hw hl; clear ls; intro x h H locs ls hw hl
      obtain ⟨v23, v24, M25⟩ := x
      replace hl : lv_has ls 6 [(0, .ref (o.2.1 17 0)), (1, .int x1), (3, .int v23)] := hl
      dsimp only at h hw
      refine lv_iload_n hx hb dX5_laysDay_86 rfl (lv_at hl 2 rfl) ?_
      refine lv_bipush (v := (-9)) hx hb dX5_laysDay_87 (by decide) ?_
      refine letJ_W (fun (x : Int32) => ∀ (H : Heap) (locs : List Loc) (ls : Array Slot), WO o (WA o) s s.heap H locs M25 → lv_has ls 6 [(0, .ref (o.2.1 17 0)), (1, .int x1), (3, .int v23)] → W p l e rm_X5_laysDay s m args below meth c H locs 0 0 (MQ below (QV o Q) args s 0 0 (WA o)) (F0 m 97 ls [.int x])) h ?_ ?_
      · clear h hw hl; clear ls; intro x h H locs ls hw hl
        obtain ⟨v26, rfl⟩ : ∃ z, z = x := ⟨_, rfl⟩
        replace hl : lv_has ls 6 [(0, .ref (o.2.1 17 0)), (1, .int x1), (3, .int v23)] := hl
        refine lv_istore_n (lv' := [(2, .int v26), (0, .ref (o.2.1 17 0)), (1, .int x1), (3, .int v23)]) hx hb dX5_laysDay_97 rfl hl (by decide) rfl ?_
        clear hl; clear ls; intro ls hl
        refine lv_iload_n hx hb dX5_laysDay_98 rfl (lv_at hl 0 rfl) ?_
        refine g_if_eq (tgt := 129) hx hb h dX5_laysDay_99 (by decide) ?_ ?_
        · clear h; intro h
          refine lv_goto (tgt := 2) hx hb dX5_laysDay_129 (by decide) ?_
          exact hR4 (v26, M25) h _ _ _ hw (lv_sub hl [1, 2, 0] rfl)
        · clear h; intro h
          refine lv_iconst (v := 0) hx hb dX5_laysDay_102 (by decide) ?_
          refine lv_istore (lv' := [(4, .int (0 : Int32)), (2, .int v26), (0, .ref (o.2.1 17 0)), (1, .int x1), (3, .int v23)]) hx hb dX5_laysDay_103 hl (by decide) rfl ?_
          clear hl; clear ls; intro ls hl
          obtain ⟨n, h⟩ := h
          refine letK_W (body := fun K => w_X5_laysDay_L105 x1 v26 v23 K) (fun (x : Int32 × Mm) => ∀ (H : Heap) (locs : List Loc) (ls : Array Slot), WO o (WA o) s s.heap H locs x.2 → lv_has ls 6 [(0, .ref (o.2.1 17 0)), (1, .int x1), (2, .int v26), (3, .int v23), (4, .int x.1)] → W p l e rm_X5_laysDay s m args below meth c H locs 0 0 (MQ below (QV o Q) args s 0 0 (WA o)) (F0 m 121 ls [])) h ?_ ?_
          · clear h hw hl; clear ls; intro x h H locs ls hw hl
            obtain ⟨v35, M36⟩ := x
            replace hl : lv_has ls 6 [(0, .ref (o.2.1 17 0)), (1, .int x1), (2, .int v26), (3, .int v23), (4, .int v35)] := hl
            dsimp only at h hw
            refine lv_aload_n hx hb dX5_laysDay_121 rfl (lv_at hl 0 rfl) ?_
            refine g_getf hx hb hts in_X5 hown hw 17 0 (ci_17 (by decide)) (bi_17 (by decide) hn) rfl rfl 5 (by decide) kX5_19 rfl dX5_laysDay_122 ?_
            refine lv_iload_n hx hb dX5_laysDay_125 rfl (lv_at hl 3 rfl) ?_
            refine lv_iload hx hb dX5_laysDay_126 (lv_at hl 4 rfl) ?_
            refine g_iast hx hb hw 21 0 (ci_21 (by decide)) (bi_21 (by decide) hn) (fun _ => rfl) h dX5_laysDay_128 ?_
            clear h hw; intro M37 H locs hw h
            refine lv_goto (tgt := 2) hx hb dX5_laysDay_129 (by decide) ?_
            exact hR4 (v26, M37) h _ _ _ hw (lv_sub hl [0, 1, 2] rfl)
          clear h; intro K30 hK30 h
          refine loop_W (body := w_X5_laysDay_L105 x1 v26 v23 K30) (fun (x : Int32 × Mm) => ∀ (H : Heap) (locs : List Loc) (ls : Array Slot), WO o (WA o) s s.heap H locs x.2 → lv_has ls 6 [(0, .ref (o.2.1 17 0)), (1, .int x1), (2, .int v26), (3, .int v23), (4, .int x.1)] → W p l e rm_X5_laysDay s m args below meth c H locs 0 0 (MQ below (QV o Q) args s 0 0 (WA o)) (F0 m 105 ls [])) ?_ n _ h _ _ _ hw (lv_sub hl [2, 3, 1, 4, 0] rfl)
          clear h hw hl; clear ls; intro R31 x hR31 h H locs ls hw hl
          obtain ⟨v28, M29⟩ := x
          replace hl : lv_has ls 6 [(0, .ref (o.2.1 17 0)), (1, .int x1), (2, .int v26), (3, .int v23), (4, .int v28)] := hl
          dsimp only at hw
          unfold w_X5_laysDay_L105 at h
          dsimp only at h
          refine lv_aload_n hx hb dX5_laysDay_105 rfl (lv_at hl 0 rfl) ?_
          refine lv_iload_n hx hb dX5_laysDay_106 rfl (lv_at hl 1 rfl) ?_
          refine lv_iload hx hb dX5_laysDay_107 (lv_at hl 4 rfl) ?_
          refine g_cz hw (g_runV (As := [.int x1, .int v28]) (rest := []) hx hb hml hown hts mX5_isTaken vX5_isTaken kX5_102 hw 17 0 (ci_17 (by decide)) (bi_17 (by decide) hn) rfl rfl (c_X5_isTaken hn h) rfl rfl ⟨Nat.le_of_ble_eq_true rfl, Nat.le_of_ble_eq_true rfl⟩ rfl hl.1 rfl (Nat.le_of_ble_eq_true rfl) dX5_laysDay_109 ⟨Nat.zero_le _, Nat.zero_le _⟩) ?_
          clear h hw; intro v33 M32 H locs hw hz_v33 h
          refine g_if_eq (tgt := 121) hx hb h dX5_laysDay_112 (by decide) ?_ ?_
          · clear h; intro h
            exact hK30 (v28, M32) h _ _ _ hw (lv_sub hl [0, 1, 2, 3, 4] rfl)
          · clear h; intro h
            refine g_iinc (k := 4) (v := (v28 + (1 : Int32))) (lv' := fun v34 => [(4, .int v34), (0, .ref (o.2.1 17 0)), (1, .int x1), (2, .int v26), (3, .int v23)]) hx hb dX5_laysDay_115 hl rfl rfl (by decide) (fun _ => rfl) h ?_
            clear h hl; clear ls; intro v34 ls h hl
            refine lv_goto (tgt := 105) hx hb dX5_laysDay_118 (by decide) ?_
            exact hR31 (v34, M32) h _ _ _ hw (lv_sub hl [1, 2, 3, 4, 0] rfl)
      clear h; intro J27 hJ27 h
      refine g_icmp_eq (tgt := 96) hx hb h dX5_laysDay_89 (by decide) ?_ ?_
      · clear h; intro h
        refine lv_iconst (v := 0) hx hb dX5_laysDay_96 (by decide) ?_
        exact hJ27 (0 : Int32) h _ _ _ hw (lv_sub hl [0, 1, 2] rfl)
      · clear h; intro h
        refine lv_iconst (v := 1) hx hb dX5_laysDay_92 (by decide) ?_
        refine lv_goto (tgt := 97) hx hb dX5_laysDay_93 (by decide) ?_
        exact hJ27 (1 : Int32) h _ _ _ hw (lv_sub hl [0, 1, 2] rfl)
    clear h; intro K8 hK8 h
    refine loop_W (body := w_X5_laysDay_L12 x1 K8) (fun (x : Int32 × Int32 × Mm) => ∀ (H : Heap) (locs : List Loc) (ls : Array Slot), WO o (WA o) s s.heap H locs x.2.2 → lv_has ls 6 [(0, .ref (o.2.1 17 0)), (1, .int x1), (3, .int x.1), (4, .int x.2.1)] → W p l e rm_X5_laysDay s m args below meth c H locs 0 0 (MQ below (QV o Q) args s 0 0 (WA o)) (F0 m 12 ls [])) ?_ n _ h _ _ _ hw (lv_sub hl [2, 3, 1, 0] rfl)
    clear h hw hl; clear ls; intro R9 x hR9 h H locs ls hw hl
    obtain ⟨v5, v6, M7⟩ := x
    replace hl : lv_has ls 6 [(0, .ref (o.2.1 17 0)), (1, .int x1), (3, .int v5), (4, .int v6)] := hl
    dsimp only at hw
    unfold w_X5_laysDay_L12 at h
    dsimp only at h
    refine lv_iload hx hb dX5_laysDay_12 (lv_at hl 3 rfl) ?_
    refine lv_aload_n hx hb dX5_laysDay_14 rfl (lv_at hl 0 rfl) ?_
    refine g_getf hx hb hts in_X5 hown hw 17 0 (ci_17 (by decide)) (bi_17 (by decide) hn) rfl rfl 0 (by decide) kX5_7 rfl dX5_laysDay_15 ?_
    refine lv_iconst (v := 4) hx hb dX5_laysDay_18 (by decide) ?_
    refine g_iald hx hb hw 18 0 (ci_18 (by decide)) (bi_18 (by decide) hn) rfl h dX5_laysDay_19 ?_
    clear h; intro v10 h
    refine g_icmp_ge (tgt := 86) hx hb h dX5_laysDay_20 (by decide) ?_ ?_
    · clear h; intro h
      exact hK8 (v5, v6, M7) h _ _ _ hw (lv_sub hl [0, 1, 2] rfl)
    · clear h; intro h
      refine lv_aload_n hx hb dX5_laysDay_23 rfl (lv_at hl 0 rfl) ?_
      refine lv_iload hx hb dX5_laysDay_24 (lv_at hl 3 rfl) ?_
      refine lv_iload_n hx hb dX5_laysDay_26 rfl (lv_at hl 1 rfl) ?_
      refine g_cz hw (g_runV (As := [.int v6, .int x1]) (rest := []) hx hb hml hown hts mX5_isShortOn vX5_isShortOn kX5_96 hw 17 0 (ci_17 (by decide)) (bi_17 (by decide) hn) rfl rfl (c_X5_isShortOn hn h) rfl rfl ⟨Nat.le_of_ble_eq_true rfl, Nat.le_of_ble_eq_true rfl⟩ rfl hl.1 rfl (Nat.le_of_ble_eq_true rfl) dX5_laysDay_27 ⟨Nat.zero_le _, Nat.zero_le _⟩) ?_
      clear h hw; intro v12 M11 H locs hw hz_v12 h
      refine letJ_W (fun (x : Int32) => ∀ (H : Heap) (locs : List Loc) (ls : Array Slot), WO o (WA o) s s.heap H locs M11 → lv_has ls 6 [(0, .ref (o.2.1 17 0)), (1, .int x1), (3, .int v5), (4, .int v6)] → W p l e rm_X5_laysDay s m args below meth c H locs 0 0 (MQ below (QV o Q) args s 0 0 (WA o)) (F0 m 50 ls [.int x])) h ?_ ?_
      · clear h hw hl; clear ls; intro x h H locs ls hw hl
        obtain ⟨v13, rfl⟩ : ∃ z, z = x := ⟨_, rfl⟩
        replace hl : lv_has ls 6 [(0, .ref (o.2.1 17 0)), (1, .int x1), (3, .int v5), (4, .int v6)] := hl
        refine lv_istore (lv' := [(5, .int v13), (0, .ref (o.2.1 17 0)), (1, .int x1), (3, .int v5), (4, .int v6)]) hx hb dX5_laysDay_50 hl (by decide) rfl ?_
        clear hl; clear ls; intro ls hl
        refine lv_iload hx hb dX5_laysDay_52 (lv_at hl 0 rfl) ?_
        refine g_if_eq (tgt := 78) hx hb h dX5_laysDay_54 (by decide) ?_ ?_
        · clear h; intro h
          refine lv_iload_n hx hb dX5_laysDay_78 rfl (lv_at hl 3 rfl) ?_
          refine lv_istore_n (lv' := [(3, .int v5), (5, .int v13), (0, .ref (o.2.1 17 0)), (1, .int x1), (4, .int v6)]) hx hb dX5_laysDay_79 rfl hl (by decide) rfl ?_
          clear hl; clear ls; intro ls hl
          refine g_iinc (k := 4) (v := (v6 + (1 : Int32))) (lv' := fun v15 => [(4, .int v15), (3, .int v5), (5, .int v13), (0, .ref (o.2.1 17 0)), (1, .int x1)]) hx hb dX5_laysDay_80 hl rfl rfl (by decide) (fun _ => rfl) h ?_
          clear h hl; clear ls; intro v15 ls h hl
          refine lv_goto (tgt := 12) hx hb dX5_laysDay_83 (by decide) ?_
          exact hR9 (v5, v15, M11) h _ _ _ hw (lv_sub hl [3, 4, 1, 0] rfl)
        · clear h; intro h
          refine lv_iload_n hx hb dX5_laysDay_57 rfl (lv_at hl 3 rfl) ?_
          refine lv_bipush (v := (-9)) hx hb dX5_laysDay_58 (by decide) ?_
          refine g_icmp_eq (tgt := 73) hx hb h dX5_laysDay_60 (by decide) ?_ ?_
          · clear h; intro h
            refine lv_iload hx hb dX5_laysDay_73 (lv_at hl 4 rfl) ?_
            refine lv_goto (tgt := 79) hx hb dX5_laysDay_75 (by decide) ?_
            refine lv_istore_n (lv' := [(3, .int v6), (5, .int v13), (0, .ref (o.2.1 17 0)), (1, .int x1), (4, .int v6)]) hx hb dX5_laysDay_79 rfl hl (by decide) rfl ?_
            clear hl; clear ls; intro ls hl
            refine g_iinc (k := 4) (v := (v6 + (1 : Int32))) (lv' := fun v16 => [(4, .int v16), (3, .int v6), (5, .int v13), (0, .ref (o.2.1 17 0)), (1, .int x1)]) hx hb dX5_laysDay_80 hl rfl rfl (by decide) (fun _ => rfl) h ?_
            clear h hl; clear ls; intro v16 ls h hl
            refine lv_goto (tgt := 12) hx hb dX5_laysDay_83 (by decide) ?_
            exact hR9 (v6, v16, M11) h _ _ _ hw (lv_sub hl [3, 4, 1, 0] rfl)
          · clear h; intro h
            refine lv_aload_n hx hb dX5_laysDay_63 rfl (lv_at hl 1 rfl) ?_
            refine lv_iload hx hb dX5_laysDay_64 (lv_at hl 4 rfl) ?_
            refine lv_iload_n hx hb dX5_laysDay_66 rfl (lv_at hl 3 rfl) ?_
            refine g_cz hw (g_runV (As := [.int v6, .int v5]) (rest := []) hx hb hml hown hts mX5_isShortBefore vX5_isShortBefore kX5_99 hw 17 0 (ci_17 (by decide)) (bi_17 (by decide) hn) rfl rfl (c_X5_isShortBefore hn h) rfl rfl ⟨Nat.le_of_ble_eq_true rfl, Nat.le_of_ble_eq_true rfl⟩ rfl hl.1 rfl (Nat.le_of_ble_eq_true rfl) dX5_laysDay_67 ⟨Nat.zero_le _, Nat.zero_le _⟩) ?_
            clear h hw; intro v18 M17 H locs hw hz_v18 h
            refine g_if_eq (tgt := 78) hx hb h dX5_laysDay_70 (by decide) ?_ ?_
            · clear h; intro h
              refine lv_iload_n hx hb dX5_laysDay_78 rfl (lv_at hl 3 rfl) ?_
              refine lv_istore_n (lv' := [(3, .int v5), (5, .int v13), (0, .ref (o.2.1 17 0)), (1, .int x1), (4, .int v6)]) hx hb dX5_laysDay_79 rfl hl (by decide) rfl ?_
              clear hl; clear ls; intro ls hl
              refine g_iinc (k := 4) (v := (v6 + (1 : Int32))) (lv' := fun v19 => [(4, .int v19), (3, .int v5), (5, .int v13), (0, .ref (o.2.1 17 0)), (1, .int x1)]) hx hb dX5_laysDay_80 hl rfl rfl (by decide) (fun _ => rfl) h ?_
              clear h hl; clear ls; intro v19 ls h hl
              refine lv_goto (tgt := 12) hx hb dX5_laysDay_83 (by decide) ?_
              exact hR9 (v5, v19, M17) h _ _ _ hw (lv_sub hl [3, 4, 1, 0] rfl)
            · clear h; intro h
              refine lv_iload hx hb dX5_laysDay_73 (lv_at hl 4 rfl) ?_
              refine lv_goto (tgt := 79) hx hb dX5_laysDay_75 (by decide) ?_
              refine lv_istore_n (lv' := [(3, .int v6), (5, .int v13), (0, .ref (o.2.1 17 0)), (1, .int x1), (4, .int v6)]) hx hb dX5_laysDay_79 rfl hl (by decide) rfl ?_
              clear hl; clear ls; intro ls hl
              refine g_iinc (k := 4) (v := (v6 + (1 : Int32))) (lv' := fun v20 => [(4, .int v20), (3, .int v6), (5, .int v13), (0, .ref (o.2.1 17 0)), (1, .int x1)]) hx hb dX5_laysDay_80 hl rfl rfl (by decide) (fun _ => rfl) h ?_
              clear h hl; clear ls; intro v20 ls h hl
              refine lv_goto (tgt := 12) hx hb dX5_laysDay_83 (by decide) ?_
              exact hR9 (v6, v20, M17) h _ _ _ hw (lv_sub hl [3, 4, 1, 0] rfl)
      clear h; intro J14 hJ14 h
      refine letJ_W (fun (x : Unit) => ∀ (H : Heap) (locs : List Loc) (ls : Array Slot), WO o (WA o) s s.heap H locs M11 → lv_has ls 6 [(0, .ref (o.2.1 17 0)), (1, .int x1), (3, .int v5), (4, .int v6)] → W p l e rm_X5_laysDay s m args below meth c H locs 0 0 (MQ below (QV o Q) args s 0 0 (WA o)) (F0 m 49 ls [])) h ?_ ?_
      · clear h hw hl; clear ls; intro x h H locs ls hw hl
        replace hl : lv_has ls 6 [(0, .ref (o.2.1 17 0)), (1, .int x1), (3, .int v5), (4, .int v6)] := hl
        refine lv_iconst (v := 0) hx hb dX5_laysDay_49 (by decide) ?_
        exact hJ14 (0 : Int32) h _ _ _ hw (lv_sub hl [0, 1, 2, 3] rfl)
      clear h; intro J21 hJ21 h
      refine g_if_eq (tgt := 49) hx hb h dX5_laysDay_30 (by decide) ?_ ?_
      · clear h; intro h
        exact hJ21 () h _ _ _ hw (lv_sub hl [0, 1, 2, 3] rfl)
      · clear h; intro h
        refine lv_aload_n hx hb dX5_laysDay_33 rfl (lv_at hl 0 rfl) ?_
        refine g_getf hx hb hts in_X5 hown hw 17 0 (ci_17 (by decide)) (bi_17 (by decide) hn) rfl rfl 5 (by decide) kX5_19 rfl dX5_laysDay_34 ?_
        refine lv_iload hx hb dX5_laysDay_37 (lv_at hl 3 rfl) ?_
        refine g_iald hx hb hw 21 0 (ci_21 (by decide)) (bi_21 (by decide) hn) rfl h dX5_laysDay_39 ?_
        clear h; intro v22 h
        refine lv_bipush (v := (-9)) hx hb dX5_laysDay_40 (by decide) ?_
        refine g_icmp_ne (tgt := 49) hx hb h dX5_laysDay_42 (by decide) ?_ ?_
        · clear h; intro h
          exact hJ21 () h _ _ _ hw (lv_sub hl [0, 1, 2, 3] rfl)
        · clear h; intro h
          refine lv_iconst (v := 1) hx hb dX5_laysDay_45 (by decide) ?_
          refine lv_goto (tgt := 50) hx hb dX5_laysDay_46 (by decide) ?_
          exact hJ14 (1 : Int32) h _ _ _ hw (lv_sub hl [0, 1, 2, 3] rfl)
