abbrev rm_X5_readsEntry : Room := { frames := 4, cells := 0, slots := 0, locals := 86 }
set_option maxHeartbeats 4000000 in
set_option maxRecDepth 100000 in
theorem c_X5_readsEntry {o : Om} {l : Launch} (hn : 122 ≤ o.2.2.2) {M : Mm} {x1 : Int32} {Q : Int32 → Mm → Prop} (h : w_X5_readsEntry M x1 Q) : CZ o l yX5_readsEntry cX5_readsEntry 3 rm_X5_readsEntry [.ref (o.2.1 17 0), .int x1] M Q := by
  refine g_start (by decide +kernel) (Nat.le_of_ble_eq_true rfl) ?_
  intro p e s m args below meth c hx hb hr hlocks hml hown hts hw ls hl
  replace hl : lv_has ls 3 [(0, .ref (o.2.1 17 0)), (1, .int x1)] := hl
  unfold w_X5_readsEntry at h
  refine lv_iconst (v := 4) hx hb dX5_readsEntry_0 (by decide) ?_
  refine lv_iload_n hx hb dX5_readsEntry_1 rfl (lv_at hl 1 rfl) ?_
  refine lv_imul hx hb dX5_readsEntry_2 ?_
  refine g_topi h ?_
  clear h; intro v1 h
  refine lv_istore_n (lv' := [(2, .int v1), (0, .ref (o.2.1 17 0)), (1, .int x1)]) hx hb dX5_readsEntry_3 rfl hl (by decide) rfl ?_
  clear hl; clear ls; intro ls hl
  refine lv_iload_n hx hb dX5_readsEntry_4 rfl (lv_at hl 2 rfl) ?_
  refine lv_bipush (v := 24) hx hb dX5_readsEntry_5 (by decide) ?_
  refine g_icmp_eq (tgt := 22) hx hb h dX5_readsEntry_7 (by decide) ?_ ?_
  · clear h; intro h
    refine lv_iconst (v := 0) hx hb dX5_readsEntry_22 (by decide) ?_
    exact g_zret hx hb hr hlocks hw (Or.inl rfl) h dX5_readsEntry_23
  · clear h; intro h
    refine lv_aload_n hx hb dX5_readsEntry_10 rfl (lv_at hl 1 rfl) ?_
    refine lv_iconst (v := 3) hx hb dX5_readsEntry_11 (by decide) ?_
    refine lv_iconst (v := 0) hx hb dX5_readsEntry_12 (by decide) ?_
    refine lv_sipush (v := 999) hx hb dX5_readsEntry_13 (by decide) ?_
    refine g_cz hw (g_runV (As := [.int (3 : Int32), .int (0 : Int32), .int (999 : Int32)]) (rest := []) hx hb hml hown hts mX5_readsNumber vX5_readsNumber kX5_168 hw 17 0 (ci_17 (by decide)) (bi_17 (by decide) hn) rfl rfl (c_X5_readsNumber hn h) rfl rfl ⟨Nat.le_of_ble_eq_true rfl, Nat.le_of_ble_eq_true rfl⟩ rfl hl.1 rfl (Nat.le_of_ble_eq_true rfl) dX5_readsEntry_16 ⟨Nat.zero_le _, Nat.zero_le _⟩) ?_
    clear h hw; intro v3 M2 H locs hw hz_v3 h
    refine g_if_ne (tgt := 24) hx hb h dX5_readsEntry_19 (by decide) ?_ ?_
    · clear h; intro h
      refine lv_aload_n hx hb dX5_readsEntry_24 rfl (lv_at hl 1 rfl) ?_
      refine g_getf hx hb hts in_X5 hown hw 17 0 (ci_17 (by decide)) (bi_17 (by decide) hn) rfl rfl 9 (by decide) kX5_25 rfl dX5_readsEntry_25 ?_
      refine lv_iload_n hx hb dX5_readsEntry_28 rfl (lv_at hl 0 rfl) ?_
      refine lv_aload_n hx hb dX5_readsEntry_29 rfl (lv_at hl 1 rfl) ?_
      refine g_getf hx hb hts in_X5 hown hw 17 0 (ci_17 (by decide)) (bi_17 (by decide) hn) rfl rfl 8 (by decide) kX5_155 rfl dX5_readsEntry_30 ?_
      refine g_iast hx hb hw 23 0 (ci_23 (by decide)) (bi_23 (by decide) hn) (fun _ => rfl) h dX5_readsEntry_33 ?_
      clear h hw; intro M4 H locs hw h
      refine lv_aload_n hx hb dX5_readsEntry_34 rfl (lv_at hl 1 rfl) ?_
      refine lv_bipush (v := 45) hx hb dX5_readsEntry_35 (by decide) ?_
      refine g_cz hw (g_runV (As := [.int (45 : Int32)]) (rest := []) hx hb hml hown hts mX5_takes vX5_takes kX5_165 hw 17 0 (ci_17 (by decide)) (bi_17 (by decide) hn) rfl rfl (c_X5_takes hn h) rfl rfl ⟨Nat.le_of_ble_eq_true rfl, Nat.le_of_ble_eq_true rfl⟩ rfl hl.1 rfl (Nat.le_of_ble_eq_true rfl) dX5_readsEntry_37 ⟨Nat.zero_le _, Nat.zero_le _⟩) ?_
      clear h hw; intro v6 M5 H locs hw hz_v6 h
      refine letJ_W (fun (x : Mm) => ∀ (H : Heap) (locs : List Loc) (ls : Array Slot), WO o (WA o) s s.heap H locs x → lv_has ls 3 [(0, .ref (o.2.1 17 0)), (2, .int v1)] → W p l e rm_X5_readsEntry s m args below meth c H locs 0 0 (MQ below (QZ o Q) args s 0 0 (WA o)) (F0 m 62 ls [])) h ?_ ?_
      · clear h hw hl; clear ls; intro x h H locs ls hw hl
        obtain ⟨M8, rfl⟩ : ∃ z, z = x := ⟨_, rfl⟩
        replace hl : lv_has ls 3 [(0, .ref (o.2.1 17 0)), (2, .int v1)] := hl
        refine lv_aload_n hx hb dX5_readsEntry_62 rfl (lv_at hl 0 rfl) ?_
        refine g_getf hx hb hts in_X5 hown hw 17 0 (ci_17 (by decide)) (bi_17 (by decide) hn) rfl rfl 9 (by decide) kX5_25 rfl dX5_readsEntry_63 ?_
        refine lv_iload_n hx hb dX5_readsEntry_66 rfl (lv_at hl 1 rfl) ?_
        refine lv_iconst (v := 1) hx hb dX5_readsEntry_67 (by decide) ?_
        refine lv_iadd hx hb dX5_readsEntry_68 ?_
        refine lv_aload_n hx hb dX5_readsEntry_69 rfl (lv_at hl 0 rfl) ?_
        refine g_getf hx hb hts in_X5 hown hw 17 0 (ci_17 (by decide)) (bi_17 (by decide) hn) rfl rfl 8 (by decide) kX5_155 rfl dX5_readsEntry_70 ?_
        refine g_iast hx hb hw 23 0 (ci_23 (by decide)) (bi_23 (by decide) hn) (fun _ => rfl) h dX5_readsEntry_73 ?_
        clear h hw; intro M9 H locs hw h
        refine lv_aload_n hx hb dX5_readsEntry_74 rfl (lv_at hl 0 rfl) ?_
        refine g_getf hx hb hts in_X5 hown hw 17 0 (ci_17 (by decide)) (bi_17 (by decide) hn) rfl rfl 9 (by decide) kX5_25 rfl dX5_readsEntry_75 ?_
        refine lv_iload_n hx hb dX5_readsEntry_78 rfl (lv_at hl 1 rfl) ?_
        refine lv_iconst (v := 2) hx hb dX5_readsEntry_79 (by decide) ?_
        refine lv_iadd hx hb dX5_readsEntry_80 ?_
        refine lv_bipush (v := (-9)) hx hb dX5_readsEntry_81 (by decide) ?_
        refine g_iast hx hb hw 23 0 (ci_23 (by decide)) (bi_23 (by decide) hn) (fun _ => rfl) h dX5_readsEntry_83 ?_
        clear h hw; intro M10 H locs hw h
        refine lv_aload_n hx hb dX5_readsEntry_84 rfl (lv_at hl 0 rfl) ?_
        refine lv_bipush (v := 64) hx hb dX5_readsEntry_85 (by decide) ?_
        refine g_cz hw (g_runV (As := [.int (64 : Int32)]) (rest := []) hx hb hml hown hts mX5_takes vX5_takes kX5_165 hw 17 0 (ci_17 (by decide)) (bi_17 (by decide) hn) rfl rfl (c_X5_takes hn h) rfl rfl ⟨Nat.le_of_ble_eq_true rfl, Nat.le_of_ble_eq_true rfl⟩ rfl hl.1 rfl (Nat.le_of_ble_eq_true rfl) dX5_readsEntry_87 ⟨Nat.zero_le _, Nat.zero_le _⟩) ?_
        clear h hw; intro v12 M11 H locs hw hz_v12 h
        refine letJ_W (fun (x : Mm) => ∀ (H : Heap) (locs : List Loc) (ls : Array Slot), WO o (WA o) s s.heap H locs x → lv_has ls 3 [(0, .ref (o.2.1 17 0)), (2, .int v1)] → W p l e rm_X5_readsEntry s m args below meth c H locs 0 0 (MQ below (QZ o Q) args s 0 0 (WA o)) (F0 m 103 ls [])) h ?_ ?_
        · clear h hw hl; clear ls; intro x h H locs ls hw hl
          obtain ⟨M14, rfl⟩ : ∃ z, z = x := ⟨_, rfl⟩
          replace hl : lv_has ls 3 [(0, .ref (o.2.1 17 0)), (2, .int v1)] := hl
          refine lv_aload_n hx hb dX5_readsEntry_103 rfl (lv_at hl 0 rfl) ?_
          refine lv_iconst (v := 0) hx hb dX5_readsEntry_104 (by decide) ?_
          refine g_putf hx hb hts in_X5 tyX5 tyX5_ok nmX5 hown hw 17 0 (ci_17 (by decide)) (bi_17 (by decide) hn) rfl 8 (by decide) rfl rfl kX5_155 (by decide +kernel) (by decide +kernel) (by simp) h dX5_readsEntry_105 ?_
          clear h hw; intro M15 H locs hw h
          refine lv_aload_n hx hb dX5_readsEntry_108 rfl (lv_at hl 0 rfl) ?_
          refine lv_bipush (v := 33) hx hb dX5_readsEntry_109 (by decide) ?_
          refine g_cz hw (g_runV (As := [.int (33 : Int32)]) (rest := []) hx hb hml hown hts mX5_takes vX5_takes kX5_165 hw 17 0 (ci_17 (by decide)) (bi_17 (by decide) hn) rfl rfl (c_X5_takes hn h) rfl rfl ⟨Nat.le_of_ble_eq_true rfl, Nat.le_of_ble_eq_true rfl⟩ rfl hl.1 rfl (Nat.le_of_ble_eq_true rfl) dX5_readsEntry_111 ⟨Nat.zero_le _, Nat.zero_le _⟩) ?_
          clear h hw; intro v17 M16 H locs hw hz_v17 h
          refine letJ_W (fun (x : Mm) => ∀ (H : Heap) (locs : List Loc) (ls : Array Slot), WO o (WA o) s s.heap H locs x → lv_has ls 3 [(0, .ref (o.2.1 17 0)), (2, .int v1)] → W p l e rm_X5_readsEntry s m args below meth c H locs 0 0 (MQ below (QZ o Q) args s 0 0 (WA o)) (F0 m 130 ls [])) h ?_ ?_
          · clear h hw hl; clear ls; intro x h H locs ls hw hl
            obtain ⟨M19, rfl⟩ : ∃ z, z = x := ⟨_, rfl⟩
            replace hl : lv_has ls 3 [(0, .ref (o.2.1 17 0)), (2, .int v1)] := hl
            refine lv_aload_n hx hb dX5_readsEntry_130 rfl (lv_at hl 0 rfl) ?_
            refine g_getf hx hb hts in_X5 hown hw 17 0 (ci_17 (by decide)) (bi_17 (by decide) hn) rfl rfl 9 (by decide) kX5_25 rfl dX5_readsEntry_131 ?_
            refine lv_iload_n hx hb dX5_readsEntry_134 rfl (lv_at hl 1 rfl) ?_
            refine lv_iconst (v := 3) hx hb dX5_readsEntry_135 (by decide) ?_
            refine lv_iadd hx hb dX5_readsEntry_136 ?_
            refine lv_aload_n hx hb dX5_readsEntry_137 rfl (lv_at hl 0 rfl) ?_
            refine g_getf hx hb hts in_X5 hown hw 17 0 (ci_17 (by decide)) (bi_17 (by decide) hn) rfl rfl 8 (by decide) kX5_155 rfl dX5_readsEntry_138 ?_
            refine g_iast hx hb hw 23 0 (ci_23 (by decide)) (bi_23 (by decide) hn) (fun _ => rfl) h dX5_readsEntry_141 ?_
            clear h hw; intro M20 H locs hw h
            refine lv_aload_n hx hb dX5_readsEntry_142 rfl (lv_at hl 0 rfl) ?_
            refine lv_bipush (v := 59) hx hb dX5_readsEntry_143 (by decide) ?_
            refine g_cz hw (g_runV (As := [.int (59 : Int32)]) (rest := []) hx hb hml hown hts mX5_takes vX5_takes kX5_165 hw 17 0 (ci_17 (by decide)) (bi_17 (by decide) hn) rfl rfl (c_X5_takes hn h) rfl rfl ⟨Nat.le_of_ble_eq_true rfl, Nat.le_of_ble_eq_true rfl⟩ rfl hl.1 rfl (Nat.le_of_ble_eq_true rfl) dX5_readsEntry_145 ⟨Nat.zero_le _, Nat.zero_le _⟩) ?_
            clear h hw; intro v22 M21 H locs hw hz_v22 h
            exact g_zret hx hb hr hlocks hw hz_v22 h dX5_readsEntry_148
          clear h; intro J18 hJ18 h
          refine g_if_eq (tgt := 130) hx hb h dX5_readsEntry_114 (by decide) ?_ ?_
          · clear h; intro h
            exact hJ18 M16 h _ _ _ hw (lv_sub hl [0, 1] rfl)
          · clear h; intro h
            refine lv_aload_n hx hb dX5_readsEntry_117 rfl (lv_at hl 0 rfl) ?_
            refine lv_iconst (v := 1) hx hb dX5_readsEntry_118 (by decide) ?_
            refine lv_iconst (v := 0) hx hb dX5_readsEntry_119 (by decide) ?_
            refine lv_bipush (v := 9) hx hb dX5_readsEntry_120 (by decide) ?_
            refine g_cz hw (g_runV (As := [.int (1 : Int32), .int (0 : Int32), .int (9 : Int32)]) (rest := []) hx hb hml hown hts mX5_readsNumber vX5_readsNumber kX5_168 hw 17 0 (ci_17 (by decide)) (bi_17 (by decide) hn) rfl rfl (c_X5_readsNumber hn h) rfl rfl ⟨Nat.le_of_ble_eq_true rfl, Nat.le_of_ble_eq_true rfl⟩ rfl hl.1 rfl (Nat.le_of_ble_eq_true rfl) dX5_readsEntry_122 ⟨Nat.zero_le _, Nat.zero_le _⟩) ?_
            clear h hw; intro v24 M23 H locs hw hz_v24 h
            refine g_if_ne (tgt := 130) hx hb h dX5_readsEntry_125 (by decide) ?_ ?_
            · clear h; intro h
              exact hJ18 M23 h _ _ _ hw (lv_sub hl [0, 1] rfl)
            · clear h; intro h
              refine lv_iconst (v := 0) hx hb dX5_readsEntry_128 (by decide) ?_
              exact g_zret hx hb hr hlocks hw (Or.inl rfl) h dX5_readsEntry_129
        clear h; intro J13 hJ13 h
        refine g_if_eq (tgt := 103) hx hb h dX5_readsEntry_90 (by decide) ?_ ?_
        · clear h; intro h
          exact hJ13 M11 h _ _ _ hw (lv_sub hl [0, 1] rfl)
        · clear h; intro h
          refine lv_aload_n hx hb dX5_readsEntry_93 rfl (lv_at hl 0 rfl) ?_
          refine lv_iload_n hx hb dX5_readsEntry_94 rfl (lv_at hl 1 rfl) ?_
          refine g_cz hw (g_runV (As := [.int v1]) (rest := []) hx hb hml hown hts mX5_readsTime vX5_readsTime kX5_171 hw 17 0 (ci_17 (by decide)) (bi_17 (by decide) hn) rfl rfl (c_X5_readsTime hn h) rfl rfl ⟨Nat.le_of_ble_eq_true rfl, Nat.le_of_ble_eq_true rfl⟩ rfl hl.1 rfl (Nat.le_of_ble_eq_true rfl) dX5_readsEntry_95 ⟨Nat.zero_le _, Nat.zero_le _⟩) ?_
          clear h hw; intro v26 M25 H locs hw hz_v26 h
          refine g_if_ne (tgt := 103) hx hb h dX5_readsEntry_98 (by decide) ?_ ?_
          · clear h; intro h
            exact hJ13 M25 h _ _ _ hw (lv_sub hl [0, 1] rfl)
          · clear h; intro h
            refine lv_iconst (v := 0) hx hb dX5_readsEntry_101 (by decide) ?_
            exact g_zret hx hb hr hlocks hw (Or.inl rfl) h dX5_readsEntry_102
      clear h; intro J7 hJ7 h
      refine g_if_eq (tgt := 62) hx hb h dX5_readsEntry_40 (by decide) ?_ ?_
      · clear h; intro h
        exact hJ7 M5 h _ _ _ hw (lv_sub hl [1, 0] rfl)
      · clear h; intro h
        refine lv_aload_n hx hb dX5_readsEntry_43 rfl (lv_at hl 1 rfl) ?_
        refine lv_iconst (v := 3) hx hb dX5_readsEntry_44 (by decide) ?_
        refine lv_aload_n hx hb dX5_readsEntry_45 rfl (lv_at hl 1 rfl) ?_
        refine g_getf hx hb hts in_X5 hown hw 17 0 (ci_17 (by decide)) (bi_17 (by decide) hn) rfl rfl 9 (by decide) kX5_25 rfl dX5_readsEntry_46 ?_
        refine lv_iload_n hx hb dX5_readsEntry_49 rfl (lv_at hl 0 rfl) ?_
        refine g_iald hx hb hw 23 0 (ci_23 (by decide)) (bi_23 (by decide) hn) rfl h dX5_readsEntry_50 ?_
        clear h; intro v27 h
        refine lv_sipush (v := 999) hx hb dX5_readsEntry_51 (by decide) ?_
        refine g_cz hw (g_runV (As := [.int (3 : Int32), .int v27, .int (999 : Int32)]) (rest := []) hx hb hml hown hts mX5_readsNumber vX5_readsNumber kX5_168 hw 17 0 (ci_17 (by decide)) (bi_17 (by decide) hn) rfl rfl (c_X5_readsNumber hn h) rfl rfl ⟨Nat.le_of_ble_eq_true rfl, Nat.le_of_ble_eq_true rfl⟩ rfl hl.1 rfl (Nat.le_of_ble_eq_true rfl) dX5_readsEntry_54 ⟨Nat.zero_le _, Nat.zero_le _⟩) ?_
        clear h hw; intro v29 M28 H locs hw hz_v29 h
        refine g_if_ne (tgt := 62) hx hb h dX5_readsEntry_57 (by decide) ?_ ?_
        · clear h; intro h
          exact hJ7 M28 h _ _ _ hw (lv_sub hl [1, 0] rfl)
        · clear h; intro h
          refine lv_iconst (v := 0) hx hb dX5_readsEntry_60 (by decide) ?_
          exact g_zret hx hb hr hlocks hw (Or.inl rfl) h dX5_readsEntry_61
    · clear h; intro h
      refine lv_iconst (v := 0) hx hb dX5_readsEntry_22 (by decide) ?_
      exact g_zret hx hb hr hlocks hw (Or.inl rfl) h dX5_readsEntry_23
abbrev rm_X5_load : Room := { frames := 5, cells := 0, slots := 0, locals := 108 }
set_option maxHeartbeats 4000000 in
set_option maxRecDepth 100000 in
theorem c_X5_load {o : Om} {l : Launch} (hn : 122 ≤ o.2.2.2) {M : Mm} {Q : Int32 → Mm → Prop} (h : w_X5_load M Q) : CI o l yX5_load cX5_load 3 rm_X5_load [.ref (o.2.1 17 0)] M Q := by
  refine g_start (by decide +kernel) (Nat.le_of_ble_eq_true rfl) ?_
  intro p e s m args below meth c hx hb hr hlocks hml hown hts hw ls hl
  replace hl : lv_has ls 3 [(0, .ref (o.2.1 17 0))] := hl
  unfold w_X5_load at h
  refine lv_aload_n hx hb dX5_load_0 rfl (lv_at hl 0 rfl) ?_
  refine lv_iconst (v := 0) hx hb dX5_load_1 (by decide) ?_
  refine g_putf hx hb hts in_X5 tyX5 tyX5_ok nmX5 hown hw 17 0 (ci_17 (by decide)) (bi_17 (by decide) hn) rfl 7 (by decide) rfl rfl kX5_149 (by decide +kernel) (by decide +kernel) (by simp) h dX5_load_2 ?_
  clear h hw; intro M1 H locs hw h
  refine lv_iconst (v := 0) hx hb dX5_load_5 (by decide) ?_
  refine lv_istore_n (lv' := [(1, .int (0 : Int32)), (0, .ref (o.2.1 17 0))]) hx hb dX5_load_6 rfl hl (by decide) rfl ?_
  clear hl; clear ls; intro ls hl
  obtain ⟨n, h⟩ := h
  refine letK_W (body := fun K => w_X5_load_L7 Q K) (fun (x : Int32 × Mm) => ∀ (H : Heap) (locs : List Loc) (ls : Array Slot), WO o (WA o) s s.heap H locs x.2 → lv_has ls 3 [(0, .ref (o.2.1 17 0)), (1, .int x.1)] → W p l e rm_X5_load s m args below meth c H locs 0 0 (MQ below (QI o Q) args s 0 0 (WA o)) (F0 m 40 ls [])) h ?_ ?_
  · clear h hw hl; clear ls; intro x h H locs ls hw hl
    obtain ⟨v9, M10⟩ := x
    replace hl : lv_has ls 3 [(0, .ref (o.2.1 17 0)), (1, .int v9)] := hl
    dsimp only at h hw
    refine lv_aload_n hx hb dX5_load_40 rfl (lv_at hl 0 rfl) ?_
    refine g_cv hw (g_runV (As := []) (rest := []) hx hb hml hown hts mX5_records vX5_records kX5_53 hw 17 0 (ci_17 (by decide)) (bi_17 (by decide) hn) rfl rfl (c_X5_records hn h) rfl rfl ⟨Nat.le_of_ble_eq_true rfl, Nat.le_of_ble_eq_true rfl⟩ rfl hl.1 rfl (Nat.le_of_ble_eq_true rfl) dX5_load_41 ⟨Nat.zero_le _, Nat.zero_le _⟩) ?_
    clear h hw; intro M11 H locs hw h
    refine lv_aload_n hx hb dX5_load_44 rfl (lv_at hl 0 rfl) ?_
    refine g_getf hx hb hts in_X5 hown hw 17 0 (ci_17 (by decide)) (bi_17 (by decide) hn) rfl rfl 0 (by decide) kX5_7 rfl dX5_load_45 ?_
    refine lv_iconst (v := 4) hx hb dX5_load_48 (by decide) ?_
    refine lv_iload_n hx hb dX5_load_49 rfl (lv_at hl 1 rfl) ?_
    refine g_iast hx hb hw 18 0 (ci_18 (by decide)) (bi_18 (by decide) hn) (fun _ => rfl) h dX5_load_50 ?_
    clear h hw; intro M12 H locs hw h
    refine lv_iconst (v := 0) hx hb dX5_load_51 (by decide) ?_
    refine lv_istore_n (lv' := [(2, .int (0 : Int32)), (0, .ref (o.2.1 17 0)), (1, .int v9)]) hx hb dX5_load_52 rfl hl (by decide) rfl ?_
    clear hl; clear ls; intro ls hl
    obtain ⟨n, h⟩ := h
    refine letK_W (body := fun K => w_X5_load_L53 v9 K) (fun (x : Int32 × Mm) => ∀ (H : Heap) (locs : List Loc) (ls : Array Slot), WO o (WA o) s s.heap H locs x.2 → lv_has ls 3 [(1, .int v9)] → W p l e rm_X5_load s m args below meth c H locs 0 0 (MQ below (QI o Q) args s 0 0 (WA o)) (F0 m 80 ls [])) h ?_ ?_
    · clear h hw hl; clear ls; intro x h H locs ls hw hl
      obtain ⟨v20, M21⟩ := x
      replace hl : lv_has ls 3 [(1, .int v9)] := hl
      dsimp only at h hw
      refine lv_iload_n hx hb dX5_load_80 rfl (lv_at hl 0 rfl) ?_
      exact g_iret hx hb hr hlocks hw h dX5_load_81
    clear h; intro K15 hK15 h
    refine loop_W (body := w_X5_load_L53 v9 K15) (fun (x : Int32 × Mm) => ∀ (H : Heap) (locs : List Loc) (ls : Array Slot), WO o (WA o) s s.heap H locs x.2 → lv_has ls 3 [(0, .ref (o.2.1 17 0)), (1, .int v9), (2, .int x.1)] → W p l e rm_X5_load s m args below meth c H locs 0 0 (MQ below (QI o Q) args s 0 0 (WA o)) (F0 m 53 ls [])) ?_ n _ h _ _ _ hw (lv_sub hl [1, 2, 0] rfl)
    clear h hw hl; clear ls; intro R16 x hR16 h H locs ls hw hl
    obtain ⟨v13, M14⟩ := x
    replace hl : lv_has ls 3 [(0, .ref (o.2.1 17 0)), (1, .int v9), (2, .int v13)] := hl
    dsimp only at hw
    unfold w_X5_load_L53 at h
    dsimp only at h
    refine lv_iload_n hx hb dX5_load_53 rfl (lv_at hl 2 rfl) ?_
    refine lv_iconst (v := 4) hx hb dX5_load_54 (by decide) ?_
    refine lv_iload_n hx hb dX5_load_55 rfl (lv_at hl 1 rfl) ?_
    refine lv_imul hx hb dX5_load_56 ?_
    refine g_icmp_ge (tgt := 80) hx hb h dX5_load_57 (by decide) ?_ ?_
    · clear h; intro h
      exact hK15 (v13, M14) h _ _ _ hw (lv_sub hl [1] rfl)
    · clear h; intro h
      refine lv_aload_n hx hb dX5_load_60 rfl (lv_at hl 0 rfl) ?_
      refine g_getf hx hb hts in_X5 hown hw 17 0 (ci_17 (by decide)) (bi_17 (by decide) hn) rfl rfl 0 (by decide) kX5_7 rfl dX5_load_61 ?_
      refine lv_iconst (v := 5) hx hb dX5_load_64 (by decide) ?_
      refine lv_iload_n hx hb dX5_load_65 rfl (lv_at hl 2 rfl) ?_
      refine lv_iadd hx hb dX5_load_66 ?_
      refine lv_aload_n hx hb dX5_load_67 rfl (lv_at hl 0 rfl) ?_
      refine g_getf hx hb hts in_X5 hown hw 17 0 (ci_17 (by decide)) (bi_17 (by decide) hn) rfl rfl 9 (by decide) kX5_25 rfl dX5_load_68 ?_
      refine lv_iload_n hx hb dX5_load_71 rfl (lv_at hl 2 rfl) ?_
      refine g_iald hx hb hw 23 0 (ci_23 (by decide)) (bi_23 (by decide) hn) rfl h dX5_load_72 ?_
      clear h; intro v17 h
      refine g_iast hx hb hw 18 0 (ci_18 (by decide)) (bi_18 (by decide) hn) (fun _ => rfl) h dX5_load_73 ?_
      clear h hw; intro M18 H locs hw h
      refine g_iinc (k := 2) (v := (v13 + (1 : Int32))) (lv' := fun v19 => [(2, .int v19), (0, .ref (o.2.1 17 0)), (1, .int v9)]) hx hb dX5_load_74 hl rfl rfl (by decide) (fun _ => rfl) h ?_
      clear h hl; clear ls; intro v19 ls h hl
      refine lv_goto (tgt := 53) hx hb dX5_load_77 (by decide) ?_
      exact hR16 (v19, M18) h _ _ _ hw (lv_sub hl [1, 2, 0] rfl)
  clear h; intro K4 hK4 h
  refine loop_W (body := w_X5_load_L7 Q K4) (fun (x : Int32 × Mm) => ∀ (H : Heap) (locs : List Loc) (ls : Array Slot), WO o (WA o) s s.heap H locs x.2 → lv_has ls 3 [(0, .ref (o.2.1 17 0)), (1, .int x.1)] → W p l e rm_X5_load s m args below meth c H locs 0 0 (MQ below (QI o Q) args s 0 0 (WA o)) (F0 m 7 ls [])) ?_ n _ h _ _ _ hw (lv_sub hl [1, 0] rfl)
  clear h hw hl; clear ls; intro R5 x hR5 h H locs ls hw hl
  obtain ⟨v2, M3⟩ := x
  replace hl : lv_has ls 3 [(0, .ref (o.2.1 17 0)), (1, .int v2)] := hl
  dsimp only at hw
  unfold w_X5_load_L7 at h
  dsimp only at h
  refine lv_aload_n hx hb dX5_load_7 rfl (lv_at hl 0 rfl) ?_
  refine g_getf hx hb hts in_X5 hown hw 17 0 (ci_17 (by decide)) (bi_17 (by decide) hn) rfl rfl 7 (by decide) kX5_149 rfl dX5_load_8 ?_
  refine lv_aload_n hx hb dX5_load_11 rfl (lv_at hl 0 rfl) ?_
  refine g_getf hx hb hts in_X5 hown hw 17 0 (ci_17 (by decide)) (bi_17 (by decide) hn) rfl rfl 3 (by decide) kX5_146 rfl dX5_load_12 ?_
  refine g_icmp_ge (tgt := 40) hx hb h dX5_load_15 (by decide) ?_ ?_
  · clear h; intro h
    exact hK4 (v2, M3) h _ _ _ hw (lv_sub hl [0, 1] rfl)
  · clear h; intro h
    refine lv_aload_n hx hb dX5_load_18 rfl (lv_at hl 0 rfl) ?_
    refine lv_iload_n hx hb dX5_load_19 rfl (lv_at hl 1 rfl) ?_
    refine g_cz hw (g_runV (As := [.int v2]) (rest := []) hx hb hml hown hts mX5_readsEntry vX5_readsEntry kX5_174 hw 17 0 (ci_17 (by decide)) (bi_17 (by decide) hn) rfl rfl (c_X5_readsEntry hn h) rfl rfl ⟨Nat.le_of_ble_eq_true rfl, Nat.le_of_ble_eq_true rfl⟩ rfl hl.1 rfl (Nat.le_of_ble_eq_true rfl) dX5_load_20 ⟨Nat.zero_le _, Nat.zero_le _⟩) ?_
    clear h hw; intro v7 M6 H locs hw hz_v7 h
    refine g_if_ne (tgt := 34) hx hb h dX5_load_23 (by decide) ?_ ?_
    · clear h; intro h
      refine g_iinc (k := 1) (v := (v2 + (1 : Int32))) (lv' := fun v8 => [(1, .int v8), (0, .ref (o.2.1 17 0))]) hx hb dX5_load_34 hl rfl rfl (by decide) (fun _ => rfl) h ?_
      clear h hl; clear ls; intro v8 ls h hl
      refine lv_goto (tgt := 7) hx hb dX5_load_37 (by decide) ?_
      exact hR5 (v8, M6) h _ _ _ hw (lv_sub hl [1, 0] rfl)
    · clear h; intro h
      refine lv_bipush (v := (-10)) hx hb dX5_load_26 (by decide) ?_
      refine lv_aload_n hx hb dX5_load_28 rfl (lv_at hl 0 rfl) ?_
      refine g_getf hx hb hts in_X5 hown hw 17 0 (ci_17 (by decide)) (bi_17 (by decide) hn) rfl rfl 7 (by decide) kX5_149 rfl dX5_load_29 ?_
      refine lv_isub hx hb dX5_load_32 ?_
      exact g_iret hx hb hr hlocks hw h dX5_load_33
abbrev rm_X5_isTime : Room := { frames := 1, cells := 0, slots := 0, locals := 22 }
set_option maxHeartbeats 4000000 in
set_option maxRecDepth 100000 in
theorem c_X5_isTime {o : Om} {l : Launch} (hn : 122 ≤ o.2.2.2) {M : Mm} {x0 : Int32} {Q : Int32 → Mm → Prop} (h : w_X5_isTime M x0 Q) : CZ o l yX5_isTime cX5_isTime 1 rm_X5_isTime [.int x0] M Q := by
  refine g_start (by decide +kernel) (Nat.le_of_ble_eq_true rfl) ?_
  intro p e s m args below meth c hx hb hr hlocks hml hown hts hw ls hl
  replace hl : lv_has ls 1 [(0, .int x0)] := hl
  unfold w_X5_isTime at h
  refine lv_iload_n hx hb dX5_isTime_0 rfl (lv_at hl 0 rfl) ?_
  refine lv_bipush (v := (-9)) hx hb dX5_isTime_1 (by decide) ?_
  refine g_icmp_eq (tgt := 17) hx hb h dX5_isTime_3 (by decide) ?_ ?_
  · clear h; intro h
    refine lv_iconst (v := 1) hx hb dX5_isTime_17 (by decide) ?_
    refine lv_goto (tgt := 22) hx hb dX5_isTime_18 (by decide) ?_
    exact g_zret hx hb hr hlocks hw (Or.inr rfl) h dX5_isTime_22
  · clear h; intro h
    refine lv_iload_n hx hb dX5_isTime_6 rfl (lv_at hl 0 rfl) ?_
    refine lv_iconst (v := 0) hx hb dX5_isTime_7 (by decide) ?_
    refine lv_sipush (v := 1439) hx hb dX5_isTime_8 (by decide) ?_
    refine g_cz hw (g_runS (As := [.int x0, .int (0 : Int32), .int (1439 : Int32)]) (rest := []) hx hb hml hown hts mX5_in sX5_in kX5_32 hw (c_X5_in hn h) rfl rfl ⟨Nat.le_of_ble_eq_true rfl, Nat.le_of_ble_eq_true rfl⟩ rfl hl.1 rfl (Nat.le_of_ble_eq_true rfl) dX5_isTime_11 ⟨Nat.zero_le _, Nat.zero_le _⟩) ?_
    clear h hw; intro v2 M1 H locs hw hz_v2 h
    refine g_if_eq (tgt := 21) hx hb h dX5_isTime_14 (by decide) ?_ ?_
    · clear h; intro h
      refine lv_iconst (v := 0) hx hb dX5_isTime_21 (by decide) ?_
      exact g_zret hx hb hr hlocks hw (Or.inl rfl) h dX5_isTime_22
    · clear h; intro h
      refine lv_iconst (v := 1) hx hb dX5_isTime_17 (by decide) ?_
      refine lv_goto (tgt := 22) hx hb dX5_isTime_18 (by decide) ?_
      exact g_zret hx hb hr hlocks hw (Or.inr rfl) h dX5_isTime_22
abbrev rm_X5_add : Room := { frames := 2, cells := 0, slots := 0, locals := 42 }
set_option maxHeartbeats 4000000 in
set_option maxRecDepth 100000 in
theorem c_X5_add {o : Om} {l : Launch} (hn : 122 ≤ o.2.2.2) {M : Mm} {x1 : Int32} {x2 : Int32} {x3 : Int32} {x4 : Int32} {Q : Int32 → Mm → Prop} (h : w_X5_add M x1 x2 x3 x4 Q) : CI o l yX5_add cX5_add 6 rm_X5_add [.ref (o.2.1 17 0), .int x1, .int x2, .int x3, .int x4] M Q := by
  refine g_start (by decide +kernel) (Nat.le_of_ble_eq_true rfl) ?_
  intro p e s m args below meth c hx hb hr hlocks hml hown hts hw ls hl
  replace hl : lv_has ls 6 [(0, .ref (o.2.1 17 0)), (1, .int x1), (2, .int x2), (3, .int x3), (4, .int x4)] := hl
  unfold w_X5_add at h
  refine lv_iload_n hx hb dX5_add_0 rfl (lv_at hl 1 rfl) ?_
  refine g_cz hw (g_runS (As := [.int x1]) (rest := []) hx hb hml hown hts mX5_isDay sX5_isDay kX5_49 hw (c_X5_isDay hn h) rfl rfl ⟨Nat.le_of_ble_eq_true rfl, Nat.le_of_ble_eq_true rfl⟩ rfl hl.1 rfl (Nat.le_of_ble_eq_true rfl) dX5_add_1 ⟨Nat.zero_le _, Nat.zero_le _⟩) ?_
  clear h hw; intro v2 M1 H locs hw hz_v2 h
  refine g_if_eq (tgt := 36) hx hb h dX5_add_4 (by decide) ?_ ?_
  · clear h; intro h
    refine lv_iconst (v := (-1)) hx hb dX5_add_36 (by decide) ?_
    exact g_iret hx hb hr hlocks hw h dX5_add_37
  · clear h; intro h
    refine lv_iload_n hx hb dX5_add_7 rfl (lv_at hl 2 rfl) ?_
    refine lv_iload_n hx hb dX5_add_8 rfl (lv_at hl 1 rfl) ?_
    refine lv_sipush (v := 999) hx hb dX5_add_9 (by decide) ?_
    refine g_cz hw (g_runS (As := [.int x2, .int x1, .int (999 : Int32)]) (rest := []) hx hb hml hown hts mX5_in sX5_in kX5_32 hw (c_X5_in hn h) rfl rfl ⟨Nat.le_of_ble_eq_true rfl, Nat.le_of_ble_eq_true rfl⟩ rfl hl.1 rfl (Nat.le_of_ble_eq_true rfl) dX5_add_12 ⟨Nat.zero_le _, Nat.zero_le _⟩) ?_
    clear h hw; intro v4 M3 H locs hw hz_v4 h
    refine g_if_eq (tgt := 36) hx hb h dX5_add_15 (by decide) ?_ ?_
    · clear h; intro h
      refine lv_iconst (v := (-1)) hx hb dX5_add_36 (by decide) ?_
      exact g_iret hx hb hr hlocks hw h dX5_add_37
    · clear h; intro h
      refine lv_iload_n hx hb dX5_add_18 rfl (lv_at hl 3 rfl) ?_
      refine g_cz hw (g_runS (As := [.int x3]) (rest := []) hx hb hml hown hts mX5_isTime sX5_isTime kX5_177 hw (c_X5_isTime hn h) rfl rfl ⟨Nat.le_of_ble_eq_true rfl, Nat.le_of_ble_eq_true rfl⟩ rfl hl.1 rfl (Nat.le_of_ble_eq_true rfl) dX5_add_19 ⟨Nat.zero_le _, Nat.zero_le _⟩) ?_
      clear h hw; intro v6 M5 H locs hw hz_v6 h
      refine g_if_eq (tgt := 36) hx hb h dX5_add_22 (by decide) ?_ ?_
      · clear h; intro h
        refine lv_iconst (v := (-1)) hx hb dX5_add_36 (by decide) ?_
        exact g_iret hx hb hr hlocks hw h dX5_add_37
      · clear h; intro h
        refine lv_iload hx hb dX5_add_25 (lv_at hl 4 rfl) ?_
        refine lv_iconst (v := 0) hx hb dX5_add_27 (by decide) ?_
        refine lv_bipush (v := 9) hx hb dX5_add_28 (by decide) ?_
        refine g_cz hw (g_runS (As := [.int x4, .int (0 : Int32), .int (9 : Int32)]) (rest := []) hx hb hml hown hts mX5_in sX5_in kX5_32 hw (c_X5_in hn h) rfl rfl ⟨Nat.le_of_ble_eq_true rfl, Nat.le_of_ble_eq_true rfl⟩ rfl hl.1 rfl (Nat.le_of_ble_eq_true rfl) dX5_add_30 ⟨Nat.zero_le _, Nat.zero_le _⟩) ?_
        clear h hw; intro v8 M7 H locs hw hz_v8 h
        refine g_if_ne (tgt := 38) hx hb h dX5_add_33 (by decide) ?_ ?_
        · clear h; intro h
          refine lv_aload_n hx hb dX5_add_38 rfl (lv_at hl 0 rfl) ?_
          refine g_getf hx hb hts in_X5 hown hw 17 0 (ci_17 (by decide)) (bi_17 (by decide) hn) rfl rfl 0 (by decide) kX5_7 rfl dX5_add_39 ?_
          refine lv_iconst (v := 4) hx hb dX5_add_42 (by decide) ?_
          refine g_iald hx hb hw 18 0 (ci_18 (by decide)) (bi_18 (by decide) hn) rfl h dX5_add_43 ?_
          clear h; intro v9 h
          refine lv_bipush (v := 24) hx hb dX5_add_44 (by decide) ?_
          refine g_icmp_ne (tgt := 52) hx hb h dX5_add_46 (by decide) ?_ ?_
          · clear h; intro h
            refine lv_aload_n hx hb dX5_add_52 rfl (lv_at hl 0 rfl) ?_
            refine g_cv hw (g_runV (As := []) (rest := []) hx hb hml hown hts mX5_records vX5_records kX5_53 hw 17 0 (ci_17 (by decide)) (bi_17 (by decide) hn) rfl rfl (c_X5_records hn h) rfl rfl ⟨Nat.le_of_ble_eq_true rfl, Nat.le_of_ble_eq_true rfl⟩ rfl hl.1 rfl (Nat.le_of_ble_eq_true rfl) dX5_add_53 ⟨Nat.zero_le _, Nat.zero_le _⟩) ?_
            clear h hw; intro M10 H locs hw h
            refine lv_aload_n hx hb dX5_add_56 rfl (lv_at hl 0 rfl) ?_
            refine g_getf hx hb hts in_X5 hown hw 17 0 (ci_17 (by decide)) (bi_17 (by decide) hn) rfl rfl 0 (by decide) kX5_7 rfl dX5_add_57 ?_
            refine lv_iconst (v := 4) hx hb dX5_add_60 (by decide) ?_
            refine g_iald hx hb hw 18 0 (ci_18 (by decide)) (bi_18 (by decide) hn) rfl h dX5_add_61 ?_
            clear h; intro v11 h
            refine lv_istore (lv' := [(5, .int v11), (0, .ref (o.2.1 17 0)), (1, .int x1), (2, .int x2), (3, .int x3), (4, .int x4)]) hx hb dX5_add_62 hl (by decide) rfl ?_
            clear hl; clear ls; intro ls hl
            refine lv_aload_n hx hb dX5_add_64 rfl (lv_at hl 1 rfl) ?_
            refine g_getf hx hb hts in_X5 hown hw 17 0 (ci_17 (by decide)) (bi_17 (by decide) hn) rfl rfl 0 (by decide) kX5_7 rfl dX5_add_65 ?_
            refine lv_iconst (v := 5) hx hb dX5_add_68 (by decide) ?_
            refine lv_iconst (v := 4) hx hb dX5_add_69 (by decide) ?_
            refine lv_iload hx hb dX5_add_70 (lv_at hl 0 rfl) ?_
            refine lv_imul hx hb dX5_add_72 ?_
            refine lv_iadd hx hb dX5_add_73 ?_
            refine lv_iload_n hx hb dX5_add_74 rfl (lv_at hl 2 rfl) ?_
            refine g_iast hx hb hw 18 0 (ci_18 (by decide)) (bi_18 (by decide) hn) (fun _ => rfl) h dX5_add_75 ?_
            clear h hw; intro M12 H locs hw h
            refine lv_aload_n hx hb dX5_add_76 rfl (lv_at hl 1 rfl) ?_
            refine g_getf hx hb hts in_X5 hown hw 17 0 (ci_17 (by decide)) (bi_17 (by decide) hn) rfl rfl 0 (by decide) kX5_7 rfl dX5_add_77 ?_
            refine lv_iconst (v := 5) hx hb dX5_add_80 (by decide) ?_
            refine lv_iconst (v := 4) hx hb dX5_add_81 (by decide) ?_
            refine lv_iload hx hb dX5_add_82 (lv_at hl 0 rfl) ?_
            refine lv_imul hx hb dX5_add_84 ?_
            refine lv_iadd hx hb dX5_add_85 ?_
            refine lv_iconst (v := 1) hx hb dX5_add_86 (by decide) ?_
            refine lv_iadd hx hb dX5_add_87 ?_
            refine lv_iload_n hx hb dX5_add_88 rfl (lv_at hl 3 rfl) ?_
            refine g_iast hx hb hw 18 0 (ci_18 (by decide)) (bi_18 (by decide) hn) (fun _ => rfl) h dX5_add_89 ?_
            clear h hw; intro M13 H locs hw h
            refine lv_aload_n hx hb dX5_add_90 rfl (lv_at hl 1 rfl) ?_
            refine g_getf hx hb hts in_X5 hown hw 17 0 (ci_17 (by decide)) (bi_17 (by decide) hn) rfl rfl 0 (by decide) kX5_7 rfl dX5_add_91 ?_
            refine lv_iconst (v := 5) hx hb dX5_add_94 (by decide) ?_
            refine lv_iconst (v := 4) hx hb dX5_add_95 (by decide) ?_
            refine lv_iload hx hb dX5_add_96 (lv_at hl 0 rfl) ?_
            refine lv_imul hx hb dX5_add_98 ?_
            refine lv_iadd hx hb dX5_add_99 ?_
            refine lv_iconst (v := 2) hx hb dX5_add_100 (by decide) ?_
            refine lv_iadd hx hb dX5_add_101 ?_
            refine lv_iload_n hx hb dX5_add_102 rfl (lv_at hl 4 rfl) ?_
            refine g_iast hx hb hw 18 0 (ci_18 (by decide)) (bi_18 (by decide) hn) (fun _ => rfl) h dX5_add_103 ?_
            clear h hw; intro M14 H locs hw h
            refine lv_aload_n hx hb dX5_add_104 rfl (lv_at hl 1 rfl) ?_
            refine g_getf hx hb hts in_X5 hown hw 17 0 (ci_17 (by decide)) (bi_17 (by decide) hn) rfl rfl 0 (by decide) kX5_7 rfl dX5_add_105 ?_
            refine lv_iconst (v := 5) hx hb dX5_add_108 (by decide) ?_
            refine lv_iconst (v := 4) hx hb dX5_add_109 (by decide) ?_
            refine lv_iload hx hb dX5_add_110 (lv_at hl 0 rfl) ?_
            refine lv_imul hx hb dX5_add_112 ?_
            refine lv_iadd hx hb dX5_add_113 ?_
            refine lv_iconst (v := 3) hx hb dX5_add_114 (by decide) ?_
            refine lv_iadd hx hb dX5_add_115 ?_
            refine lv_iload hx hb dX5_add_116 (lv_at hl 5 rfl) ?_
            refine g_iast hx hb hw 18 0 (ci_18 (by decide)) (bi_18 (by decide) hn) (fun _ => rfl) h dX5_add_118 ?_
            clear h hw; intro M15 H locs hw h
            refine lv_aload_n hx hb dX5_add_119 rfl (lv_at hl 1 rfl) ?_
            refine g_getf hx hb hts in_X5 hown hw 17 0 (ci_17 (by decide)) (bi_17 (by decide) hn) rfl rfl 0 (by decide) kX5_7 rfl dX5_add_120 ?_
            refine lv_iconst (v := 4) hx hb dX5_add_123 (by decide) ?_
            refine lv_dup2_11 hx hb dX5_add_124 rfl rfl ?_
            refine g_iald hx hb hw 18 0 (ci_18 (by decide)) (bi_18 (by decide) hn) rfl h dX5_add_125 ?_
            clear h; intro v16 h
            refine lv_iconst (v := 1) hx hb dX5_add_126 (by decide) ?_
            refine lv_iadd hx hb dX5_add_127 ?_
            refine g_iast hx hb hw 18 0 (ci_18 (by decide)) (bi_18 (by decide) hn) (fun _ => rfl) h dX5_add_128 ?_
            clear h hw; intro M17 H locs hw h
            refine lv_iload hx hb dX5_add_129 (lv_at hl 0 rfl) ?_
            exact g_iret hx hb hr hlocks hw h dX5_add_131
          · clear h; intro h
            refine lv_bipush (v := (-3)) hx hb dX5_add_49 (by decide) ?_
            exact g_iret hx hb hr hlocks hw h dX5_add_51
        · clear h; intro h
          refine lv_iconst (v := (-1)) hx hb dX5_add_36 (by decide) ?_
          exact g_iret hx hb hr hlocks hw h dX5_add_37
abbrev rm_X5_drop : Room := { frames := 2, cells := 0, slots := 0, locals := 43 }
set_option maxHeartbeats 4000000 in
set_option maxRecDepth 100000 in
theorem c_X5_drop {o : Om} {l : Launch} (hn : 122 ≤ o.2.2.2) {M : Mm} {x1 : Int32} {Q : Int32 → Mm → Prop} (h : w_X5_drop M x1 Q) : CI o l yX5_drop cX5_drop 3 rm_X5_drop [.ref (o.2.1 17 0), .int x1] M Q := by
  refine g_start (by decide +kernel) (Nat.le_of_ble_eq_true rfl) ?_
  intro p e s m args below meth c hx hb hr hlocks hml hown hts hw ls hl
  replace hl : lv_has ls 3 [(0, .ref (o.2.1 17 0)), (1, .int x1)] := hl
  unfold w_X5_drop at h
  refine lv_aload_n hx hb dX5_drop_0 rfl (lv_at hl 0 rfl) ?_
  refine lv_iload_n hx hb dX5_drop_1 rfl (lv_at hl 1 rfl) ?_
  refine g_cz hw (g_runV (As := [.int x1]) (rest := []) hx hb hml hown hts mX5_isEntry vX5_isEntry kX5_180 hw 17 0 (ci_17 (by decide)) (bi_17 (by decide) hn) rfl rfl (c_X5_isEntry hn h) rfl rfl ⟨Nat.le_of_ble_eq_true rfl, Nat.le_of_ble_eq_true rfl⟩ rfl hl.1 rfl (Nat.le_of_ble_eq_true rfl) dX5_drop_2 ⟨Nat.zero_le _, Nat.zero_le _⟩) ?_
  clear h hw; intro v2 M1 H locs hw hz_v2 h
  refine g_if_ne (tgt := 10) hx hb h dX5_drop_5 (by decide) ?_ ?_
  · clear h; intro h
    refine lv_aload_n hx hb dX5_drop_10 rfl (lv_at hl 0 rfl) ?_
    refine g_cv hw (g_runV (As := []) (rest := []) hx hb hml hown hts mX5_records vX5_records kX5_53 hw 17 0 (ci_17 (by decide)) (bi_17 (by decide) hn) rfl rfl (c_X5_records hn h) rfl rfl ⟨Nat.le_of_ble_eq_true rfl, Nat.le_of_ble_eq_true rfl⟩ rfl hl.1 rfl (Nat.le_of_ble_eq_true rfl) dX5_drop_11 ⟨Nat.zero_le _, Nat.zero_le _⟩) ?_
    clear h hw; intro M3 H locs hw h
    refine lv_aload_n hx hb dX5_drop_14 rfl (lv_at hl 0 rfl) ?_
    refine g_getf hx hb hts in_X5 hown hw 17 0 (ci_17 (by decide)) (bi_17 (by decide) hn) rfl rfl 0 (by decide) kX5_7 rfl dX5_drop_15 ?_
    refine lv_iconst (v := 4) hx hb dX5_drop_18 (by decide) ?_
    refine lv_dup2_11 hx hb dX5_drop_19 rfl rfl ?_
    refine g_iald hx hb hw 18 0 (ci_18 (by decide)) (bi_18 (by decide) hn) rfl h dX5_drop_20 ?_
    clear h; intro v4 h
    refine lv_iconst (v := 1) hx hb dX5_drop_21 (by decide) ?_
    refine lv_isub hx hb dX5_drop_22 ?_
    refine g_iast hx hb hw 18 0 (ci_18 (by decide)) (bi_18 (by decide) hn) (fun _ => rfl) h dX5_drop_23 ?_
    clear h hw; intro M5 H locs hw h
    refine lv_iconst (v := 5) hx hb dX5_drop_24 (by decide) ?_
    refine lv_iconst (v := 4) hx hb dX5_drop_25 (by decide) ?_
    refine lv_iload_n hx hb dX5_drop_26 rfl (lv_at hl 1 rfl) ?_
    refine lv_imul hx hb dX5_drop_27 ?_
    refine lv_iadd hx hb dX5_drop_28 ?_
    refine g_topi h ?_
    clear h; intro v6 h
    refine lv_istore_n (lv' := [(2, .int v6), (0, .ref (o.2.1 17 0)), (1, .int x1)]) hx hb dX5_drop_29 rfl hl (by decide) rfl ?_
    clear hl; clear ls; intro ls hl
    obtain ⟨n, h⟩ := h
    refine letK_W (body := fun K => w_X5_drop_L30 K) (fun (x : Int32 × Mm) => ∀ (H : Heap) (locs : List Loc) (ls : Array Slot), WO o (WA o) s s.heap H locs x.2 → lv_has ls 3 [(0, .ref (o.2.1 17 0))] → W p l e rm_X5_drop s m args below meth c H locs 0 0 (MQ below (QI o Q) args s 0 0 (WA o)) (F0 m 64 ls [])) h ?_ ?_
    · clear h hw hl; clear ls; intro x h H locs ls hw hl
      obtain ⟨v15, M16⟩ := x
      replace hl : lv_has ls 3 [(0, .ref (o.2.1 17 0))] := hl
      dsimp only at h hw
      refine lv_aload_n hx hb dX5_drop_64 rfl (lv_at hl 0 rfl) ?_
      refine g_getf hx hb hts in_X5 hown hw 17 0 (ci_17 (by decide)) (bi_17 (by decide) hn) rfl rfl 0 (by decide) kX5_7 rfl dX5_drop_65 ?_
      refine lv_iconst (v := 4) hx hb dX5_drop_68 (by decide) ?_
      refine g_iald hx hb hw 18 0 (ci_18 (by decide)) (bi_18 (by decide) hn) rfl h dX5_drop_69 ?_
      clear h; intro v17 h
      exact g_iret hx hb hr hlocks hw h dX5_drop_70
    clear h; intro K9 hK9 h
    refine loop_W (body := w_X5_drop_L30 K9) (fun (x : Int32 × Mm) => ∀ (H : Heap) (locs : List Loc) (ls : Array Slot), WO o (WA o) s s.heap H locs x.2 → lv_has ls 3 [(0, .ref (o.2.1 17 0)), (2, .int x.1)] → W p l e rm_X5_drop s m args below meth c H locs 0 0 (MQ below (QI o Q) args s 0 0 (WA o)) (F0 m 30 ls [])) ?_ n _ h _ _ _ hw (lv_sub hl [1, 0] rfl)
    clear h hw hl; clear ls; intro R10 x hR10 h H locs ls hw hl
    obtain ⟨v7, M8⟩ := x
    replace hl : lv_has ls 3 [(0, .ref (o.2.1 17 0)), (2, .int v7)] := hl
    dsimp only at hw
    unfold w_X5_drop_L30 at h
    dsimp only at h
    refine lv_iload_n hx hb dX5_drop_30 rfl (lv_at hl 1 rfl) ?_
    refine lv_iconst (v := 5) hx hb dX5_drop_31 (by decide) ?_
    refine lv_iconst (v := 4) hx hb dX5_drop_32 (by decide) ?_
    refine lv_aload_n hx hb dX5_drop_33 rfl (lv_at hl 0 rfl) ?_
    refine g_getf hx hb hts in_X5 hown hw 17 0 (ci_17 (by decide)) (bi_17 (by decide) hn) rfl rfl 0 (by decide) kX5_7 rfl dX5_drop_34 ?_
    refine lv_iconst (v := 4) hx hb dX5_drop_37 (by decide) ?_
    refine g_iald hx hb hw 18 0 (ci_18 (by decide)) (bi_18 (by decide) hn) rfl h dX5_drop_38 ?_
    clear h; intro v11 h
    refine lv_imul hx hb dX5_drop_39 ?_
    refine lv_iadd hx hb dX5_drop_40 ?_
    refine g_icmp_ge (tgt := 64) hx hb h dX5_drop_41 (by decide) ?_ ?_
    · clear h; intro h
      exact hK9 (v7, M8) h _ _ _ hw (lv_sub hl [0] rfl)
    · clear h; intro h
      refine lv_aload_n hx hb dX5_drop_44 rfl (lv_at hl 0 rfl) ?_
      refine g_getf hx hb hts in_X5 hown hw 17 0 (ci_17 (by decide)) (bi_17 (by decide) hn) rfl rfl 0 (by decide) kX5_7 rfl dX5_drop_45 ?_
      refine lv_iload_n hx hb dX5_drop_48 rfl (lv_at hl 1 rfl) ?_
      refine lv_aload_n hx hb dX5_drop_49 rfl (lv_at hl 0 rfl) ?_
      refine g_getf hx hb hts in_X5 hown hw 17 0 (ci_17 (by decide)) (bi_17 (by decide) hn) rfl rfl 0 (by decide) kX5_7 rfl dX5_drop_50 ?_
      refine lv_iload_n hx hb dX5_drop_53 rfl (lv_at hl 1 rfl) ?_
      refine lv_iconst (v := 4) hx hb dX5_drop_54 (by decide) ?_
      refine lv_iadd hx hb dX5_drop_55 ?_
      refine g_iald hx hb hw 18 0 (ci_18 (by decide)) (bi_18 (by decide) hn) rfl h dX5_drop_56 ?_
      clear h; intro v12 h
      refine g_iast hx hb hw 18 0 (ci_18 (by decide)) (bi_18 (by decide) hn) (fun _ => rfl) h dX5_drop_57 ?_
      clear h hw; intro M13 H locs hw h
      refine g_iinc (k := 1) (v := (v7 + (1 : Int32))) (lv' := fun v14 => [(2, .int v14), (0, .ref (o.2.1 17 0))]) hx hb dX5_drop_58 hl rfl rfl (by decide) (fun _ => rfl) h ?_
      clear h hl; clear ls; intro v14 ls h hl
      refine lv_goto (tgt := 30) hx hb dX5_drop_61 (by decide) ?_
      exact hR10 (v14, M13) h _ _ _ hw (lv_sub hl [1, 0] rfl)
  · clear h; intro h
    refine lv_iconst (v := (-1)) hx hb dX5_drop_8 (by decide) ?_
    exact g_iret hx hb hr hlocks hw h dX5_drop_9
abbrev rm_X5_moves : Room := { frames := 0, cells := 0, slots := 0, locals := 0 }
set_option maxHeartbeats 4000000 in
set_option maxRecDepth 100000 in
theorem c_X5_moves {o : Om} {l : Launch} (hn : 122 ≤ o.2.2.2) {M : Mm} {x1 : Int32} {x2 : Int32} {Q : Mm → Prop} (h : w_X5_moves M x1 x2 Q) : CV o l yX5_moves cX5_moves 3 rm_X5_moves [.ref (o.2.1 17 0), .int x1, .int x2] M Q := by
  refine g_start (by decide +kernel) (Nat.le_of_ble_eq_true rfl) ?_
  intro p e s m args below meth c hx hb hr hlocks hml hown hts hw ls hl
  replace hl : lv_has ls 3 [(0, .ref (o.2.1 17 0)), (1, .int x1), (2, .int x2)] := hl
  unfold w_X5_moves at h
  refine lv_aload_n hx hb dX5_moves_0 rfl (lv_at hl 0 rfl) ?_
  refine g_getf hx hb hts in_X5 hown hw 17 0 (ci_17 (by decide)) (bi_17 (by decide) hn) rfl rfl 0 (by decide) kX5_7 rfl dX5_moves_1 ?_
  refine lv_iconst (v := 5) hx hb dX5_moves_4 (by decide) ?_
  refine lv_iconst (v := 4) hx hb dX5_moves_5 (by decide) ?_
  refine lv_iload_n hx hb dX5_moves_6 rfl (lv_at hl 1 rfl) ?_
  refine lv_imul hx hb dX5_moves_7 ?_
  refine lv_iadd hx hb dX5_moves_8 ?_
  refine lv_dup2_11 hx hb dX5_moves_9 rfl rfl ?_
  refine g_iald hx hb hw 18 0 (ci_18 (by decide)) (bi_18 (by decide) hn) rfl h dX5_moves_10 ?_
  clear h; intro v1 h
  refine lv_iload_n hx hb dX5_moves_11 rfl (lv_at hl 2 rfl) ?_
  refine lv_iadd hx hb dX5_moves_12 ?_
  refine g_iast hx hb hw 18 0 (ci_18 (by decide)) (bi_18 (by decide) hn) (fun _ => rfl) h dX5_moves_13 ?_
  clear h hw; intro M2 H locs hw h
  refine lv_aload_n hx hb dX5_moves_14 rfl (lv_at hl 0 rfl) ?_
  refine g_getf hx hb hts in_X5 hown hw 17 0 (ci_17 (by decide)) (bi_17 (by decide) hn) rfl rfl 0 (by decide) kX5_7 rfl dX5_moves_15 ?_
  refine lv_iconst (v := 5) hx hb dX5_moves_18 (by decide) ?_
  refine lv_iconst (v := 4) hx hb dX5_moves_19 (by decide) ?_
  refine lv_iload_n hx hb dX5_moves_20 rfl (lv_at hl 1 rfl) ?_
  refine lv_imul hx hb dX5_moves_21 ?_
  refine lv_iadd hx hb dX5_moves_22 ?_
  refine lv_iconst (v := 1) hx hb dX5_moves_23 (by decide) ?_
  refine lv_iadd hx hb dX5_moves_24 ?_
  refine lv_dup2_11 hx hb dX5_moves_25 rfl rfl ?_
  refine g_iald hx hb hw 18 0 (ci_18 (by decide)) (bi_18 (by decide) hn) rfl h dX5_moves_26 ?_
  clear h; intro v3 h
  refine lv_iload_n hx hb dX5_moves_27 rfl (lv_at hl 2 rfl) ?_
  refine lv_iadd hx hb dX5_moves_28 ?_
  refine g_iast hx hb hw 18 0 (ci_18 (by decide)) (bi_18 (by decide) hn) (fun _ => rfl) h dX5_moves_29 ?_
  clear h hw; intro M4 H locs hw h
  exact g_vret hx hb hr hlocks hw h dX5_moves_30
abbrev rm_X5_move : Room := { frames := 2, cells := 0, slots := 0, locals := 43 }
set_option maxHeartbeats 4000000 in
set_option maxRecDepth 100000 in
theorem c_X5_move {o : Om} {l : Launch} (hn : 122 ≤ o.2.2.2) {M : Mm} {x1 : Int32} {x2 : Int32} {Q : Int32 → Mm → Prop} (h : w_X5_move M x1 x2 Q) : CI o l yX5_move cX5_move 3 rm_X5_move [.ref (o.2.1 17 0), .int x1, .int x2] M Q := by
  refine g_start (by decide +kernel) (Nat.le_of_ble_eq_true rfl) ?_
  intro p e s m args below meth c hx hb hr hlocks hml hown hts hw ls hl
  replace hl : lv_has ls 3 [(0, .ref (o.2.1 17 0)), (1, .int x1), (2, .int x2)] := hl
  unfold w_X5_move at h
  refine lv_aload_n hx hb dX5_move_0 rfl (lv_at hl 0 rfl) ?_
  refine lv_iload_n hx hb dX5_move_1 rfl (lv_at hl 1 rfl) ?_
  refine g_cz hw (g_runV (As := [.int x1]) (rest := []) hx hb hml hown hts mX5_isEntry vX5_isEntry kX5_180 hw 17 0 (ci_17 (by decide)) (bi_17 (by decide) hn) rfl rfl (c_X5_isEntry hn h) rfl rfl ⟨Nat.le_of_ble_eq_true rfl, Nat.le_of_ble_eq_true rfl⟩ rfl hl.1 rfl (Nat.le_of_ble_eq_true rfl) dX5_move_2 ⟨Nat.zero_le _, Nat.zero_le _⟩) ?_
  clear h hw; intro v2 M1 H locs hw hz_v2 h
  refine g_if_eq (tgt := 21) hx hb h dX5_move_5 (by decide) ?_ ?_
  · clear h; intro h
    refine lv_iconst (v := (-1)) hx hb dX5_move_21 (by decide) ?_
    exact g_iret hx hb hr hlocks hw h dX5_move_22
  · clear h; intro h
    refine lv_iload_n hx hb dX5_move_8 rfl (lv_at hl 2 rfl) ?_
    refine lv_sipush (v := (-999)) hx hb dX5_move_9 (by decide) ?_
    refine lv_sipush (v := 999) hx hb dX5_move_12 (by decide) ?_
    refine g_cz hw (g_runS (As := [.int x2, .int (-999 : Int32), .int (999 : Int32)]) (rest := []) hx hb hml hown hts mX5_in sX5_in kX5_32 hw (c_X5_in hn h) rfl rfl ⟨Nat.le_of_ble_eq_true rfl, Nat.le_of_ble_eq_true rfl⟩ rfl hl.1 rfl (Nat.le_of_ble_eq_true rfl) dX5_move_15 ⟨Nat.zero_le _, Nat.zero_le _⟩) ?_
    clear h hw; intro v4 M3 H locs hw hz_v4 h
    refine g_if_ne (tgt := 23) hx hb h dX5_move_18 (by decide) ?_ ?_
    · clear h; intro h
      refine lv_aload_n hx hb dX5_move_23 rfl (lv_at hl 0 rfl) ?_
      refine lv_iload_n hx hb dX5_move_24 rfl (lv_at hl 1 rfl) ?_
      refine g_ci hw (g_runV (As := [.int x1]) (rest := []) hx hb hml hown hts mX5_begins vX5_begins kX5_40 hw 17 0 (ci_17 (by decide)) (bi_17 (by decide) hn) rfl rfl (c_X5_begins hn h) rfl rfl ⟨Nat.le_of_ble_eq_true rfl, Nat.le_of_ble_eq_true rfl⟩ rfl hl.1 rfl (Nat.le_of_ble_eq_true rfl) dX5_move_25 ⟨Nat.zero_le _, Nat.zero_le _⟩) ?_
      clear h hw; intro v6 M5 H locs hw h
      refine lv_iload_n hx hb dX5_move_28 rfl (lv_at hl 2 rfl) ?_
      refine lv_iadd hx hb dX5_move_29 ?_
      refine g_if_lt (tgt := 46) hx hb h dX5_move_30 (by decide) ?_ ?_
      · clear h; intro h
        refine lv_bipush (v := (-2)) hx hb dX5_move_46 (by decide) ?_
        exact g_iret hx hb hr hlocks hw h dX5_move_48
      · clear h; intro h
        refine lv_aload_n hx hb dX5_move_33 rfl (lv_at hl 0 rfl) ?_
        refine lv_iload_n hx hb dX5_move_34 rfl (lv_at hl 1 rfl) ?_
        refine g_ci hw (g_runV (As := [.int x1]) (rest := []) hx hb hml hown hts mX5_ends vX5_ends kX5_36 hw 17 0 (ci_17 (by decide)) (bi_17 (by decide) hn) rfl rfl (c_X5_ends hn h) rfl rfl ⟨Nat.le_of_ble_eq_true rfl, Nat.le_of_ble_eq_true rfl⟩ rfl hl.1 rfl (Nat.le_of_ble_eq_true rfl) dX5_move_35 ⟨Nat.zero_le _, Nat.zero_le _⟩) ?_
        clear h hw; intro v8 M7 H locs hw h
        refine lv_iload_n hx hb dX5_move_38 rfl (lv_at hl 2 rfl) ?_
        refine lv_iadd hx hb dX5_move_39 ?_
        refine lv_sipush (v := 999) hx hb dX5_move_40 (by decide) ?_
        refine g_icmp_le (tgt := 49) hx hb h dX5_move_43 (by decide) ?_ ?_
        · clear h; intro h
          refine lv_aload_n hx hb dX5_move_49 rfl (lv_at hl 0 rfl) ?_
          refine g_cv hw (g_runV (As := []) (rest := []) hx hb hml hown hts mX5_records vX5_records kX5_53 hw 17 0 (ci_17 (by decide)) (bi_17 (by decide) hn) rfl rfl (c_X5_records hn h) rfl rfl ⟨Nat.le_of_ble_eq_true rfl, Nat.le_of_ble_eq_true rfl⟩ rfl hl.1 rfl (Nat.le_of_ble_eq_true rfl) dX5_move_50 ⟨Nat.zero_le _, Nat.zero_le _⟩) ?_
          clear h hw; intro M9 H locs hw h
          refine lv_aload_n hx hb dX5_move_53 rfl (lv_at hl 0 rfl) ?_
          refine lv_iload_n hx hb dX5_move_54 rfl (lv_at hl 1 rfl) ?_
          refine lv_iload_n hx hb dX5_move_55 rfl (lv_at hl 2 rfl) ?_
          refine g_cv hw (g_runV (As := [.int x1, .int x2]) (rest := []) hx hb hml hown hts mX5_moves vX5_moves kX5_183 hw 17 0 (ci_17 (by decide)) (bi_17 (by decide) hn) rfl rfl (c_X5_moves hn h) rfl rfl ⟨Nat.le_of_ble_eq_true rfl, Nat.le_of_ble_eq_true rfl⟩ rfl hl.1 rfl (Nat.le_of_ble_eq_true rfl) dX5_move_56 ⟨Nat.zero_le _, Nat.zero_le _⟩) ?_
          clear h hw; intro M10 H locs hw h
          refine lv_aload_n hx hb dX5_move_59 rfl (lv_at hl 0 rfl) ?_
          refine lv_iload_n hx hb dX5_move_60 rfl (lv_at hl 1 rfl) ?_
          refine g_ci hw (g_runV (As := [.int x1]) (rest := []) hx hb hml hown hts mX5_begins vX5_begins kX5_40 hw 17 0 (ci_17 (by decide)) (bi_17 (by decide) hn) rfl rfl (c_X5_begins hn h) rfl rfl ⟨Nat.le_of_ble_eq_true rfl, Nat.le_of_ble_eq_true rfl⟩ rfl hl.1 rfl (Nat.le_of_ble_eq_true rfl) dX5_move_61 ⟨Nat.zero_le _, Nat.zero_le _⟩) ?_
          clear h hw; intro v12 M11 H locs hw h
          exact g_iret hx hb hr hlocks hw h dX5_move_64
        · clear h; intro h
          refine lv_bipush (v := (-2)) hx hb dX5_move_46 (by decide) ?_
          exact g_iret hx hb hr hlocks hw h dX5_move_48
    · clear h; intro h
      refine lv_iconst (v := (-1)) hx hb dX5_move_21 (by decide) ?_
      exact g_iret hx hb hr hlocks hw h dX5_move_22
abbrev rm_X5_stretch : Room := { frames := 2, cells := 0, slots := 0, locals := 43 }
set_option maxHeartbeats 4000000 in
set_option maxRecDepth 100000 in
theorem c_X5_stretch {o : Om} {l : Launch} (hn : 122 ≤ o.2.2.2) {M : Mm} {x1 : Int32} {x2 : Int32} {Q : Int32 → Mm → Prop} (h : w_X5_stretch M x1 x2 Q) : CI o l yX5_stretch cX5_stretch 3 rm_X5_stretch [.ref (o.2.1 17 0), .int x1, .int x2] M Q := by
  refine g_start (by decide +kernel) (Nat.le_of_ble_eq_true rfl) ?_
  intro p e s m args below meth c hx hb hr hlocks hml hown hts hw ls hl
  replace hl : lv_has ls 3 [(0, .ref (o.2.1 17 0)), (1, .int x1), (2, .int x2)] := hl
  unfold w_X5_stretch at h
  refine lv_aload_n hx hb dX5_stretch_0 rfl (lv_at hl 0 rfl) ?_
  refine lv_iload_n hx hb dX5_stretch_1 rfl (lv_at hl 1 rfl) ?_
  refine g_cz hw (g_runV (As := [.int x1]) (rest := []) hx hb hml hown hts mX5_isEntry vX5_isEntry kX5_180 hw 17 0 (ci_17 (by decide)) (bi_17 (by decide) hn) rfl rfl (c_X5_isEntry hn h) rfl rfl ⟨Nat.le_of_ble_eq_true rfl, Nat.le_of_ble_eq_true rfl⟩ rfl hl.1 rfl (Nat.le_of_ble_eq_true rfl) dX5_stretch_2 ⟨Nat.zero_le _, Nat.zero_le _⟩) ?_
  clear h hw; intro v2 M1 H locs hw hz_v2 h
  refine g_if_eq (tgt := 15) hx hb h dX5_stretch_5 (by decide) ?_ ?_
  · clear h; intro h
    refine lv_iconst (v := (-1)) hx hb dX5_stretch_15 (by decide) ?_
    exact g_iret hx hb hr hlocks hw h dX5_stretch_16
  · clear h; intro h
    refine lv_iload_n hx hb dX5_stretch_8 rfl (lv_at hl 2 rfl) ?_
    refine g_cz hw (g_runS (As := [.int x2]) (rest := []) hx hb hml hown hts mX5_isDay sX5_isDay kX5_49 hw (c_X5_isDay hn h) rfl rfl ⟨Nat.le_of_ble_eq_true rfl, Nat.le_of_ble_eq_true rfl⟩ rfl hl.1 rfl (Nat.le_of_ble_eq_true rfl) dX5_stretch_9 ⟨Nat.zero_le _, Nat.zero_le _⟩) ?_
    clear h hw; intro v4 M3 H locs hw hz_v4 h
    refine g_if_ne (tgt := 17) hx hb h dX5_stretch_12 (by decide) ?_ ?_
    · clear h; intro h
      refine lv_iload_n hx hb dX5_stretch_17 rfl (lv_at hl 2 rfl) ?_
      refine lv_aload_n hx hb dX5_stretch_18 rfl (lv_at hl 0 rfl) ?_
      refine lv_iload_n hx hb dX5_stretch_19 rfl (lv_at hl 1 rfl) ?_
      refine g_ci hw (g_runV (As := [.int x1]) (rest := [.int x2]) hx hb hml hown hts mX5_begins vX5_begins kX5_40 hw 17 0 (ci_17 (by decide)) (bi_17 (by decide) hn) rfl rfl (c_X5_begins hn h) rfl rfl ⟨Nat.le_of_ble_eq_true rfl, Nat.le_of_ble_eq_true rfl⟩ rfl hl.1 rfl (Nat.le_of_ble_eq_true rfl) dX5_stretch_20 ⟨Nat.zero_le _, Nat.zero_le _⟩) ?_
      clear h hw; intro v6 M5 H locs hw h
      refine g_icmp_ge (tgt := 29) hx hb h dX5_stretch_23 (by decide) ?_ ?_
      · clear h; intro h
        refine lv_aload_n hx hb dX5_stretch_29 rfl (lv_at hl 0 rfl) ?_
        refine g_cv hw (g_runV (As := []) (rest := []) hx hb hml hown hts mX5_records vX5_records kX5_53 hw 17 0 (ci_17 (by decide)) (bi_17 (by decide) hn) rfl rfl (c_X5_records hn h) rfl rfl ⟨Nat.le_of_ble_eq_true rfl, Nat.le_of_ble_eq_true rfl⟩ rfl hl.1 rfl (Nat.le_of_ble_eq_true rfl) dX5_stretch_30 ⟨Nat.zero_le _, Nat.zero_le _⟩) ?_
        clear h hw; intro M7 H locs hw h
        refine lv_aload_n hx hb dX5_stretch_33 rfl (lv_at hl 0 rfl) ?_
        refine g_getf hx hb hts in_X5 hown hw 17 0 (ci_17 (by decide)) (bi_17 (by decide) hn) rfl rfl 0 (by decide) kX5_7 rfl dX5_stretch_34 ?_
        refine lv_iconst (v := 5) hx hb dX5_stretch_37 (by decide) ?_
        refine lv_iconst (v := 4) hx hb dX5_stretch_38 (by decide) ?_
        refine lv_iload_n hx hb dX5_stretch_39 rfl (lv_at hl 1 rfl) ?_
        refine lv_imul hx hb dX5_stretch_40 ?_
        refine lv_iadd hx hb dX5_stretch_41 ?_
        refine lv_iconst (v := 1) hx hb dX5_stretch_42 (by decide) ?_
        refine lv_iadd hx hb dX5_stretch_43 ?_
        refine lv_iload_n hx hb dX5_stretch_44 rfl (lv_at hl 2 rfl) ?_
        refine g_iast hx hb hw 18 0 (ci_18 (by decide)) (bi_18 (by decide) hn) (fun _ => rfl) h dX5_stretch_45 ?_
        clear h hw; intro M8 H locs hw h
        refine lv_iload_n hx hb dX5_stretch_46 rfl (lv_at hl 2 rfl) ?_
        refine lv_aload_n hx hb dX5_stretch_47 rfl (lv_at hl 0 rfl) ?_
        refine lv_iload_n hx hb dX5_stretch_48 rfl (lv_at hl 1 rfl) ?_
        refine g_ci hw (g_runV (As := [.int x1]) (rest := [.int x2]) hx hb hml hown hts mX5_begins vX5_begins kX5_40 hw 17 0 (ci_17 (by decide)) (bi_17 (by decide) hn) rfl rfl (c_X5_begins hn h) rfl rfl ⟨Nat.le_of_ble_eq_true rfl, Nat.le_of_ble_eq_true rfl⟩ rfl hl.1 rfl (Nat.le_of_ble_eq_true rfl) dX5_stretch_49 ⟨Nat.zero_le _, Nat.zero_le _⟩) ?_
        clear h hw; intro v10 M9 H locs hw h
        refine lv_isub hx hb dX5_stretch_52 ?_
        refine lv_iconst (v := 1) hx hb dX5_stretch_53 (by decide) ?_
        refine lv_iadd hx hb dX5_stretch_54 ?_
        exact g_iret hx hb hr hlocks hw h dX5_stretch_55
      · clear h; intro h
        refine lv_bipush (v := (-2)) hx hb dX5_stretch_26 (by decide) ?_
        exact g_iret hx hb hr hlocks hw h dX5_stretch_28
    · clear h; intro h
      refine lv_iconst (v := (-1)) hx hb dX5_stretch_15 (by decide) ?_
      exact g_iret hx hb hr hlocks hw h dX5_stretch_16
abbrev rm_X5_settle : Room := { frames := 2, cells := 0, slots := 0, locals := 43 }
set_option maxHeartbeats 4000000 in
set_option maxRecDepth 100000 in
theorem c_X5_settle {o : Om} {l : Launch} (hn : 122 ≤ o.2.2.2) {M : Mm} {x1 : Int32} {x2 : Int32} {x3 : Int32} {Q : Int32 → Mm → Prop} (h : w_X5_settle M x1 x2 x3 Q) : CI o l yX5_settle cX5_settle 4 rm_X5_settle [.ref (o.2.1 17 0), .int x1, .int x2, .int x3] M Q := by
  refine g_start (by decide +kernel) (Nat.le_of_ble_eq_true rfl) ?_
  intro p e s m args below meth c hx hb hr hlocks hml hown hts hw ls hl
  replace hl : lv_has ls 4 [(0, .ref (o.2.1 17 0)), (1, .int x1), (2, .int x2), (3, .int x3)] := hl
  unfold w_X5_settle at h
  refine lv_aload_n hx hb dX5_settle_0 rfl (lv_at hl 0 rfl) ?_
  refine lv_iload_n hx hb dX5_settle_1 rfl (lv_at hl 1 rfl) ?_
  refine g_cz hw (g_runV (As := [.int x1]) (rest := []) hx hb hml hown hts mX5_isEntry vX5_isEntry kX5_180 hw 17 0 (ci_17 (by decide)) (bi_17 (by decide) hn) rfl rfl (c_X5_isEntry hn h) rfl rfl ⟨Nat.le_of_ble_eq_true rfl, Nat.le_of_ble_eq_true rfl⟩ rfl hl.1 rfl (Nat.le_of_ble_eq_true rfl) dX5_settle_2 ⟨Nat.zero_le _, Nat.zero_le _⟩) ?_
  clear h hw; intro v2 M1 H locs hw hz_v2 h
  refine g_if_eq (tgt := 25) hx hb h dX5_settle_5 (by decide) ?_ ?_
  · clear h; intro h
    refine lv_iconst (v := (-1)) hx hb dX5_settle_25 (by decide) ?_
    exact g_iret hx hb hr hlocks hw h dX5_settle_26
  · clear h; intro h
    refine lv_iload_n hx hb dX5_settle_8 rfl (lv_at hl 2 rfl) ?_
    refine g_cz hw (g_runS (As := [.int x2]) (rest := []) hx hb hml hown hts mX5_isTime sX5_isTime kX5_177 hw (c_X5_isTime hn h) rfl rfl ⟨Nat.le_of_ble_eq_true rfl, Nat.le_of_ble_eq_true rfl⟩ rfl hl.1 rfl (Nat.le_of_ble_eq_true rfl) dX5_settle_9 ⟨Nat.zero_le _, Nat.zero_le _⟩) ?_
    clear h hw; intro v4 M3 H locs hw hz_v4 h
    refine g_if_eq (tgt := 25) hx hb h dX5_settle_12 (by decide) ?_ ?_
    · clear h; intro h
      refine lv_iconst (v := (-1)) hx hb dX5_settle_25 (by decide) ?_
      exact g_iret hx hb hr hlocks hw h dX5_settle_26
    · clear h; intro h
      refine lv_iload_n hx hb dX5_settle_15 rfl (lv_at hl 3 rfl) ?_
      refine lv_iconst (v := 0) hx hb dX5_settle_16 (by decide) ?_
      refine lv_bipush (v := 9) hx hb dX5_settle_17 (by decide) ?_
      refine g_cz hw (g_runS (As := [.int x3, .int (0 : Int32), .int (9 : Int32)]) (rest := []) hx hb hml hown hts mX5_in sX5_in kX5_32 hw (c_X5_in hn h) rfl rfl ⟨Nat.le_of_ble_eq_true rfl, Nat.le_of_ble_eq_true rfl⟩ rfl hl.1 rfl (Nat.le_of_ble_eq_true rfl) dX5_settle_19 ⟨Nat.zero_le _, Nat.zero_le _⟩) ?_
      clear h hw; intro v6 M5 H locs hw hz_v6 h
      refine g_if_ne (tgt := 27) hx hb h dX5_settle_22 (by decide) ?_ ?_
      · clear h; intro h
        refine lv_aload_n hx hb dX5_settle_27 rfl (lv_at hl 0 rfl) ?_
        refine g_cv hw (g_runV (As := []) (rest := []) hx hb hml hown hts mX5_records vX5_records kX5_53 hw 17 0 (ci_17 (by decide)) (bi_17 (by decide) hn) rfl rfl (c_X5_records hn h) rfl rfl ⟨Nat.le_of_ble_eq_true rfl, Nat.le_of_ble_eq_true rfl⟩ rfl hl.1 rfl (Nat.le_of_ble_eq_true rfl) dX5_settle_28 ⟨Nat.zero_le _, Nat.zero_le _⟩) ?_
        clear h hw; intro M7 H locs hw h
        refine lv_aload_n hx hb dX5_settle_31 rfl (lv_at hl 0 rfl) ?_
        refine g_getf hx hb hts in_X5 hown hw 17 0 (ci_17 (by decide)) (bi_17 (by decide) hn) rfl rfl 0 (by decide) kX5_7 rfl dX5_settle_32 ?_
        refine lv_iconst (v := 5) hx hb dX5_settle_35 (by decide) ?_
        refine lv_iconst (v := 4) hx hb dX5_settle_36 (by decide) ?_
        refine lv_iload_n hx hb dX5_settle_37 rfl (lv_at hl 1 rfl) ?_
        refine lv_imul hx hb dX5_settle_38 ?_
        refine lv_iadd hx hb dX5_settle_39 ?_
        refine lv_iconst (v := 2) hx hb dX5_settle_40 (by decide) ?_
        refine lv_iadd hx hb dX5_settle_41 ?_
        refine lv_iload_n hx hb dX5_settle_42 rfl (lv_at hl 2 rfl) ?_
        refine g_iast hx hb hw 18 0 (ci_18 (by decide)) (bi_18 (by decide) hn) (fun _ => rfl) h dX5_settle_43 ?_
        clear h hw; intro M8 H locs hw h
        refine lv_aload_n hx hb dX5_settle_44 rfl (lv_at hl 0 rfl) ?_
        refine g_getf hx hb hts in_X5 hown hw 17 0 (ci_17 (by decide)) (bi_17 (by decide) hn) rfl rfl 0 (by decide) kX5_7 rfl dX5_settle_45 ?_
        refine lv_iconst (v := 5) hx hb dX5_settle_48 (by decide) ?_
        refine lv_iconst (v := 4) hx hb dX5_settle_49 (by decide) ?_
        refine lv_iload_n hx hb dX5_settle_50 rfl (lv_at hl 1 rfl) ?_
        refine lv_imul hx hb dX5_settle_51 ?_
        refine lv_iadd hx hb dX5_settle_52 ?_
        refine lv_iconst (v := 3) hx hb dX5_settle_53 (by decide) ?_
        refine lv_iadd hx hb dX5_settle_54 ?_
        refine lv_iload_n hx hb dX5_settle_55 rfl (lv_at hl 3 rfl) ?_
        refine g_iast hx hb hw 18 0 (ci_18 (by decide)) (bi_18 (by decide) hn) (fun _ => rfl) h dX5_settle_56 ?_
        clear h hw; intro M9 H locs hw h
        refine lv_aload_n hx hb dX5_settle_57 rfl (lv_at hl 0 rfl) ?_
        refine lv_iload_n hx hb dX5_settle_58 rfl (lv_at hl 1 rfl) ?_
        refine g_cz hw (g_runV (As := [.int x1]) (rest := []) hx hb hml hown hts mX5_isLong vX5_isLong kX5_73 hw 17 0 (ci_17 (by decide)) (bi_17 (by decide) hn) rfl rfl (c_X5_isLong hn h) rfl rfl ⟨Nat.le_of_ble_eq_true rfl, Nat.le_of_ble_eq_true rfl⟩ rfl hl.1 rfl (Nat.le_of_ble_eq_true rfl) dX5_settle_59 ⟨Nat.zero_le _, Nat.zero_le _⟩) ?_
        clear h hw; intro v11 M10 H locs hw hz_v11 h
        refine g_if_eq (tgt := 69) hx hb h dX5_settle_62 (by decide) ?_ ?_
        · clear h; intro h
          refine lv_iconst (v := 0) hx hb dX5_settle_69 (by decide) ?_
          exact g_iret hx hb hr hlocks hw h dX5_settle_70
        · clear h; intro h
          refine lv_iconst (v := 1) hx hb dX5_settle_65 (by decide) ?_
          refine lv_goto (tgt := 70) hx hb dX5_settle_66 (by decide) ?_
          exact g_iret hx hb hr hlocks hw h dX5_settle_70
      · clear h; intro h
        refine lv_iconst (v := (-1)) hx hb dX5_settle_25 (by decide) ?_
        exact g_iret hx hb hr hlocks hw h dX5_settle_26
abbrev rm_X5_daysOf : Room := { frames := 5, cells := 0, slots := 0, locals := 111 }
set_option maxHeartbeats 4000000 in
set_option maxRecDepth 100000 in
theorem c_X5_daysOf {o : Om} {l : Launch} (hn : 122 ≤ o.2.2.2) {M : Mm} {x1 : Int32} {x2 : Int32} {Q : Int32 → Mm → Prop} (h : w_X5_daysOf M x1 x2 Q) : CI o l yX5_daysOf cX5_daysOf 5 rm_X5_daysOf [.ref (o.2.1 17 0), .int x1, .int x2] M Q := by
  refine g_start (by decide +kernel) (Nat.le_of_ble_eq_true rfl) ?_
  intro p e s m args below meth c hx hb hr hlocks hml hown hts hw ls hl
  replace hl : lv_has ls 5 [(0, .ref (o.2.1 17 0)), (1, .int x1), (2, .int x2)] := hl
  unfold w_X5_daysOf at h
  refine lv_iconst (v := 0) hx hb dX5_daysOf_0 (by decide) ?_
  refine lv_istore_n (lv' := [(3, .int (0 : Int32)), (0, .ref (o.2.1 17 0)), (1, .int x1), (2, .int x2)]) hx hb dX5_daysOf_1 rfl hl (by decide) rfl ?_
  clear hl; clear ls; intro ls hl
  refine lv_aload_n hx hb dX5_daysOf_2 rfl (lv_at hl 1 rfl) ?_
  refine g_getf hx hb hts in_X5 hown hw 17 0 (ci_17 (by decide)) (bi_17 (by decide) hn) rfl rfl 0 (by decide) kX5_7 rfl dX5_daysOf_3 ?_
  refine lv_iconst (v := 0) hx hb dX5_daysOf_6 (by decide) ?_
  refine g_iald hx hb hw 18 0 (ci_18 (by decide)) (bi_18 (by decide) hn) rfl h dX5_daysOf_7 ?_
  clear h; intro v1 h
  refine lv_istore (lv' := [(4, .int v1), (3, .int (0 : Int32)), (0, .ref (o.2.1 17 0)), (1, .int x1), (2, .int x2)]) hx hb dX5_daysOf_8 hl (by decide) rfl ?_
  clear hl; clear ls; intro ls hl
  obtain ⟨n, h⟩ := h
  refine letK_W (body := fun K => w_X5_daysOf_L10 x1 x2 K) (fun (x : Int32 × Int32 × Mm) => ∀ (H : Heap) (locs : List Loc) (ls : Array Slot), WO o (WA o) s s.heap H locs x.2.2 → lv_has ls 5 [(3, .int x.1)] → W p l e rm_X5_daysOf s m args below meth c H locs 0 0 (MQ below (QI o Q) args s 0 0 (WA o)) (F0 m 71 ls [])) h ?_ ?_
  · clear h hw hl; clear ls; intro x h H locs ls hw hl
    obtain ⟨v23, v24, M25⟩ := x
    replace hl : lv_has ls 5 [(3, .int v23)] := hl
    dsimp only at h hw
    refine lv_iload_n hx hb dX5_daysOf_71 rfl (lv_at hl 0 rfl) ?_
    exact g_iret hx hb hr hlocks hw h dX5_daysOf_72
  clear h; intro K5 hK5 h
  refine loop_W (body := w_X5_daysOf_L10 x1 x2 K5) (fun (x : Int32 × Int32 × Mm) => ∀ (H : Heap) (locs : List Loc) (ls : Array Slot), WO o (WA o) s s.heap H locs x.2.2 → lv_has ls 5 [(0, .ref (o.2.1 17 0)), (1, .int x1), (2, .int x2), (3, .int x.1), (4, .int x.2.1)] → W p l e rm_X5_daysOf s m args below meth c H locs 0 0 (MQ below (QI o Q) args s 0 0 (WA o)) (F0 m 10 ls [])) ?_ n _ h _ _ _ hw (lv_sub hl [2, 3, 4, 1, 0] rfl)
  clear h hw hl; clear ls; intro R6 x hR6 h H locs ls hw hl
  obtain ⟨v2, v3, M4⟩ := x
  replace hl : lv_has ls 5 [(0, .ref (o.2.1 17 0)), (1, .int x1), (2, .int x2), (3, .int v2), (4, .int v3)] := hl
  dsimp only at hw
  unfold w_X5_daysOf_L10 at h
  dsimp only at h
  refine lv_iload hx hb dX5_daysOf_10 (lv_at hl 4 rfl) ?_
  refine lv_aload_n hx hb dX5_daysOf_12 rfl (lv_at hl 0 rfl) ?_
  refine g_getf hx hb hts in_X5 hown hw 17 0 (ci_17 (by decide)) (bi_17 (by decide) hn) rfl rfl 0 (by decide) kX5_7 rfl dX5_daysOf_13 ?_
  refine lv_iconst (v := 1) hx hb dX5_daysOf_16 (by decide) ?_
  refine g_iald hx hb hw 18 0 (ci_18 (by decide)) (bi_18 (by decide) hn) rfl h dX5_daysOf_17 ?_
  clear h; intro v7 h
  refine g_icmp_gt (tgt := 71) hx hb h dX5_daysOf_18 (by decide) ?_ ?_
  · clear h; intro h
    exact hK5 (v2, v3, M4) h _ _ _ hw (lv_sub hl [3] rfl)
  · clear h; intro h
    refine lv_iload_n hx hb dX5_daysOf_21 rfl (lv_at hl 3 rfl) ?_
    refine lv_aload_n hx hb dX5_daysOf_22 rfl (lv_at hl 0 rfl) ?_
    refine lv_iload_n hx hb dX5_daysOf_23 rfl (lv_at hl 1 rfl) ?_
    refine lv_iload hx hb dX5_daysOf_24 (lv_at hl 4 rfl) ?_
    refine g_cz hw (g_runV (As := [.int x1, .int v3]) (rest := [.int v2]) hx hb hml hown hts mX5_isOn vX5_isOn kX5_86 hw 17 0 (ci_17 (by decide)) (bi_17 (by decide) hn) rfl rfl (c_X5_isOn hn h) rfl rfl ⟨Nat.le_of_ble_eq_true rfl, Nat.le_of_ble_eq_true rfl⟩ rfl hl.1 rfl (Nat.le_of_ble_eq_true rfl) dX5_daysOf_26 ⟨Nat.zero_le _, Nat.zero_le _⟩) ?_
    clear h hw; intro v9 M8 H locs hw hz_v9 h
    refine g_if_eq (tgt := 62) hx hb h dX5_daysOf_29 (by decide) ?_ ?_
    · clear h; intro h
      refine lv_iconst (v := 0) hx hb dX5_daysOf_62 (by decide) ?_
      refine lv_iadd hx hb dX5_daysOf_63 ?_
      refine g_topi h ?_
      clear h; intro v10 h
      refine lv_istore_n (lv' := [(3, .int v10), (0, .ref (o.2.1 17 0)), (1, .int x1), (2, .int x2), (4, .int v3)]) hx hb dX5_daysOf_64 rfl hl (by decide) rfl ?_
      clear hl; clear ls; intro ls hl
      refine g_iinc (k := 4) (v := (v3 + (1 : Int32))) (lv' := fun v11 => [(4, .int v11), (3, .int v10), (0, .ref (o.2.1 17 0)), (1, .int x1), (2, .int x2)]) hx hb dX5_daysOf_65 hl rfl rfl (by decide) (fun _ => rfl) h ?_
      clear h hl; clear ls; intro v11 ls h hl
      refine lv_goto (tgt := 10) hx hb dX5_daysOf_68 (by decide) ?_
      exact hR6 (v10, v11, M8) h _ _ _ hw (lv_sub hl [2, 3, 4, 1, 0] rfl)
    · clear h; intro h
      refine lv_iload_n hx hb dX5_daysOf_32 rfl (lv_at hl 2 rfl) ?_
      refine g_if_eq (tgt := 58) hx hb h dX5_daysOf_33 (by decide) ?_ ?_
      · clear h; intro h
        refine lv_iconst (v := 1) hx hb dX5_daysOf_58 (by decide) ?_
        refine lv_goto (tgt := 63) hx hb dX5_daysOf_59 (by decide) ?_
        refine lv_iadd hx hb dX5_daysOf_63 ?_
        refine g_topi h ?_
        clear h; intro v12 h
        refine lv_istore_n (lv' := [(3, .int v12), (0, .ref (o.2.1 17 0)), (1, .int x1), (2, .int x2), (4, .int v3)]) hx hb dX5_daysOf_64 rfl hl (by decide) rfl ?_
        clear hl; clear ls; intro ls hl
        refine g_iinc (k := 4) (v := (v3 + (1 : Int32))) (lv' := fun v13 => [(4, .int v13), (3, .int v12), (0, .ref (o.2.1 17 0)), (1, .int x1), (2, .int x2)]) hx hb dX5_daysOf_65 hl rfl rfl (by decide) (fun _ => rfl) h ?_
        clear h hl; clear ls; intro v13 ls h hl
        refine lv_goto (tgt := 10) hx hb dX5_daysOf_68 (by decide) ?_
        exact hR6 (v12, v13, M8) h _ _ _ hw (lv_sub hl [2, 3, 4, 1, 0] rfl)
      · clear h; intro h
        refine lv_aload_n hx hb dX5_daysOf_36 rfl (lv_at hl 0 rfl) ?_
        refine lv_iload_n hx hb dX5_daysOf_37 rfl (lv_at hl 1 rfl) ?_
        refine lv_iload hx hb dX5_daysOf_38 (lv_at hl 4 rfl) ?_
        refine g_ci hw (g_runV (As := [.int x1, .int v3]) (rest := [.int v2]) hx hb hml hown hts mX5_rowAt vX5_rowAt kX5_89 hw 17 0 (ci_17 (by decide)) (bi_17 (by decide) hn) rfl rfl (c_X5_rowAt hn h) rfl rfl ⟨Nat.le_of_ble_eq_true rfl, Nat.le_of_ble_eq_true rfl⟩ rfl hl.1 rfl (Nat.le_of_ble_eq_true rfl) dX5_daysOf_40 ⟨Nat.zero_le _, Nat.zero_le _⟩) ?_
        clear h hw; intro v15 M14 H locs hw h
        refine lv_aload_n hx hb dX5_daysOf_43 rfl (lv_at hl 0 rfl) ?_
        refine lv_iload hx hb dX5_daysOf_44 (lv_at hl 4 rfl) ?_
        refine lv_aload_n hx hb dX5_daysOf_46 rfl (lv_at hl 0 rfl) ?_
        refine g_getf hx hb hts in_X5 hown hw 17 0 (ci_17 (by decide)) (bi_17 (by decide) hn) rfl rfl 0 (by decide) kX5_7 rfl dX5_daysOf_47 ?_
        refine lv_iconst (v := 3) hx hb dX5_daysOf_50 (by decide) ?_
        refine g_iald hx hb hw 18 0 (ci_18 (by decide)) (bi_18 (by decide) hn) rfl h dX5_daysOf_51 ?_
        clear h; intro v16 h
        refine g_ci hw (g_runV (As := [.int v3, .int v16]) (rest := [.int v15, .int v2]) hx hb hml hown hts mX5_markOf vX5_markOf kX5_118 hw 17 0 (ci_17 (by decide)) (bi_17 (by decide) hn) rfl rfl (c_X5_markOf hn h) rfl rfl ⟨Nat.le_of_ble_eq_true rfl, Nat.le_of_ble_eq_true rfl⟩ rfl hl.1 rfl (Nat.le_of_ble_eq_true rfl) dX5_daysOf_52 ⟨Nat.zero_le _, Nat.zero_le _⟩) ?_
        clear h hw; intro v18 M17 H locs hw h
        refine g_icmp_lt (tgt := 62) hx hb h dX5_daysOf_55 (by decide) ?_ ?_
        · clear h; intro h
          refine lv_iconst (v := 0) hx hb dX5_daysOf_62 (by decide) ?_
          refine lv_iadd hx hb dX5_daysOf_63 ?_
          refine g_topi h ?_
          clear h; intro v19 h
          refine lv_istore_n (lv' := [(3, .int v19), (0, .ref (o.2.1 17 0)), (1, .int x1), (2, .int x2), (4, .int v3)]) hx hb dX5_daysOf_64 rfl hl (by decide) rfl ?_
          clear hl; clear ls; intro ls hl
          refine g_iinc (k := 4) (v := (v3 + (1 : Int32))) (lv' := fun v20 => [(4, .int v20), (3, .int v19), (0, .ref (o.2.1 17 0)), (1, .int x1), (2, .int x2)]) hx hb dX5_daysOf_65 hl rfl rfl (by decide) (fun _ => rfl) h ?_
          clear h hl; clear ls; intro v20 ls h hl
          refine lv_goto (tgt := 10) hx hb dX5_daysOf_68 (by decide) ?_
          exact hR6 (v19, v20, M17) h _ _ _ hw (lv_sub hl [2, 3, 4, 1, 0] rfl)
        · clear h; intro h
          refine lv_iconst (v := 1) hx hb dX5_daysOf_58 (by decide) ?_
          refine lv_goto (tgt := 63) hx hb dX5_daysOf_59 (by decide) ?_
          refine lv_iadd hx hb dX5_daysOf_63 ?_
          refine g_topi h ?_
          clear h; intro v21 h
          refine lv_istore_n (lv' := [(3, .int v21), (0, .ref (o.2.1 17 0)), (1, .int x1), (2, .int x2), (4, .int v3)]) hx hb dX5_daysOf_64 rfl hl (by decide) rfl ?_
          clear hl; clear ls; intro ls hl
          refine g_iinc (k := 4) (v := (v3 + (1 : Int32))) (lv' := fun v22 => [(4, .int v22), (3, .int v21), (0, .ref (o.2.1 17 0)), (1, .int x1), (2, .int x2)]) hx hb dX5_daysOf_65 hl rfl rfl (by decide) (fun _ => rfl) h ?_
          clear h hl; clear ls; intro v22 ls h hl
          refine lv_goto (tgt := 10) hx hb dX5_daysOf_68 (by decide) ?_
          exact hR6 (v21, v22, M17) h _ _ _ hw (lv_sub hl [2, 3, 4, 1, 0] rfl)
abbrev rm_X5_barsOf : Room := { frames := 0, cells := 0, slots := 0, locals := 0 }
set_option maxHeartbeats 4000000 in
set_option maxRecDepth 100000 in
theorem c_X5_barsOf {o : Om} {l : Launch} (hn : 122 ≤ o.2.2.2) {M : Mm} {x1 : Int32} {Q : Int32 → Mm → Prop} (h : w_X5_barsOf M x1 Q) : CI o l yX5_barsOf cX5_barsOf 4 rm_X5_barsOf [.ref (o.2.1 17 0), .int x1] M Q := by
  refine g_start (by decide +kernel) (Nat.le_of_ble_eq_true rfl) ?_
  intro p e s m args below meth c hx hb hr hlocks hml hown hts hw ls hl
  replace hl : lv_has ls 4 [(0, .ref (o.2.1 17 0)), (1, .int x1)] := hl
  unfold w_X5_barsOf at h
  refine lv_iconst (v := 0) hx hb dX5_barsOf_0 (by decide) ?_
  refine lv_istore_n (lv' := [(2, .int (0 : Int32)), (0, .ref (o.2.1 17 0)), (1, .int x1)]) hx hb dX5_barsOf_1 rfl hl (by decide) rfl ?_
  clear hl; clear ls; intro ls hl
  refine lv_iconst (v := 0) hx hb dX5_barsOf_2 (by decide) ?_
  refine lv_istore_n (lv' := [(3, .int (0 : Int32)), (2, .int (0 : Int32)), (0, .ref (o.2.1 17 0)), (1, .int x1)]) hx hb dX5_barsOf_3 rfl hl (by decide) rfl ?_
  clear hl; clear ls; intro ls hl
  obtain ⟨n, h⟩ := h
  refine letK_W (body := fun K => w_X5_barsOf_L4 x1 K) (fun (x : Int32 × Int32 × Mm) => ∀ (H : Heap) (locs : List Loc) (ls : Array Slot), WO o (WA o) s s.heap H locs x.2.2 → lv_has ls 4 [(2, .int x.1)] → W p l e rm_X5_barsOf s m args below meth c H locs 0 0 (MQ below (QI o Q) args s 0 0 (WA o)) (F0 m 40 ls [])) h ?_ ?_
  · clear h hw hl; clear ls; intro x h H locs ls hw hl
    obtain ⟨v11, v12, M13⟩ := x
    replace hl : lv_has ls 4 [(2, .int v11)] := hl
    dsimp only at h hw
    refine lv_iload_n hx hb dX5_barsOf_40 rfl (lv_at hl 0 rfl) ?_
    exact g_iret hx hb hr hlocks hw h dX5_barsOf_41
  clear h; intro K4 hK4 h
  refine loop_W (body := w_X5_barsOf_L4 x1 K4) (fun (x : Int32 × Int32 × Mm) => ∀ (H : Heap) (locs : List Loc) (ls : Array Slot), WO o (WA o) s s.heap H locs x.2.2 → lv_has ls 4 [(0, .ref (o.2.1 17 0)), (1, .int x1), (2, .int x.1), (3, .int x.2.1)] → W p l e rm_X5_barsOf s m args below meth c H locs 0 0 (MQ below (QI o Q) args s 0 0 (WA o)) (F0 m 4 ls [])) ?_ n _ h _ _ _ hw (lv_sub hl [2, 3, 1, 0] rfl)
  clear h hw hl; clear ls; intro R5 x hR5 h H locs ls hw hl
  obtain ⟨v1, v2, M3⟩ := x
  replace hl : lv_has ls 4 [(0, .ref (o.2.1 17 0)), (1, .int x1), (2, .int v1), (3, .int v2)] := hl
  dsimp only at hw
  unfold w_X5_barsOf_L4 at h
  dsimp only at h
  refine lv_iload_n hx hb dX5_barsOf_4 rfl (lv_at hl 3 rfl) ?_
  refine lv_bipush (v := 7) hx hb dX5_barsOf_5 (by decide) ?_
  refine g_icmp_ge (tgt := 40) hx hb h dX5_barsOf_7 (by decide) ?_ ?_
  · clear h; intro h
    exact hK4 (v1, v2, M3) h _ _ _ hw (lv_sub hl [2] rfl)
  · clear h; intro h
    refine lv_iload_n hx hb dX5_barsOf_10 rfl (lv_at hl 2 rfl) ?_
    refine lv_aload_n hx hb dX5_barsOf_11 rfl (lv_at hl 0 rfl) ?_
    refine g_getf hx hb hts in_X5 hown hw 17 0 (ci_17 (by decide)) (bi_17 (by decide) hn) rfl rfl 4 (by decide) kX5_16 rfl dX5_barsOf_12 ?_
    refine lv_bipush (v := 7) hx hb dX5_barsOf_15 (by decide) ?_
    refine lv_iload_n hx hb dX5_barsOf_17 rfl (lv_at hl 1 rfl) ?_
    refine lv_imul hx hb dX5_barsOf_18 ?_
    refine lv_iload_n hx hb dX5_barsOf_19 rfl (lv_at hl 3 rfl) ?_
    refine lv_iadd hx hb dX5_barsOf_20 ?_
    refine g_iald hx hb hw 20 0 (ci_20 (by decide)) (bi_20 (by decide) hn) rfl h dX5_barsOf_21 ?_
    clear h; intro v6 h
    refine lv_bipush (v := (-9)) hx hb dX5_barsOf_22 (by decide) ?_
    refine g_icmp_ne (tgt := 31) hx hb h dX5_barsOf_24 (by decide) ?_ ?_
    · clear h; intro h
      refine lv_iconst (v := 1) hx hb dX5_barsOf_31 (by decide) ?_
      refine lv_iadd hx hb dX5_barsOf_32 ?_
      refine g_topi h ?_
      clear h; intro v7 h
      refine lv_istore_n (lv' := [(2, .int v7), (0, .ref (o.2.1 17 0)), (1, .int x1), (3, .int v2)]) hx hb dX5_barsOf_33 rfl hl (by decide) rfl ?_
      clear hl; clear ls; intro ls hl
      refine g_iinc (k := 3) (v := (v2 + (1 : Int32))) (lv' := fun v8 => [(3, .int v8), (2, .int v7), (0, .ref (o.2.1 17 0)), (1, .int x1)]) hx hb dX5_barsOf_34 hl rfl rfl (by decide) (fun _ => rfl) h ?_
      clear h hl; clear ls; intro v8 ls h hl
      refine lv_goto (tgt := 4) hx hb dX5_barsOf_37 (by decide) ?_
      exact hR5 (v7, v8, M3) h _ _ _ hw (lv_sub hl [2, 3, 1, 0] rfl)
    · clear h; intro h
      refine lv_iconst (v := 0) hx hb dX5_barsOf_27 (by decide) ?_
      refine lv_goto (tgt := 32) hx hb dX5_barsOf_28 (by decide) ?_
      refine lv_iadd hx hb dX5_barsOf_32 ?_
      refine g_topi h ?_
      clear h; intro v9 h
      refine lv_istore_n (lv' := [(2, .int v9), (0, .ref (o.2.1 17 0)), (1, .int x1), (3, .int v2)]) hx hb dX5_barsOf_33 rfl hl (by decide) rfl ?_
      clear hl; clear ls; intro ls hl
      refine g_iinc (k := 3) (v := (v2 + (1 : Int32))) (lv' := fun v10 => [(3, .int v10), (2, .int v9), (0, .ref (o.2.1 17 0)), (1, .int x1)]) hx hb dX5_barsOf_34 hl rfl rfl (by decide) (fun _ => rfl) h ?_
      clear h hl; clear ls; intro v10 ls h hl
      refine lv_goto (tgt := 4) hx hb dX5_barsOf_37 (by decide) ?_
      exact hR5 (v9, v10, M3) h _ _ _ hw (lv_sub hl [2, 3, 1, 0] rfl)
abbrev rm_X5_entryOf : Room := { frames := 6, cells := 0, slots := 0, locals := 135 }
set_option maxHeartbeats 4000000 in
set_option maxRecDepth 100000 in
theorem c_X5_entryOf {o : Om} {l : Launch} (hn : 122 ≤ o.2.2.2) {M : Mm} {x1 : Int32} {x2 : Int32} {Q : Int32 → Mm → Prop} (h : w_X5_entryOf M x1 x2 Q) : CI o l yX5_entryOf cX5_entryOf 3 rm_X5_entryOf [.ref (o.2.1 17 0), .int x1, .int x2] M Q := by
  refine g_start (by decide +kernel) (Nat.le_of_ble_eq_true rfl) ?_
  intro p e s m args below meth c hx hb hr hlocks hml hown hts hw ls hl
  replace hl : lv_has ls 3 [(0, .ref (o.2.1 17 0)), (1, .int x1), (2, .int x2)] := hl
  unfold w_X5_entryOf at h
  refine lv_iload_n hx hb dX5_entryOf_0 rfl (lv_at hl 2 rfl) ?_
  refine lv_iconst (v := 4) hx hb dX5_entryOf_1 (by decide) ?_
  refine g_icmp_ge (tgt := 18) hx hb h dX5_entryOf_2 (by decide) ?_ ?_
  · clear h; intro h
    refine lv_iload_n hx hb dX5_entryOf_18 rfl (lv_at hl 2 rfl) ?_
    refine lv_iconst (v := 4) hx hb dX5_entryOf_19 (by decide) ?_
    refine g_icmp_ne (tgt := 39) hx hb h dX5_entryOf_20 (by decide) ?_ ?_
    · clear h; intro h
      refine lv_iload_n hx hb dX5_entryOf_39 rfl (lv_at hl 2 rfl) ?_
      refine lv_bipush (v := 7) hx hb dX5_entryOf_40 (by decide) ?_
      refine g_icmp_ne (tgt := 53) hx hb h dX5_entryOf_42 (by decide) ?_ ?_
      · clear h; intro h
        refine lv_aload_n hx hb dX5_entryOf_53 rfl (lv_at hl 0 rfl) ?_
        refine lv_iload_n hx hb dX5_entryOf_54 rfl (lv_at hl 1 rfl) ?_
        refine lv_iload_n hx hb dX5_entryOf_55 rfl (lv_at hl 2 rfl) ?_
        refine lv_bipush (v := 6) hx hb dX5_entryOf_56 (by decide) ?_
        refine letJ_W (fun (x : Int32) => ∀ (H : Heap) (locs : List Loc) (ls : Array Slot), WO o (WA o) s s.heap H locs M → lv_has ls 3 [] → W p l e rm_X5_entryOf s m args below meth c H locs 0 0 (MQ below (QI o Q) args s 0 0 (WA o)) (F0 m 66 ls [.int x, .int x1, .ref (o.2.1 17 0)])) h ?_ ?_
        · clear h hw hl; clear ls; intro x h H locs ls hw hl
          obtain ⟨v1, rfl⟩ : ∃ z, z = x := ⟨_, rfl⟩
          replace hl : lv_has ls 3 [] := hl
          refine g_ci hw (g_runV (As := [.int x1, .int v1]) (rest := []) hx hb hml hown hts mX5_daysOf vX5_daysOf kX5_189 hw 17 0 (ci_17 (by decide)) (bi_17 (by decide) hn) rfl rfl (c_X5_daysOf hn h) rfl rfl ⟨Nat.le_of_ble_eq_true rfl, Nat.le_of_ble_eq_true rfl⟩ rfl hl.1 rfl (Nat.le_of_ble_eq_true rfl) dX5_entryOf_66 ⟨Nat.zero_le _, Nat.zero_le _⟩) ?_
          clear h hw; intro v4 M3 H locs hw h
          exact g_iret hx hb hr hlocks hw h dX5_entryOf_69
        clear h; intro J2 hJ2 h
        refine g_icmp_ne (tgt := 65) hx hb h dX5_entryOf_58 (by decide) ?_ ?_
        · clear h; intro h
          refine lv_iconst (v := 0) hx hb dX5_entryOf_65 (by decide) ?_
          exact hJ2 (0 : Int32) h _ _ _ hw (lv_sub hl [] rfl)
        · clear h; intro h
          refine lv_iconst (v := 1) hx hb dX5_entryOf_61 (by decide) ?_
          refine lv_goto (tgt := 66) hx hb dX5_entryOf_62 (by decide) ?_
          exact hJ2 (1 : Int32) h _ _ _ hw (lv_sub hl [] rfl)
      · clear h; intro h
        refine lv_aload_n hx hb dX5_entryOf_45 rfl (lv_at hl 0 rfl) ?_
        refine lv_iload_n hx hb dX5_entryOf_46 rfl (lv_at hl 1 rfl) ?_
        refine g_ci hw (g_runV (As := [.int x1]) (rest := []) hx hb hml hown hts mX5_barsOf vX5_barsOf kX5_186 hw 17 0 (ci_17 (by decide)) (bi_17 (by decide) hn) rfl rfl (c_X5_barsOf hn h) rfl rfl ⟨Nat.le_of_ble_eq_true rfl, Nat.le_of_ble_eq_true rfl⟩ rfl hl.1 rfl (Nat.le_of_ble_eq_true rfl) dX5_entryOf_47 ⟨Nat.zero_le _, Nat.zero_le _⟩) ?_
        clear h hw; intro v6 M5 H locs hw h
        refine lv_goto (tgt := 69) hx hb dX5_entryOf_50 (by decide) ?_
        exact g_iret hx hb hr hlocks hw h dX5_entryOf_69
    · clear h; intro h
      refine lv_aload_n hx hb dX5_entryOf_23 rfl (lv_at hl 0 rfl) ?_
      refine lv_iload_n hx hb dX5_entryOf_24 rfl (lv_at hl 1 rfl) ?_
      refine g_cz hw (g_runV (As := [.int x1]) (rest := []) hx hb hml hown hts mX5_isLong vX5_isLong kX5_73 hw 17 0 (ci_17 (by decide)) (bi_17 (by decide) hn) rfl rfl (c_X5_isLong hn h) rfl rfl ⟨Nat.le_of_ble_eq_true rfl, Nat.le_of_ble_eq_true rfl⟩ rfl hl.1 rfl (Nat.le_of_ble_eq_true rfl) dX5_entryOf_25 ⟨Nat.zero_le _, Nat.zero_le _⟩) ?_
      clear h hw; intro v8 M7 H locs hw hz_v8 h
      refine g_if_eq (tgt := 35) hx hb h dX5_entryOf_28 (by decide) ?_ ?_
      · clear h; intro h
        refine lv_iconst (v := 0) hx hb dX5_entryOf_35 (by decide) ?_
        refine lv_goto (tgt := 69) hx hb dX5_entryOf_36 (by decide) ?_
        exact g_iret hx hb hr hlocks hw h dX5_entryOf_69
      · clear h; intro h
        refine lv_iconst (v := 1) hx hb dX5_entryOf_31 (by decide) ?_
        refine lv_goto (tgt := 69) hx hb dX5_entryOf_32 (by decide) ?_
        exact g_iret hx hb hr hlocks hw h dX5_entryOf_69
  · clear h; intro h
    refine lv_aload_n hx hb dX5_entryOf_5 rfl (lv_at hl 0 rfl) ?_
    refine g_getf hx hb hts in_X5 hown hw 17 0 (ci_17 (by decide)) (bi_17 (by decide) hn) rfl rfl 0 (by decide) kX5_7 rfl dX5_entryOf_6 ?_
    refine lv_iconst (v := 5) hx hb dX5_entryOf_9 (by decide) ?_
    refine lv_iconst (v := 4) hx hb dX5_entryOf_10 (by decide) ?_
    refine lv_iload_n hx hb dX5_entryOf_11 rfl (lv_at hl 1 rfl) ?_
    refine lv_imul hx hb dX5_entryOf_12 ?_
    refine lv_iadd hx hb dX5_entryOf_13 ?_
    refine lv_iload_n hx hb dX5_entryOf_14 rfl (lv_at hl 2 rfl) ?_
    refine lv_iadd hx hb dX5_entryOf_15 ?_
    refine g_iald hx hb hw 18 0 (ci_18 (by decide)) (bi_18 (by decide) hn) rfl h dX5_entryOf_16 ?_
    clear h; intro v9 h
    exact g_iret hx hb hr hlocks hw h dX5_entryOf_17
abbrev rm_X5_entry : Room := { frames := 7, cells := 0, slots := 0, locals := 157 }
set_option maxHeartbeats 4000000 in
set_option maxRecDepth 100000 in
theorem c_X5_entry {o : Om} {l : Launch} (hn : 122 ≤ o.2.2.2) {M : Mm} {x1 : Int32} {x2 : Int32} {Q : Int32 → Mm → Prop} (h : w_X5_entry M x1 x2 Q) : CI o l yX5_entry cX5_entry 3 rm_X5_entry [.ref (o.2.1 17 0), .int x1, .int x2] M Q := by
  refine g_start (by decide +kernel) (Nat.le_of_ble_eq_true rfl) ?_
  intro p e s m args below meth c hx hb hr hlocks hml hown hts hw ls hl
  replace hl : lv_has ls 3 [(0, .ref (o.2.1 17 0)), (1, .int x1), (2, .int x2)] := hl
  unfold w_X5_entry at h
  refine lv_aload_n hx hb dX5_entry_0 rfl (lv_at hl 0 rfl) ?_
  refine lv_iload_n hx hb dX5_entry_1 rfl (lv_at hl 1 rfl) ?_
  refine g_cz hw (g_runV (As := [.int x1]) (rest := []) hx hb hml hown hts mX5_isEntry vX5_isEntry kX5_180 hw 17 0 (ci_17 (by decide)) (bi_17 (by decide) hn) rfl rfl (c_X5_isEntry hn h) rfl rfl ⟨Nat.le_of_ble_eq_true rfl, Nat.le_of_ble_eq_true rfl⟩ rfl hl.1 rfl (Nat.le_of_ble_eq_true rfl) dX5_entry_2 ⟨Nat.zero_le _, Nat.zero_le _⟩) ?_
  clear h hw; intro v2 M1 H locs hw hz_v2 h
  refine g_if_eq (tgt := 18) hx hb h dX5_entry_5 (by decide) ?_ ?_
  · clear h; intro h
    refine lv_iconst (v := (-1)) hx hb dX5_entry_18 (by decide) ?_
    exact g_iret hx hb hr hlocks hw h dX5_entry_19
  · clear h; intro h
    refine lv_iload_n hx hb dX5_entry_8 rfl (lv_at hl 2 rfl) ?_
    refine lv_iconst (v := 0) hx hb dX5_entry_9 (by decide) ?_
    refine lv_bipush (v := 7) hx hb dX5_entry_10 (by decide) ?_
    refine g_cz hw (g_runS (As := [.int x2, .int (0 : Int32), .int (7 : Int32)]) (rest := []) hx hb hml hown hts mX5_in sX5_in kX5_32 hw (c_X5_in hn h) rfl rfl ⟨Nat.le_of_ble_eq_true rfl, Nat.le_of_ble_eq_true rfl⟩ rfl hl.1 rfl (Nat.le_of_ble_eq_true rfl) dX5_entry_12 ⟨Nat.zero_le _, Nat.zero_le _⟩) ?_
    clear h hw; intro v4 M3 H locs hw hz_v4 h
    refine g_if_ne (tgt := 20) hx hb h dX5_entry_15 (by decide) ?_ ?_
    · clear h; intro h
      refine lv_aload_n hx hb dX5_entry_20 rfl (lv_at hl 0 rfl) ?_
      refine g_cv hw (g_runV (As := []) (rest := []) hx hb hml hown hts mX5_lays vX5_lays kX5_140 hw 17 0 (ci_17 (by decide)) (bi_17 (by decide) hn) rfl rfl (c_X5_lays hn h) rfl rfl ⟨Nat.le_of_ble_eq_true rfl, Nat.le_of_ble_eq_true rfl⟩ rfl hl.1 rfl (Nat.le_of_ble_eq_true rfl) dX5_entry_21 ⟨Nat.zero_le _, Nat.zero_le _⟩) ?_
      clear h hw; intro M5 H locs hw h
      refine lv_aload_n hx hb dX5_entry_24 rfl (lv_at hl 0 rfl) ?_
      refine lv_iload_n hx hb dX5_entry_25 rfl (lv_at hl 1 rfl) ?_
      refine lv_iload_n hx hb dX5_entry_26 rfl (lv_at hl 2 rfl) ?_
      refine g_ci hw (g_runV (As := [.int x1, .int x2]) (rest := []) hx hb hml hown hts mX5_entryOf vX5_entryOf kX5_193 hw 17 0 (ci_17 (by decide)) (bi_17 (by decide) hn) rfl rfl (c_X5_entryOf hn h) rfl rfl ⟨Nat.le_of_ble_eq_true rfl, Nat.le_of_ble_eq_true rfl⟩ rfl hl.1 rfl (Nat.le_of_ble_eq_true rfl) dX5_entry_27 ⟨Nat.zero_le _, Nat.zero_le _⟩) ?_
      clear h hw; intro v7 M6 H locs hw h
      exact g_iret hx hb hr hlocks hw h dX5_entry_30
    · clear h; intro h
      refine lv_iconst (v := (-1)) hx hb dX5_entry_18 (by decide) ?_
      exact g_iret hx hb hr hlocks hw h dX5_entry_19
abbrev rm_X5_barOf : Room := { frames := 2, cells := 0, slots := 0, locals := 45 }
set_option maxHeartbeats 4000000 in
set_option maxRecDepth 100000 in
theorem c_X5_barOf {o : Om} {l : Launch} (hn : 122 ≤ o.2.2.2) {M : Mm} {x1 : Int32} {x2 : Int32} {x3 : Int32} {Q : Int32 → Mm → Prop} (h : w_X5_barOf M x1 x2 x3 Q) : CI o l yX5_barOf cX5_barOf 6 rm_X5_barOf [.ref (o.2.1 17 0), .int x1, .int x2, .int x3] M Q := by
  refine g_start (by decide +kernel) (Nat.le_of_ble_eq_true rfl) ?_
  intro p e s m args below meth c hx hb hr hlocks hml hown hts hw ls hl
  replace hl : lv_has ls 6 [(0, .ref (o.2.1 17 0)), (1, .int x1), (2, .int x2), (3, .int x3)] := hl
  unfold w_X5_barOf at h
  refine lv_aload_n hx hb dX5_barOf_0 rfl (lv_at hl 0 rfl) ?_
  refine lv_iload_n hx hb dX5_barOf_1 rfl (lv_at hl 1 rfl) ?_
  refine g_ci hw (g_runV (As := [.int x1]) (rest := []) hx hb hml hown hts mX5_begins vX5_begins kX5_40 hw 17 0 (ci_17 (by decide)) (bi_17 (by decide) hn) rfl rfl (c_X5_begins hn h) rfl rfl ⟨Nat.le_of_ble_eq_true rfl, Nat.le_of_ble_eq_true rfl⟩ rfl hl.1 rfl (Nat.le_of_ble_eq_true rfl) dX5_barOf_2 ⟨Nat.zero_le _, Nat.zero_le _⟩) ?_
  clear h hw; intro v2 M1 H locs hw h
  refine lv_aload_n hx hb dX5_barOf_5 rfl (lv_at hl 0 rfl) ?_
  refine lv_iload_n hx hb dX5_barOf_6 rfl (lv_at hl 2 rfl) ?_
  refine g_ci hw (g_runV (As := [.int x2]) (rest := [.int v2]) hx hb hml hown hts mX5_weekFirst vX5_weekFirst kX5_105 hw 17 0 (ci_17 (by decide)) (bi_17 (by decide) hn) rfl rfl (c_X5_weekFirst hn h) rfl rfl ⟨Nat.le_of_ble_eq_true rfl, Nat.le_of_ble_eq_true rfl⟩ rfl hl.1 rfl (Nat.le_of_ble_eq_true rfl) dX5_barOf_7 ⟨Nat.zero_le _, Nat.zero_le _⟩) ?_
  clear h hw; intro v4 M3 H locs hw h
  refine letJ_W (fun (x : Int32 × Mm) => ∀ (H : Heap) (locs : List Loc) (ls : Array Slot), WO o (WA o) s s.heap H locs x.2 → lv_has ls 6 [(0, .ref (o.2.1 17 0)), (1, .int x1), (2, .int x2), (3, .int x3)] → W p l e rm_X5_barOf s m args below meth c H locs 0 0 (MQ below (QI o Q) args s 0 0 (WA o)) (F0 m 26 ls [.int x.1])) h ?_ ?_
  · clear h hw hl; clear ls; intro x h H locs ls hw hl
    obtain ⟨v5, M7⟩ := x
    replace hl : lv_has ls 6 [(0, .ref (o.2.1 17 0)), (1, .int x1), (2, .int x2), (3, .int x3)] := hl
    dsimp only at h
    dsimp only at hw
    refine lv_istore (lv' := [(4, .int v5), (0, .ref (o.2.1 17 0)), (1, .int x1), (2, .int x2), (3, .int x3)]) hx hb dX5_barOf_26 hl (by decide) rfl ?_
    clear hl; clear ls; intro ls hl
    refine lv_aload_n hx hb dX5_barOf_28 rfl (lv_at hl 1 rfl) ?_
    refine lv_iload_n hx hb dX5_barOf_29 rfl (lv_at hl 2 rfl) ?_
    refine g_ci hw (g_runV (As := [.int x1]) (rest := []) hx hb hml hown hts mX5_ends vX5_ends kX5_36 hw 17 0 (ci_17 (by decide)) (bi_17 (by decide) hn) rfl rfl (c_X5_ends hn h) rfl rfl ⟨Nat.le_of_ble_eq_true rfl, Nat.le_of_ble_eq_true rfl⟩ rfl hl.1 rfl (Nat.le_of_ble_eq_true rfl) dX5_barOf_30 ⟨Nat.zero_le _, Nat.zero_le _⟩) ?_
    clear h hw; intro v9 M8 H locs hw h
    refine lv_aload_n hx hb dX5_barOf_33 rfl (lv_at hl 1 rfl) ?_
    refine lv_iload_n hx hb dX5_barOf_34 rfl (lv_at hl 3 rfl) ?_
    refine g_ci hw (g_runV (As := [.int x2]) (rest := [.int v9]) hx hb hml hown hts mX5_weekLast vX5_weekLast kX5_124 hw 17 0 (ci_17 (by decide)) (bi_17 (by decide) hn) rfl rfl (c_X5_weekLast hn h) rfl rfl ⟨Nat.le_of_ble_eq_true rfl, Nat.le_of_ble_eq_true rfl⟩ rfl hl.1 rfl (Nat.le_of_ble_eq_true rfl) dX5_barOf_35 ⟨Nat.zero_le _, Nat.zero_le _⟩) ?_
    clear h hw; intro v11 M10 H locs hw h
    refine letJ_W (fun (x : Int32 × Mm) => ∀ (H : Heap) (locs : List Loc) (ls : Array Slot), WO o (WA o) s s.heap H locs x.2 → lv_has ls 6 [(0, .ref (o.2.1 17 0)), (1, .int x1), (2, .int x2), (3, .int x3), (4, .int v5)] → W p l e rm_X5_barOf s m args below meth c H locs 0 0 (MQ below (QI o Q) args s 0 0 (WA o)) (F0 m 54 ls [.int x.1])) h ?_ ?_
    · clear h hw hl; clear ls; intro x h H locs ls hw hl
      obtain ⟨v12, M14⟩ := x
      replace hl : lv_has ls 6 [(0, .ref (o.2.1 17 0)), (1, .int x1), (2, .int x2), (3, .int x3), (4, .int v5)] := hl
      dsimp only at h
      dsimp only at hw
      refine lv_istore (lv' := [(5, .int v12), (0, .ref (o.2.1 17 0)), (1, .int x1), (2, .int x2), (3, .int x3), (4, .int v5)]) hx hb dX5_barOf_54 hl (by decide) rfl ?_
      clear hl; clear ls; intro ls hl
      refine lv_iload_n hx hb dX5_barOf_56 rfl (lv_at hl 4 rfl) ?_
      by_cases c0 : x3 = (0 : Int32)
      · rw [if_pos c0] at h
        refine lv_tableIn (tgt := 88) hx hb dX5_barOf_57 (by rw [c0]; decide) (by rw [c0]; decide) (by rw [c0]; rfl) (by decide) ?_
        clear c0
        refine lv_aload_n hx hb dX5_barOf_88 rfl (lv_at hl 1 rfl) ?_
        refine g_getf hx hb hts in_X5 hown hw 17 0 (ci_17 (by decide)) (bi_17 (by decide) hn) rfl rfl 4 (by decide) kX5_16 rfl dX5_barOf_89 ?_
        refine lv_bipush (v := 7) hx hb dX5_barOf_92 (by decide) ?_
        refine lv_iload_n hx hb dX5_barOf_94 rfl (lv_at hl 2 rfl) ?_
        refine lv_imul hx hb dX5_barOf_95 ?_
        refine lv_iload_n hx hb dX5_barOf_96 rfl (lv_at hl 3 rfl) ?_
        refine lv_iadd hx hb dX5_barOf_97 ?_
        refine g_iald hx hb hw 20 0 (ci_20 (by decide)) (bi_20 (by decide) hn) rfl h dX5_barOf_98 ?_
        clear h; intro v15 h
        exact g_iret hx hb hr hlocks hw h dX5_barOf_99
      rw [if_neg c0] at h
      by_cases c1 : x3 = (1 : Int32)
      · rw [if_pos c1] at h
        refine lv_tableIn (tgt := 100) hx hb dX5_barOf_57 (by rw [c1]; decide) (by rw [c1]; decide) (by rw [c1]; rfl) (by decide) ?_
        clear c1
        refine lv_iload hx hb dX5_barOf_100 (lv_at hl 5 rfl) ?_
        exact g_iret hx hb hr hlocks hw h dX5_barOf_102
      rw [if_neg c1] at h
      by_cases c2 : x3 = (2 : Int32)
      · rw [if_pos c2] at h
        refine lv_tableIn (tgt := 103) hx hb dX5_barOf_57 (by rw [c2]; decide) (by rw [c2]; decide) (by rw [c2]; rfl) (by decide) ?_
        clear c2
        refine lv_iload hx hb dX5_barOf_103 (lv_at hl 0 rfl) ?_
        exact g_iret hx hb hr hlocks hw h dX5_barOf_105
      rw [if_neg c2] at h
      by_cases c3 : x3 = (3 : Int32)
      · rw [if_pos c3] at h
        refine lv_tableIn (tgt := 106) hx hb dX5_barOf_57 (by rw [c3]; decide) (by rw [c3]; decide) (by rw [c3]; rfl) (by decide) ?_
        clear c3
        refine lv_aload_n hx hb dX5_barOf_106 rfl (lv_at hl 1 rfl) ?_
        refine lv_iload_n hx hb dX5_barOf_107 rfl (lv_at hl 2 rfl) ?_
        refine g_ci hw (g_runV (As := [.int x1]) (rest := []) hx hb hml hown hts mX5_begins vX5_begins kX5_40 hw 17 0 (ci_17 (by decide)) (bi_17 (by decide) hn) rfl rfl (c_X5_begins hn h) rfl rfl ⟨Nat.le_of_ble_eq_true rfl, Nat.le_of_ble_eq_true rfl⟩ rfl hl.1 rfl (Nat.le_of_ble_eq_true rfl) dX5_barOf_108 ⟨Nat.zero_le _, Nat.zero_le _⟩) ?_
        clear h hw; intro v17 M16 H locs hw h
        refine lv_iload hx hb dX5_barOf_111 (lv_at hl 5 rfl) ?_
        refine g_icmp_ge (tgt := 120) hx hb h dX5_barOf_113 (by decide) ?_ ?_
        · clear h; intro h
          refine lv_iconst (v := 0) hx hb dX5_barOf_120 (by decide) ?_
          exact g_iret hx hb hr hlocks hw h dX5_barOf_121
        · clear h; intro h
          refine lv_iconst (v := 1) hx hb dX5_barOf_116 (by decide) ?_
          refine lv_goto (tgt := 121) hx hb dX5_barOf_117 (by decide) ?_
          exact g_iret hx hb hr hlocks hw h dX5_barOf_121
      rw [if_neg c3] at h
      refine lv_tableOut (tgt := 122) hx hb dX5_barOf_57 (tbl_out (fun k h1 => by rcases (show k = 0 ∨ k = 1 ∨ k = 2 ∨ k = 3 by omega) with rfl | rfl | rfl | rfl <;> assumption)) (by decide) ?_
      clear c0 c1 c2 c3
      refine lv_aload_n hx hb dX5_barOf_122 rfl (lv_at hl 1 rfl) ?_
      refine lv_iload_n hx hb dX5_barOf_123 rfl (lv_at hl 2 rfl) ?_
      refine g_ci hw (g_runV (As := [.int x1]) (rest := []) hx hb hml hown hts mX5_ends vX5_ends kX5_36 hw 17 0 (ci_17 (by decide)) (bi_17 (by decide) hn) rfl rfl (c_X5_ends hn h) rfl rfl ⟨Nat.le_of_ble_eq_true rfl, Nat.le_of_ble_eq_true rfl⟩ rfl hl.1 rfl (Nat.le_of_ble_eq_true rfl) dX5_barOf_124 ⟨Nat.zero_le _, Nat.zero_le _⟩) ?_
      clear h hw; intro v19 M18 H locs hw h
      refine lv_iload hx hb dX5_barOf_127 (lv_at hl 0 rfl) ?_
      refine g_icmp_le (tgt := 136) hx hb h dX5_barOf_129 (by decide) ?_ ?_
      · clear h; intro h
        refine lv_iconst (v := 0) hx hb dX5_barOf_136 (by decide) ?_
        exact g_iret hx hb hr hlocks hw h dX5_barOf_137
      · clear h; intro h
        refine lv_iconst (v := 1) hx hb dX5_barOf_132 (by decide) ?_
        refine lv_goto (tgt := 137) hx hb dX5_barOf_133 (by decide) ?_
        exact g_iret hx hb hr hlocks hw h dX5_barOf_137
    clear h; intro J13 hJ13 h
    refine g_icmp_ge (tgt := 49) hx hb h dX5_barOf_38 (by decide) ?_ ?_
    · clear h; intro h
      refine lv_aload_n hx hb dX5_barOf_49 rfl (lv_at hl 1 rfl) ?_
      refine lv_iload_n hx hb dX5_barOf_50 rfl (lv_at hl 3 rfl) ?_
      refine g_ci hw (g_runV (As := [.int x2]) (rest := []) hx hb hml hown hts mX5_weekLast vX5_weekLast kX5_124 hw 17 0 (ci_17 (by decide)) (bi_17 (by decide) hn) rfl rfl (c_X5_weekLast hn h) rfl rfl ⟨Nat.le_of_ble_eq_true rfl, Nat.le_of_ble_eq_true rfl⟩ rfl hl.1 rfl (Nat.le_of_ble_eq_true rfl) dX5_barOf_51 ⟨Nat.zero_le _, Nat.zero_le _⟩) ?_
      clear h hw; intro v21 M20 H locs hw h
      exact hJ13 (v21, M20) h _ _ _ hw (lv_sub hl [1, 2, 3, 4, 0] rfl)
    · clear h; intro h
      refine lv_aload_n hx hb dX5_barOf_41 rfl (lv_at hl 1 rfl) ?_
      refine lv_iload_n hx hb dX5_barOf_42 rfl (lv_at hl 2 rfl) ?_
      refine g_ci hw (g_runV (As := [.int x1]) (rest := []) hx hb hml hown hts mX5_ends vX5_ends kX5_36 hw 17 0 (ci_17 (by decide)) (bi_17 (by decide) hn) rfl rfl (c_X5_ends hn h) rfl rfl ⟨Nat.le_of_ble_eq_true rfl, Nat.le_of_ble_eq_true rfl⟩ rfl hl.1 rfl (Nat.le_of_ble_eq_true rfl) dX5_barOf_43 ⟨Nat.zero_le _, Nat.zero_le _⟩) ?_
      clear h hw; intro v23 M22 H locs hw h
      refine lv_goto (tgt := 54) hx hb dX5_barOf_46 (by decide) ?_
      exact hJ13 (v23, M22) h _ _ _ hw (lv_sub hl [1, 2, 3, 4, 0] rfl)
  clear h; intro J6 hJ6 h
  refine g_icmp_le (tgt := 21) hx hb h dX5_barOf_10 (by decide) ?_ ?_
  · clear h; intro h
    refine lv_aload_n hx hb dX5_barOf_21 rfl (lv_at hl 0 rfl) ?_
    refine lv_iload_n hx hb dX5_barOf_22 rfl (lv_at hl 2 rfl) ?_
    refine g_ci hw (g_runV (As := [.int x2]) (rest := []) hx hb hml hown hts mX5_weekFirst vX5_weekFirst kX5_105 hw 17 0 (ci_17 (by decide)) (bi_17 (by decide) hn) rfl rfl (c_X5_weekFirst hn h) rfl rfl ⟨Nat.le_of_ble_eq_true rfl, Nat.le_of_ble_eq_true rfl⟩ rfl hl.1 rfl (Nat.le_of_ble_eq_true rfl) dX5_barOf_23 ⟨Nat.zero_le _, Nat.zero_le _⟩) ?_
    clear h hw; intro v25 M24 H locs hw h
    exact hJ6 (v25, M24) h _ _ _ hw (lv_sub hl [0, 1, 2, 3] rfl)
  · clear h; intro h
    refine lv_aload_n hx hb dX5_barOf_13 rfl (lv_at hl 0 rfl) ?_
    refine lv_iload_n hx hb dX5_barOf_14 rfl (lv_at hl 1 rfl) ?_
    refine g_ci hw (g_runV (As := [.int x1]) (rest := []) hx hb hml hown hts mX5_begins vX5_begins kX5_40 hw 17 0 (ci_17 (by decide)) (bi_17 (by decide) hn) rfl rfl (c_X5_begins hn h) rfl rfl ⟨Nat.le_of_ble_eq_true rfl, Nat.le_of_ble_eq_true rfl⟩ rfl hl.1 rfl (Nat.le_of_ble_eq_true rfl) dX5_barOf_15 ⟨Nat.zero_le _, Nat.zero_le _⟩) ?_
    clear h hw; intro v27 M26 H locs hw h
    refine lv_goto (tgt := 26) hx hb dX5_barOf_18 (by decide) ?_
    exact hJ6 (v27, M26) h _ _ _ hw (lv_sub hl [0, 1, 2, 3] rfl)
abbrev rm_X5_hasBar : Room := { frames := 2, cells := 0, slots := 0, locals := 43 }
set_option maxHeartbeats 4000000 in
set_option maxRecDepth 100000 in
theorem c_X5_hasBar {o : Om} {l : Launch} (hn : 122 ≤ o.2.2.2) {M : Mm} {x1 : Int32} {x2 : Int32} {Q : Int32 → Mm → Prop} (h : w_X5_hasBar M x1 x2 Q) : CZ o l yX5_hasBar cX5_hasBar 3 rm_X5_hasBar [.ref (o.2.1 17 0), .int x1, .int x2] M Q := by
  refine g_start (by decide +kernel) (Nat.le_of_ble_eq_true rfl) ?_
  intro p e s m args below meth c hx hb hr hlocks hml hown hts hw ls hl
  replace hl : lv_has ls 3 [(0, .ref (o.2.1 17 0)), (1, .int x1), (2, .int x2)] := hl
  unfold w_X5_hasBar at h
  refine lv_iload_n hx hb dX5_hasBar_0 rfl (lv_at hl 2 rfl) ?_
  refine lv_aload_n hx hb dX5_hasBar_1 rfl (lv_at hl 0 rfl) ?_
  refine g_ci hw (g_runV (As := []) (rest := [.int x2]) hx hb hml hown hts mX5_weeks vX5_weeks kX5_56 hw 17 0 (ci_17 (by decide)) (bi_17 (by decide) hn) rfl rfl (c_X5_weeks hn h) rfl rfl ⟨Nat.le_of_ble_eq_true rfl, Nat.le_of_ble_eq_true rfl⟩ rfl hl.1 rfl (Nat.le_of_ble_eq_true rfl) dX5_hasBar_2 ⟨Nat.zero_le _, Nat.zero_le _⟩) ?_
  clear h hw; intro v2 M1 H locs hw h
  refine g_icmp_ge (tgt := 28) hx hb h dX5_hasBar_5 (by decide) ?_ ?_
  · clear h; intro h
    refine lv_iconst (v := 0) hx hb dX5_hasBar_28 (by decide) ?_
    exact g_zret hx hb hr hlocks hw (Or.inl rfl) h dX5_hasBar_29
  · clear h; intro h
    refine lv_aload_n hx hb dX5_hasBar_8 rfl (lv_at hl 0 rfl) ?_
    refine g_getf hx hb hts in_X5 hown hw 17 0 (ci_17 (by decide)) (bi_17 (by decide) hn) rfl rfl 4 (by decide) kX5_16 rfl dX5_hasBar_9 ?_
    refine lv_bipush (v := 7) hx hb dX5_hasBar_12 (by decide) ?_
    refine lv_iload_n hx hb dX5_hasBar_14 rfl (lv_at hl 1 rfl) ?_
    refine lv_imul hx hb dX5_hasBar_15 ?_
    refine lv_iload_n hx hb dX5_hasBar_16 rfl (lv_at hl 2 rfl) ?_
    refine lv_iadd hx hb dX5_hasBar_17 ?_
    refine g_iald hx hb hw 20 0 (ci_20 (by decide)) (bi_20 (by decide) hn) rfl h dX5_hasBar_18 ?_
    clear h; intro v3 h
    refine lv_bipush (v := (-9)) hx hb dX5_hasBar_19 (by decide) ?_
    refine g_icmp_eq (tgt := 28) hx hb h dX5_hasBar_21 (by decide) ?_ ?_
    · clear h; intro h
      refine lv_iconst (v := 0) hx hb dX5_hasBar_28 (by decide) ?_
      exact g_zret hx hb hr hlocks hw (Or.inl rfl) h dX5_hasBar_29
    · clear h; intro h
      refine lv_iconst (v := 1) hx hb dX5_hasBar_24 (by decide) ?_
      refine lv_goto (tgt := 29) hx hb dX5_hasBar_25 (by decide) ?_
      exact g_zret hx hb hr hlocks hw (Or.inr rfl) h dX5_hasBar_29
abbrev rm_X5_bar : Room := { frames := 6, cells := 0, slots := 0, locals := 143 }
set_option maxHeartbeats 4000000 in
set_option maxRecDepth 100000 in
theorem c_X5_bar {o : Om} {l : Launch} (hn : 122 ≤ o.2.2.2) {M : Mm} {x1 : Int32} {x2 : Int32} {x3 : Int32} {Q : Int32 → Mm → Prop} (h : w_X5_bar M x1 x2 x3 Q) : CI o l yX5_bar cX5_bar 4 rm_X5_bar [.ref (o.2.1 17 0), .int x1, .int x2, .int x3] M Q := by
  refine g_start (by decide +kernel) (Nat.le_of_ble_eq_true rfl) ?_
  intro p e s m args below meth c hx hb hr hlocks hml hown hts hw ls hl
  replace hl : lv_has ls 4 [(0, .ref (o.2.1 17 0)), (1, .int x1), (2, .int x2), (3, .int x3)] := hl
  unfold w_X5_bar at h
  refine lv_aload_n hx hb dX5_bar_0 rfl (lv_at hl 0 rfl) ?_
  refine lv_iload_n hx hb dX5_bar_1 rfl (lv_at hl 1 rfl) ?_
  refine g_cz hw (g_runV (As := [.int x1]) (rest := []) hx hb hml hown hts mX5_isEntry vX5_isEntry kX5_180 hw 17 0 (ci_17 (by decide)) (bi_17 (by decide) hn) rfl rfl (c_X5_isEntry hn h) rfl rfl ⟨Nat.le_of_ble_eq_true rfl, Nat.le_of_ble_eq_true rfl⟩ rfl hl.1 rfl (Nat.le_of_ble_eq_true rfl) dX5_bar_2 ⟨Nat.zero_le _, Nat.zero_le _⟩) ?_
  clear h hw; intro v2 M1 H locs hw hz_v2 h
  refine g_if_eq (tgt := 21) hx hb h dX5_bar_5 (by decide) ?_ ?_
  · clear h; intro h
    refine lv_iconst (v := (-1)) hx hb dX5_bar_21 (by decide) ?_
    exact g_iret hx hb hr hlocks hw h dX5_bar_22
  · clear h; intro h
    refine lv_iload_n hx hb dX5_bar_8 rfl (lv_at hl 2 rfl) ?_
    refine g_if_lt (tgt := 21) hx hb h dX5_bar_9 (by decide) ?_ ?_
    · clear h; intro h
      refine lv_iconst (v := (-1)) hx hb dX5_bar_21 (by decide) ?_
      exact g_iret hx hb hr hlocks hw h dX5_bar_22
    · clear h; intro h
      refine lv_iload_n hx hb dX5_bar_12 rfl (lv_at hl 3 rfl) ?_
      refine lv_iconst (v := 0) hx hb dX5_bar_13 (by decide) ?_
      refine lv_iconst (v := 4) hx hb dX5_bar_14 (by decide) ?_
      refine g_cz hw (g_runS (As := [.int x3, .int (0 : Int32), .int (4 : Int32)]) (rest := []) hx hb hml hown hts mX5_in sX5_in kX5_32 hw (c_X5_in hn h) rfl rfl ⟨Nat.le_of_ble_eq_true rfl, Nat.le_of_ble_eq_true rfl⟩ rfl hl.1 rfl (Nat.le_of_ble_eq_true rfl) dX5_bar_15 ⟨Nat.zero_le _, Nat.zero_le _⟩) ?_
      clear h hw; intro v4 M3 H locs hw hz_v4 h
      refine g_if_ne (tgt := 23) hx hb h dX5_bar_18 (by decide) ?_ ?_
      · clear h; intro h
        refine lv_aload_n hx hb dX5_bar_23 rfl (lv_at hl 0 rfl) ?_
        refine g_cv hw (g_runV (As := []) (rest := []) hx hb hml hown hts mX5_lays vX5_lays kX5_140 hw 17 0 (ci_17 (by decide)) (bi_17 (by decide) hn) rfl rfl (c_X5_lays hn h) rfl rfl ⟨Nat.le_of_ble_eq_true rfl, Nat.le_of_ble_eq_true rfl⟩ rfl hl.1 rfl (Nat.le_of_ble_eq_true rfl) dX5_bar_24 ⟨Nat.zero_le _, Nat.zero_le _⟩) ?_
        clear h hw; intro M5 H locs hw h
        refine lv_aload_n hx hb dX5_bar_27 rfl (lv_at hl 0 rfl) ?_
        refine lv_iload_n hx hb dX5_bar_28 rfl (lv_at hl 1 rfl) ?_
        refine lv_iload_n hx hb dX5_bar_29 rfl (lv_at hl 2 rfl) ?_
        refine g_cz hw (g_runV (As := [.int x1, .int x2]) (rest := []) hx hb hml hown hts mX5_hasBar vX5_hasBar kX5_196 hw 17 0 (ci_17 (by decide)) (bi_17 (by decide) hn) rfl rfl (c_X5_hasBar hn h) rfl rfl ⟨Nat.le_of_ble_eq_true rfl, Nat.le_of_ble_eq_true rfl⟩ rfl hl.1 rfl (Nat.le_of_ble_eq_true rfl) dX5_bar_30 ⟨Nat.zero_le _, Nat.zero_le _⟩) ?_
        clear h hw; intro v7 M6 H locs hw hz_v7 h
        refine g_if_eq (tgt := 46) hx hb h dX5_bar_33 (by decide) ?_ ?_
        · clear h; intro h
          refine lv_bipush (v := (-9)) hx hb dX5_bar_46 (by decide) ?_
          exact g_iret hx hb hr hlocks hw h dX5_bar_48
        · clear h; intro h
          refine lv_aload_n hx hb dX5_bar_36 rfl (lv_at hl 0 rfl) ?_
          refine lv_iload_n hx hb dX5_bar_37 rfl (lv_at hl 1 rfl) ?_
          refine lv_iload_n hx hb dX5_bar_38 rfl (lv_at hl 2 rfl) ?_
          refine lv_iload_n hx hb dX5_bar_39 rfl (lv_at hl 3 rfl) ?_
          refine g_ci hw (g_runV (As := [.int x1, .int x2, .int x3]) (rest := []) hx hb hml hown hts mX5_barOf vX5_barOf kX5_199 hw 17 0 (ci_17 (by decide)) (bi_17 (by decide) hn) rfl rfl (c_X5_barOf hn h) rfl rfl ⟨Nat.le_of_ble_eq_true rfl, Nat.le_of_ble_eq_true rfl⟩ rfl hl.1 rfl (Nat.le_of_ble_eq_true rfl) dX5_bar_40 ⟨Nat.zero_le _, Nat.zero_le _⟩) ?_
          clear h hw; intro v9 M8 H locs hw h
          refine lv_goto (tgt := 48) hx hb dX5_bar_43 (by decide) ?_
          exact g_iret hx hb hr hlocks hw h dX5_bar_48
      · clear h; intro h
        refine lv_iconst (v := (-1)) hx hb dX5_bar_21 (by decide) ?_
        exact g_iret hx hb hr hlocks hw h dX5_bar_22
