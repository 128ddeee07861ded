abbrev rm_X5_shownAt : Room := { frames := 6, cells := 0, slots := 0, locals := 136 }
set_option maxHeartbeats 4000000 in
set_option maxRecDepth 100000 in
theorem c_X5_shownAt {o : Om} {l : Launch} (hn : 122 ≤ o.2.2.2) {M : Mm} {x1 : Int32} {x2 : Int32} {Q : Int32 → Mm → Prop} (h : w_X5_shownAt M x1 x2 Q) : CI o l yX5_shownAt cX5_shownAt 5 rm_X5_shownAt [.ref (o.2.1 17 0), .int x1, .int x2] M Q := by
  refine g_start (by decide +kernel) (Nat.le_of_ble_eq_true rfl) ?_
  intro p e s m args below meth c hx hb hr hlocks hml hown hts hw ls hl
  replace hl : lv_has ls 5 [(0, .ref (o.2.1 17 0)), (1, .int x1), (2, .int x2)] := hl
  unfold w_X5_shownAt at h
  refine lv_aload_n hx hb dX5_shownAt_0 rfl (lv_at hl 0 rfl) ?_
  refine lv_iload_n hx hb dX5_shownAt_1 rfl (lv_at hl 1 rfl) ?_
  refine g_ci hw (g_runV (As := [.int x1]) (rest := []) hx hb hml hown hts mX5_needed vX5_needed kX5_115 hw 17 0 (ci_17 (by decide)) (bi_17 (by decide) hn) rfl rfl (c_X5_needed hn h) rfl rfl ⟨Nat.le_of_ble_eq_true rfl, Nat.le_of_ble_eq_true rfl⟩ rfl hl.1 rfl (Nat.le_of_ble_eq_true rfl) dX5_shownAt_2 ⟨Nat.zero_le _, Nat.zero_le _⟩) ?_
  clear h hw; intro v2 M1 H locs hw h
  refine lv_istore_n (lv' := [(3, .int v2), (0, .ref (o.2.1 17 0)), (1, .int x1), (2, .int x2)]) hx hb dX5_shownAt_5 rfl hl (by decide) rfl ?_
  clear hl; clear ls; intro ls hl
  refine lv_iload_n hx hb dX5_shownAt_6 rfl (lv_at hl 3 rfl) ?_
  refine lv_aload_n hx hb dX5_shownAt_7 rfl (lv_at hl 1 rfl) ?_
  refine g_getf hx hb hts in_X5 hown hw 17 0 (ci_17 (by decide)) (bi_17 (by decide) hn) rfl rfl 0 (by decide) kX5_7 rfl dX5_shownAt_8 ?_
  refine lv_iconst (v := 3) hx hb dX5_shownAt_11 (by decide) ?_
  refine g_iald hx hb hw 18 0 (ci_18 (by decide)) (bi_18 (by decide) hn) rfl h dX5_shownAt_12 ?_
  clear h; intro v3 h
  refine letJ_W (fun (x : Unit) => ∀ (H : Heap) (locs : List Loc) (ls : Array Slot), WO o (WA o) s s.heap H locs M1 → lv_has ls 5 [(0, .ref (o.2.1 17 0)), (1, .int x1), (2, .int x2)] → W p l e rm_X5_shownAt s m args below meth c H locs 0 0 (MQ below (QI o Q) args s 0 0 (WA o)) (F0 m 38 ls [])) h ?_ ?_
  · clear h hw hl; clear ls; intro x h H locs ls hw hl
    replace hl : lv_has ls 5 [(0, .ref (o.2.1 17 0)), (1, .int x1), (2, .int x2)] := hl
    refine lv_iload_n hx hb dX5_shownAt_38 rfl (lv_at hl 2 rfl) ?_
    refine lv_aload_n hx hb dX5_shownAt_39 rfl (lv_at hl 0 rfl) ?_
    refine g_getf hx hb hts in_X5 hown hw 17 0 (ci_17 (by decide)) (bi_17 (by decide) hn) rfl rfl 0 (by decide) kX5_7 rfl dX5_shownAt_40 ?_
    refine lv_iconst (v := 3) hx hb dX5_shownAt_43 (by decide) ?_
    refine g_iald hx hb hw 18 0 (ci_18 (by decide)) (bi_18 (by decide) hn) rfl h dX5_shownAt_44 ?_
    clear h; intro v5 h
    refine g_icmp_lt (tgt := 53) hx hb h dX5_shownAt_45 (by decide) ?_ ?_
    · clear h; intro h
      refine lv_bipush (v := (-10)) hx hb dX5_shownAt_53 (by decide) ?_
      refine lv_aload_n hx hb dX5_shownAt_55 rfl (lv_at hl 0 rfl) ?_
      refine lv_iload_n hx hb dX5_shownAt_56 rfl (lv_at hl 1 rfl) ?_
      refine lv_aload_n hx hb dX5_shownAt_57 rfl (lv_at hl 0 rfl) ?_
      refine g_getf hx hb hts in_X5 hown hw 17 0 (ci_17 (by decide)) (bi_17 (by decide) hn) rfl rfl 0 (by decide) kX5_7 rfl dX5_shownAt_58 ?_
      refine lv_iconst (v := 3) hx hb dX5_shownAt_61 (by decide) ?_
      refine g_iald hx hb hw 18 0 (ci_18 (by decide)) (bi_18 (by decide) hn) rfl h dX5_shownAt_62 ?_
      clear h; intro v6 h
      refine g_ci hw (g_runV (As := [.int x1, .int v6]) (rest := [.int (-10 : Int32)]) hx hb hml hown hts mX5_hiddenOn vX5_hiddenOn kX5_121 hw 17 0 (ci_17 (by decide)) (bi_17 (by decide) hn) rfl rfl (c_X5_hiddenOn hn h) rfl rfl ⟨Nat.le_of_ble_eq_true rfl, Nat.le_of_ble_eq_true rfl⟩ rfl hl.1 rfl (Nat.le_of_ble_eq_true rfl) dX5_shownAt_63 ⟨Nat.zero_le _, Nat.zero_le _⟩) ?_
      clear h hw; intro v8 M7 H locs hw h
      refine lv_isub hx hb dX5_shownAt_66 ?_
      exact g_iret hx hb hr hlocks hw h dX5_shownAt_67
    · clear h; intro h
      refine lv_bipush (v := (-9)) hx hb dX5_shownAt_48 (by decide) ?_
      refine lv_goto (tgt := 67) hx hb dX5_shownAt_50 (by decide) ?_
      exact g_iret hx hb hr hlocks hw h dX5_shownAt_67
  clear h; intro J4 hJ4 h
  refine g_icmp_ge (tgt := 38) hx hb h dX5_shownAt_13 (by decide) ?_ ?_
  · clear h; intro h
    exact hJ4 () h _ _ _ hw (lv_sub hl [1, 2, 3] rfl)
  · clear h; intro h
    refine lv_iload_n hx hb dX5_shownAt_16 rfl (lv_at hl 0 rfl) ?_
    refine lv_aload_n hx hb dX5_shownAt_17 rfl (lv_at hl 1 rfl) ?_
    refine g_getf hx hb hts in_X5 hown hw 17 0 (ci_17 (by decide)) (bi_17 (by decide) hn) rfl rfl 0 (by decide) kX5_7 rfl dX5_shownAt_18 ?_
    refine lv_iconst (v := 3) hx hb dX5_shownAt_21 (by decide) ?_
    refine g_iald hx hb hw 18 0 (ci_18 (by decide)) (bi_18 (by decide) hn) rfl h dX5_shownAt_22 ?_
    clear h; intro v9 h
    refine letJ_W (fun (x : Unit) => ∀ (H : Heap) (locs : List Loc) (ls : Array Slot), WO o (WA o) s s.heap H locs M1 → lv_has ls 5 [(0, .ref (o.2.1 17 0)), (1, .int x1), (2, .int x2)] → W p l e rm_X5_shownAt s m args below meth c H locs 0 0 (MQ below (QI o Q) args s 0 0 (WA o)) (F0 m 68 ls [])) h ?_ ?_
    · clear h hw hl; clear ls; intro x h H locs ls hw hl
      replace hl : lv_has ls 5 [(0, .ref (o.2.1 17 0)), (1, .int x1), (2, .int x2)] := hl
      refine lv_iconst (v := 0) hx hb dX5_shownAt_68 (by decide) ?_
      refine lv_istore (lv' := [(4, .int (0 : Int32)), (0, .ref (o.2.1 17 0)), (1, .int x1), (2, .int x2)]) hx hb dX5_shownAt_69 hl (by decide) rfl ?_
      clear hl; clear ls; intro ls hl
      obtain ⟨n, h⟩ := h
      refine letK_W (body := fun K => w_X5_shownAt_L71 x1 x2 Q K) (fun (x : Int32 × Mm) => ∀ (H : Heap) (locs : List Loc) (ls : Array Slot), WO o (WA o) s s.heap H locs x.2 → lv_has ls 5 [] → W p l e rm_X5_shownAt s m args below meth c H locs 0 0 (MQ below (QI o Q) args s 0 0 (WA o)) (F0 m 112 ls [])) h ?_ ?_
      · clear h hw hl; clear ls; intro x h H locs ls hw hl
        obtain ⟨v22, M23⟩ := x
        replace hl : lv_has ls 5 [] := hl
        dsimp only at h hw
        refine lv_bipush (v := (-9)) hx hb dX5_shownAt_112 (by decide) ?_
        exact g_iret hx hb hr hlocks hw h dX5_shownAt_114
      clear h; intro K13 hK13 h
      refine loop_W (body := w_X5_shownAt_L71 x1 x2 Q K13) (fun (x : Int32 × Mm) => ∀ (H : Heap) (locs : List Loc) (ls : Array Slot), WO o (WA o) s s.heap H locs x.2 → lv_has ls 5 [(0, .ref (o.2.1 17 0)), (1, .int x1), (2, .int x2), (4, .int x.1)] → W p l e rm_X5_shownAt s m args below meth c H locs 0 0 (MQ below (QI o Q) args s 0 0 (WA o)) (F0 m 71 ls [])) ?_ n _ h _ _ _ hw (lv_sub hl [1, 2, 3, 0] rfl)
      clear h hw hl; clear ls; intro R14 x hR14 h H locs ls hw hl
      obtain ⟨v11, M12⟩ := x
      replace hl : lv_has ls 5 [(0, .ref (o.2.1 17 0)), (1, .int x1), (2, .int x2), (4, .int v11)] := hl
      dsimp only at hw
      unfold w_X5_shownAt_L71 at h
      dsimp only at h
      refine lv_iload hx hb dX5_shownAt_71 (lv_at hl 3 rfl) ?_
      refine lv_aload_n hx hb dX5_shownAt_73 rfl (lv_at hl 0 rfl) ?_
      refine g_getf hx hb hts in_X5 hown hw 17 0 (ci_17 (by decide)) (bi_17 (by decide) hn) rfl rfl 0 (by decide) kX5_7 rfl dX5_shownAt_74 ?_
      refine lv_iconst (v := 4) hx hb dX5_shownAt_77 (by decide) ?_
      refine g_iald hx hb hw 18 0 (ci_18 (by decide)) (bi_18 (by decide) hn) rfl h dX5_shownAt_78 ?_
      clear h; intro v15 h
      refine g_icmp_ge (tgt := 112) hx hb h dX5_shownAt_79 (by decide) ?_ ?_
      · clear h; intro h
        exact hK13 (v11, M12) h _ _ _ hw (lv_sub hl [] rfl)
      · clear h; intro h
        refine lv_aload_n hx hb dX5_shownAt_82 rfl (lv_at hl 0 rfl) ?_
        refine lv_iload hx hb dX5_shownAt_83 (lv_at hl 3 rfl) ?_
        refine lv_iload_n hx hb dX5_shownAt_85 rfl (lv_at hl 1 rfl) ?_
        refine g_cz hw (g_runV (As := [.int v11, .int x1]) (rest := []) hx hb hml hown hts mX5_isOn vX5_isOn kX5_86 hw 17 0 (ci_17 (by decide)) (bi_17 (by decide) hn) rfl rfl (c_X5_isOn hn h) rfl rfl ⟨Nat.le_of_ble_eq_true rfl, Nat.le_of_ble_eq_true rfl⟩ rfl hl.1 rfl (Nat.le_of_ble_eq_true rfl) dX5_shownAt_86 ⟨Nat.zero_le _, Nat.zero_le _⟩) ?_
        clear h hw; intro v17 M16 H locs hw hz_v17 h
        refine g_if_eq (tgt := 106) hx hb h dX5_shownAt_89 (by decide) ?_ ?_
        · clear h; intro h
          refine g_iinc (k := 3) (v := (v11 + (1 : Int32))) (lv' := fun v18 => [(4, .int v18), (0, .ref (o.2.1 17 0)), (1, .int x1), (2, .int x2)]) hx hb dX5_shownAt_106 hl rfl rfl (by decide) (fun _ => rfl) h ?_
          clear h hl; clear ls; intro v18 ls h hl
          refine lv_goto (tgt := 71) hx hb dX5_shownAt_109 (by decide) ?_
          exact hR14 (v18, M16) h _ _ _ hw (lv_sub hl [1, 2, 3, 0] rfl)
        · clear h; intro h
          refine lv_aload_n hx hb dX5_shownAt_92 rfl (lv_at hl 0 rfl) ?_
          refine lv_iload hx hb dX5_shownAt_93 (lv_at hl 3 rfl) ?_
          refine lv_iload_n hx hb dX5_shownAt_95 rfl (lv_at hl 1 rfl) ?_
          refine g_ci hw (g_runV (As := [.int v11, .int x1]) (rest := []) hx hb hml hown hts mX5_rowAt vX5_rowAt kX5_89 hw 17 0 (ci_17 (by decide)) (bi_17 (by decide) hn) rfl rfl (c_X5_rowAt hn h) rfl rfl ⟨Nat.le_of_ble_eq_true rfl, Nat.le_of_ble_eq_true rfl⟩ rfl hl.1 rfl (Nat.le_of_ble_eq_true rfl) dX5_shownAt_96 ⟨Nat.zero_le _, Nat.zero_le _⟩) ?_
          clear h hw; intro v20 M19 H locs hw h
          refine lv_iload_n hx hb dX5_shownAt_99 rfl (lv_at hl 2 rfl) ?_
          refine g_icmp_ne (tgt := 106) hx hb h dX5_shownAt_100 (by decide) ?_ ?_
          · clear h; intro h
            refine g_iinc (k := 3) (v := (v11 + (1 : Int32))) (lv' := fun v21 => [(4, .int v21), (0, .ref (o.2.1 17 0)), (1, .int x1), (2, .int x2)]) hx hb dX5_shownAt_106 hl rfl rfl (by decide) (fun _ => rfl) h ?_
            clear h hl; clear ls; intro v21 ls h hl
            refine lv_goto (tgt := 71) hx hb dX5_shownAt_109 (by decide) ?_
            exact hR14 (v21, M19) h _ _ _ hw (lv_sub hl [1, 2, 3, 0] rfl)
          · clear h; intro h
            refine lv_iload hx hb dX5_shownAt_103 (lv_at hl 3 rfl) ?_
            exact g_iret hx hb hr hlocks hw h dX5_shownAt_105
    clear h; intro J10 hJ10 h
    refine g_icmp_le (tgt := 68) hx hb h dX5_shownAt_23 (by decide) ?_ ?_
    · clear h; intro h
      exact hJ10 () h _ _ _ hw (lv_sub hl [1, 2, 3] rfl)
    · clear h; intro h
      refine lv_iload_n hx hb dX5_shownAt_26 rfl (lv_at hl 3 rfl) ?_
      refine lv_aload_n hx hb dX5_shownAt_27 rfl (lv_at hl 1 rfl) ?_
      refine g_getf hx hb hts in_X5 hown hw 17 0 (ci_17 (by decide)) (bi_17 (by decide) hn) rfl rfl 0 (by decide) kX5_7 rfl dX5_shownAt_28 ?_
      refine lv_iconst (v := 3) hx hb dX5_shownAt_31 (by decide) ?_
      refine g_iald hx hb hw 18 0 (ci_18 (by decide)) (bi_18 (by decide) hn) rfl h dX5_shownAt_32 ?_
      clear h; intro v24 h
      refine lv_iconst (v := 1) hx hb dX5_shownAt_33 (by decide) ?_
      refine lv_isub hx hb dX5_shownAt_34 ?_
      refine g_icmp_ne (tgt := 68) hx hb h dX5_shownAt_35 (by decide) ?_ ?_
      · clear h; intro h
        exact hJ10 () h _ _ _ hw (lv_sub hl [1, 2, 3] rfl)
      · clear h; intro h
        exact hJ4 () h _ _ _ hw (lv_sub hl [1, 2, 3] rfl)
abbrev rm_X5_shown : Room := { frames := 7, cells := 0, slots := 0, locals := 160 }
set_option maxHeartbeats 4000000 in
set_option maxRecDepth 100000 in
theorem c_X5_shown {o : Om} {l : Launch} (hn : 122 ≤ o.2.2.2) {M : Mm} {x1 : Int32} {x2 : Int32} {Q : Int32 → Mm → Prop} (h : w_X5_shown M x1 x2 Q) : CI o l yX5_shown cX5_shown 3 rm_X5_shown [.ref (o.2.1 17 0), .int x1, .int x2] M Q := by
  refine g_start (by decide +kernel) (Nat.le_of_ble_eq_true rfl) ?_
  intro p e s m args below meth c hx hb hr hlocks hml hown hts hw ls hl
  replace hl : lv_has ls 3 [(0, .ref (o.2.1 17 0)), (1, .int x1), (2, .int x2)] := hl
  unfold w_X5_shown at h
  refine lv_aload_n hx hb dX5_shown_0 rfl (lv_at hl 0 rfl) ?_
  refine lv_iload_n hx hb dX5_shown_1 rfl (lv_at hl 1 rfl) ?_
  refine g_cz hw (g_runV (As := [.int x1]) (rest := []) hx hb hml hown hts mX5_isOnPage vX5_isOnPage kX5_202 hw 17 0 (ci_17 (by decide)) (bi_17 (by decide) hn) rfl rfl (c_X5_isOnPage hn h) rfl rfl ⟨Nat.le_of_ble_eq_true rfl, Nat.le_of_ble_eq_true rfl⟩ rfl hl.1 rfl (Nat.le_of_ble_eq_true rfl) dX5_shown_2 ⟨Nat.zero_le _, Nat.zero_le _⟩) ?_
  clear h hw; intro v2 M1 H locs hw hz_v2 h
  refine g_if_eq (tgt := 18) hx hb h dX5_shown_5 (by decide) ?_ ?_
  · clear h; intro h
    refine lv_iconst (v := (-1)) hx hb dX5_shown_18 (by decide) ?_
    exact g_iret hx hb hr hlocks hw h dX5_shown_19
  · clear h; intro h
    refine lv_iload_n hx hb dX5_shown_8 rfl (lv_at hl 2 rfl) ?_
    refine lv_iconst (v := 0) hx hb dX5_shown_9 (by decide) ?_
    refine lv_bipush (v := 11) hx hb dX5_shown_10 (by decide) ?_
    refine g_cz hw (g_runS (As := [.int x2, .int (0 : Int32), .int (11 : Int32)]) (rest := []) hx hb hml hown hts mX5_in sX5_in kX5_32 hw (c_X5_in hn h) rfl rfl ⟨Nat.le_of_ble_eq_true rfl, Nat.le_of_ble_eq_true rfl⟩ rfl hl.1 rfl (Nat.le_of_ble_eq_true rfl) dX5_shown_12 ⟨Nat.zero_le _, Nat.zero_le _⟩) ?_
    clear h hw; intro v4 M3 H locs hw hz_v4 h
    refine g_if_ne (tgt := 20) hx hb h dX5_shown_15 (by decide) ?_ ?_
    · clear h; intro h
      refine lv_aload_n hx hb dX5_shown_20 rfl (lv_at hl 0 rfl) ?_
      refine g_cv hw (g_runV (As := []) (rest := []) hx hb hml hown hts mX5_lays vX5_lays kX5_140 hw 17 0 (ci_17 (by decide)) (bi_17 (by decide) hn) rfl rfl (c_X5_lays hn h) rfl rfl ⟨Nat.le_of_ble_eq_true rfl, Nat.le_of_ble_eq_true rfl⟩ rfl hl.1 rfl (Nat.le_of_ble_eq_true rfl) dX5_shown_21 ⟨Nat.zero_le _, Nat.zero_le _⟩) ?_
      clear h hw; intro M5 H locs hw h
      refine lv_aload_n hx hb dX5_shown_24 rfl (lv_at hl 0 rfl) ?_
      refine lv_iload_n hx hb dX5_shown_25 rfl (lv_at hl 1 rfl) ?_
      refine lv_iload_n hx hb dX5_shown_26 rfl (lv_at hl 2 rfl) ?_
      refine g_ci hw (g_runV (As := [.int x1, .int x2]) (rest := []) hx hb hml hown hts mX5_shownAt vX5_shownAt kX5_205 hw 17 0 (ci_17 (by decide)) (bi_17 (by decide) hn) rfl rfl (c_X5_shownAt hn h) rfl rfl ⟨Nat.le_of_ble_eq_true rfl, Nat.le_of_ble_eq_true rfl⟩ rfl hl.1 rfl (Nat.le_of_ble_eq_true rfl) dX5_shown_27 ⟨Nat.zero_le _, Nat.zero_le _⟩) ?_
      clear h hw; intro v7 M6 H locs hw h
      exact g_iret hx hb hr hlocks hw h dX5_shown_30
    · clear h; intro h
      refine lv_iconst (v := (-1)) hx hb dX5_shown_18 (by decide) ?_
      exact g_iret hx hb hr hlocks hw h dX5_shown_19
abbrev rm_X5_rowOf : Room := { frames := 6, cells := 0, slots := 0, locals := 143 }
set_option maxHeartbeats 4000000 in
set_option maxRecDepth 100000 in
theorem c_X5_rowOf {o : Om} {l : Launch} (hn : 122 ≤ o.2.2.2) {M : Mm} {x1 : Int32} {x2 : Int32} {Q : Int32 → Mm → Prop} (h : w_X5_rowOf M x1 x2 Q) : CI o l yX5_rowOf cX5_rowOf 3 rm_X5_rowOf [.ref (o.2.1 17 0), .int x1, .int x2] M Q := by
  refine g_start (by decide +kernel) (Nat.le_of_ble_eq_true rfl) ?_
  intro p e s m args below meth c hx hb hr hlocks hml hown hts hw ls hl
  replace hl : lv_has ls 3 [(0, .ref (o.2.1 17 0)), (1, .int x1), (2, .int x2)] := hl
  unfold w_X5_rowOf at h
  refine lv_aload_n hx hb dX5_rowOf_0 rfl (lv_at hl 0 rfl) ?_
  refine lv_iload_n hx hb dX5_rowOf_1 rfl (lv_at hl 1 rfl) ?_
  refine g_cz hw (g_runV (As := [.int x1]) (rest := []) hx hb hml hown hts mX5_isEntry vX5_isEntry kX5_180 hw 17 0 (ci_17 (by decide)) (bi_17 (by decide) hn) rfl rfl (c_X5_isEntry hn h) rfl rfl ⟨Nat.le_of_ble_eq_true rfl, Nat.le_of_ble_eq_true rfl⟩ rfl hl.1 rfl (Nat.le_of_ble_eq_true rfl) dX5_rowOf_2 ⟨Nat.zero_le _, Nat.zero_le _⟩) ?_
  clear h hw; intro v2 M1 H locs hw hz_v2 h
  refine g_if_eq (tgt := 16) hx hb h dX5_rowOf_5 (by decide) ?_ ?_
  · clear h; intro h
    refine lv_iconst (v := (-1)) hx hb dX5_rowOf_16 (by decide) ?_
    exact g_iret hx hb hr hlocks hw h dX5_rowOf_17
  · clear h; intro h
    refine lv_aload_n hx hb dX5_rowOf_8 rfl (lv_at hl 0 rfl) ?_
    refine lv_iload_n hx hb dX5_rowOf_9 rfl (lv_at hl 2 rfl) ?_
    refine g_cz hw (g_runV (As := [.int x2]) (rest := []) hx hb hml hown hts mX5_isOnPage vX5_isOnPage kX5_202 hw 17 0 (ci_17 (by decide)) (bi_17 (by decide) hn) rfl rfl (c_X5_isOnPage hn h) rfl rfl ⟨Nat.le_of_ble_eq_true rfl, Nat.le_of_ble_eq_true rfl⟩ rfl hl.1 rfl (Nat.le_of_ble_eq_true rfl) dX5_rowOf_10 ⟨Nat.zero_le _, Nat.zero_le _⟩) ?_
    clear h hw; intro v4 M3 H locs hw hz_v4 h
    refine g_if_ne (tgt := 18) hx hb h dX5_rowOf_13 (by decide) ?_ ?_
    · clear h; intro h
      refine lv_aload_n hx hb dX5_rowOf_18 rfl (lv_at hl 0 rfl) ?_
      refine g_cv hw (g_runV (As := []) (rest := []) hx hb hml hown hts mX5_lays vX5_lays kX5_140 hw 17 0 (ci_17 (by decide)) (bi_17 (by decide) hn) rfl rfl (c_X5_lays hn h) rfl rfl ⟨Nat.le_of_ble_eq_true rfl, Nat.le_of_ble_eq_true rfl⟩ rfl hl.1 rfl (Nat.le_of_ble_eq_true rfl) dX5_rowOf_19 ⟨Nat.zero_le _, Nat.zero_le _⟩) ?_
      clear h hw; intro M5 H locs hw h
      refine lv_aload_n hx hb dX5_rowOf_22 rfl (lv_at hl 0 rfl) ?_
      refine lv_iload_n hx hb dX5_rowOf_23 rfl (lv_at hl 1 rfl) ?_
      refine lv_iload_n hx hb dX5_rowOf_24 rfl (lv_at hl 2 rfl) ?_
      refine g_cz hw (g_runV (As := [.int x1, .int x2]) (rest := []) hx hb hml hown hts mX5_isOn vX5_isOn kX5_86 hw 17 0 (ci_17 (by decide)) (bi_17 (by decide) hn) rfl rfl (c_X5_isOn hn h) rfl rfl ⟨Nat.le_of_ble_eq_true rfl, Nat.le_of_ble_eq_true rfl⟩ rfl hl.1 rfl (Nat.le_of_ble_eq_true rfl) dX5_rowOf_25 ⟨Nat.zero_le _, Nat.zero_le _⟩) ?_
      clear h hw; intro v7 M6 H locs hw hz_v7 h
      refine g_if_eq (tgt := 40) hx hb h dX5_rowOf_28 (by decide) ?_ ?_
      · clear h; intro h
        refine lv_bipush (v := (-9)) hx hb dX5_rowOf_40 (by decide) ?_
        exact g_iret hx hb hr hlocks hw h dX5_rowOf_42
      · clear h; intro h
        refine lv_aload_n hx hb dX5_rowOf_31 rfl (lv_at hl 0 rfl) ?_
        refine lv_iload_n hx hb dX5_rowOf_32 rfl (lv_at hl 1 rfl) ?_
        refine lv_iload_n hx hb dX5_rowOf_33 rfl (lv_at hl 2 rfl) ?_
        refine g_ci hw (g_runV (As := [.int x1, .int x2]) (rest := []) hx hb hml hown hts mX5_rowAt vX5_rowAt kX5_89 hw 17 0 (ci_17 (by decide)) (bi_17 (by decide) hn) rfl rfl (c_X5_rowAt hn h) rfl rfl ⟨Nat.le_of_ble_eq_true rfl, Nat.le_of_ble_eq_true rfl⟩ rfl hl.1 rfl (Nat.le_of_ble_eq_true rfl) dX5_rowOf_34 ⟨Nat.zero_le _, Nat.zero_le _⟩) ?_
        clear h hw; intro v9 M8 H locs hw h
        refine lv_goto (tgt := 42) hx hb dX5_rowOf_37 (by decide) ?_
        exact g_iret hx hb hr hlocks hw h dX5_rowOf_42
    · clear h; intro h
      refine lv_iconst (v := (-1)) hx hb dX5_rowOf_16 (by decide) ?_
      exact g_iret hx hb hr hlocks hw h dX5_rowOf_17
abbrev rm_X5_barsOn : Room := { frames := 2, cells := 0, slots := 0, locals := 44 }
set_option maxHeartbeats 4000000 in
set_option maxRecDepth 100000 in
theorem c_X5_barsOn {o : Om} {l : Launch} (hn : 122 ≤ o.2.2.2) {M : Mm} {x1 : Int32} {Q : Int32 → Mm → Prop} (h : w_X5_barsOn M x1 Q) : CI o l yX5_barsOn cX5_barsOn 4 rm_X5_barsOn [.ref (o.2.1 17 0), .int x1] M Q := by
  refine g_start (by decide +kernel) (Nat.le_of_ble_eq_true rfl) ?_
  intro p e s m args below meth c hx hb hr hlocks hml hown hts hw ls hl
  replace hl : lv_has ls 4 [(0, .ref (o.2.1 17 0)), (1, .int x1)] := hl
  unfold w_X5_barsOn at h
  refine lv_iconst (v := 0) hx hb dX5_barsOn_0 (by decide) ?_
  refine lv_istore_n (lv' := [(2, .int (0 : Int32)), (0, .ref (o.2.1 17 0)), (1, .int x1)]) hx hb dX5_barsOn_1 rfl hl (by decide) rfl ?_
  clear hl; clear ls; intro ls hl
  refine lv_iconst (v := 0) hx hb dX5_barsOn_2 (by decide) ?_
  refine lv_istore_n (lv' := [(3, .int (0 : Int32)), (2, .int (0 : Int32)), (0, .ref (o.2.1 17 0)), (1, .int x1)]) hx hb dX5_barsOn_3 rfl hl (by decide) rfl ?_
  clear hl; clear ls; intro ls hl
  obtain ⟨n, h⟩ := h
  refine letK_W (body := fun K => w_X5_barsOn_L4 x1 K) (fun (x : Int32 × Int32 × Mm) => ∀ (H : Heap) (locs : List Loc) (ls : Array Slot), WO o (WA o) s s.heap H locs x.2.2 → lv_has ls 4 [(2, .int x.1)] → W p l e rm_X5_barsOn s m args below meth c H locs 0 0 (MQ below (QI o Q) args s 0 0 (WA o)) (F0 m 45 ls [])) h ?_ ?_
  · clear h hw hl; clear ls; intro x h H locs ls hw hl
    obtain ⟨v17, v18, M19⟩ := x
    replace hl : lv_has ls 4 [(2, .int v17)] := hl
    dsimp only at h hw
    refine lv_iload_n hx hb dX5_barsOn_45 rfl (lv_at hl 0 rfl) ?_
    exact g_iret hx hb hr hlocks hw h dX5_barsOn_46
  clear h; intro K4 hK4 h
  refine loop_W (body := w_X5_barsOn_L4 x1 K4) (fun (x : Int32 × Int32 × Mm) => ∀ (H : Heap) (locs : List Loc) (ls : Array Slot), WO o (WA o) s s.heap H locs x.2.2 → lv_has ls 4 [(0, .ref (o.2.1 17 0)), (1, .int x1), (2, .int x.1), (3, .int x.2.1)] → W p l e rm_X5_barsOn s m args below meth c H locs 0 0 (MQ below (QI o Q) args s 0 0 (WA o)) (F0 m 4 ls [])) ?_ n _ h _ _ _ hw (lv_sub hl [2, 3, 1, 0] rfl)
  clear h hw hl; clear ls; intro R5 x hR5 h H locs ls hw hl
  obtain ⟨v1, v2, M3⟩ := x
  replace hl : lv_has ls 4 [(0, .ref (o.2.1 17 0)), (1, .int x1), (2, .int v1), (3, .int v2)] := hl
  dsimp only at hw
  unfold w_X5_barsOn_L4 at h
  dsimp only at h
  refine lv_iload_n hx hb dX5_barsOn_4 rfl (lv_at hl 3 rfl) ?_
  refine lv_aload_n hx hb dX5_barsOn_5 rfl (lv_at hl 0 rfl) ?_
  refine g_getf hx hb hts in_X5 hown hw 17 0 (ci_17 (by decide)) (bi_17 (by decide) hn) rfl rfl 0 (by decide) kX5_7 rfl dX5_barsOn_6 ?_
  refine lv_iconst (v := 4) hx hb dX5_barsOn_9 (by decide) ?_
  refine g_iald hx hb hw 18 0 (ci_18 (by decide)) (bi_18 (by decide) hn) rfl h dX5_barsOn_10 ?_
  clear h; intro v6 h
  refine g_icmp_ge (tgt := 45) hx hb h dX5_barsOn_11 (by decide) ?_ ?_
  · clear h; intro h
    exact hK4 (v1, v2, M3) h _ _ _ hw (lv_sub hl [2] rfl)
  · clear h; intro h
    refine lv_iload_n hx hb dX5_barsOn_14 rfl (lv_at hl 2 rfl) ?_
    refine lv_aload_n hx hb dX5_barsOn_15 rfl (lv_at hl 0 rfl) ?_
    refine lv_iload_n hx hb dX5_barsOn_16 rfl (lv_at hl 3 rfl) ?_
    refine g_cz hw (g_runV (As := [.int v2]) (rest := [.int v1]) hx hb hml hown hts mX5_isLong vX5_isLong kX5_73 hw 17 0 (ci_17 (by decide)) (bi_17 (by decide) hn) rfl rfl (c_X5_isLong hn h) rfl rfl ⟨Nat.le_of_ble_eq_true rfl, Nat.le_of_ble_eq_true rfl⟩ rfl hl.1 rfl (Nat.le_of_ble_eq_true rfl) dX5_barsOn_17 ⟨Nat.zero_le _, Nat.zero_le _⟩) ?_
    clear h hw; intro v8 M7 H locs hw hz_v8 h
    refine g_if_eq (tgt := 36) hx hb h dX5_barsOn_20 (by decide) ?_ ?_
    · clear h; intro h
      refine lv_iconst (v := 0) hx hb dX5_barsOn_36 (by decide) ?_
      refine lv_iadd hx hb dX5_barsOn_37 ?_
      refine g_topi h ?_
      clear h; intro v9 h
      refine lv_istore_n (lv' := [(2, .int v9), (0, .ref (o.2.1 17 0)), (1, .int x1), (3, .int v2)]) hx hb dX5_barsOn_38 rfl hl (by decide) rfl ?_
      clear hl; clear ls; intro ls hl
      refine g_iinc (k := 3) (v := (v2 + (1 : Int32))) (lv' := fun v10 => [(3, .int v10), (2, .int v9), (0, .ref (o.2.1 17 0)), (1, .int x1)]) hx hb dX5_barsOn_39 hl rfl rfl (by decide) (fun _ => rfl) h ?_
      clear h hl; clear ls; intro v10 ls h hl
      refine lv_goto (tgt := 4) hx hb dX5_barsOn_42 (by decide) ?_
      exact hR5 (v9, v10, M7) h _ _ _ hw (lv_sub hl [2, 3, 1, 0] rfl)
    · clear h; intro h
      refine lv_aload_n hx hb dX5_barsOn_23 rfl (lv_at hl 0 rfl) ?_
      refine lv_iload_n hx hb dX5_barsOn_24 rfl (lv_at hl 3 rfl) ?_
      refine lv_iload_n hx hb dX5_barsOn_25 rfl (lv_at hl 1 rfl) ?_
      refine g_cz hw (g_runV (As := [.int v2, .int x1]) (rest := [.int v1]) hx hb hml hown hts mX5_isOn vX5_isOn kX5_86 hw 17 0 (ci_17 (by decide)) (bi_17 (by decide) hn) rfl rfl (c_X5_isOn hn h) rfl rfl ⟨Nat.le_of_ble_eq_true rfl, Nat.le_of_ble_eq_true rfl⟩ rfl hl.1 rfl (Nat.le_of_ble_eq_true rfl) dX5_barsOn_26 ⟨Nat.zero_le _, Nat.zero_le _⟩) ?_
      clear h hw; intro v12 M11 H locs hw hz_v12 h
      refine g_if_eq (tgt := 36) hx hb h dX5_barsOn_29 (by decide) ?_ ?_
      · clear h; intro h
        refine lv_iconst (v := 0) hx hb dX5_barsOn_36 (by decide) ?_
        refine lv_iadd hx hb dX5_barsOn_37 ?_
        refine g_topi h ?_
        clear h; intro v13 h
        refine lv_istore_n (lv' := [(2, .int v13), (0, .ref (o.2.1 17 0)), (1, .int x1), (3, .int v2)]) hx hb dX5_barsOn_38 rfl hl (by decide) rfl ?_
        clear hl; clear ls; intro ls hl
        refine g_iinc (k := 3) (v := (v2 + (1 : Int32))) (lv' := fun v14 => [(3, .int v14), (2, .int v13), (0, .ref (o.2.1 17 0)), (1, .int x1)]) hx hb dX5_barsOn_39 hl rfl rfl (by decide) (fun _ => rfl) h ?_
        clear h hl; clear ls; intro v14 ls h hl
        refine lv_goto (tgt := 4) hx hb dX5_barsOn_42 (by decide) ?_
        exact hR5 (v13, v14, M11) h _ _ _ hw (lv_sub hl [2, 3, 1, 0] rfl)
      · clear h; intro h
        refine lv_iconst (v := 1) hx hb dX5_barsOn_32 (by decide) ?_
        refine lv_goto (tgt := 37) hx hb dX5_barsOn_33 (by decide) ?_
        refine lv_iadd hx hb dX5_barsOn_37 ?_
        refine g_topi h ?_
        clear h; intro v15 h
        refine lv_istore_n (lv' := [(2, .int v15), (0, .ref (o.2.1 17 0)), (1, .int x1), (3, .int v2)]) hx hb dX5_barsOn_38 rfl hl (by decide) rfl ?_
        clear hl; clear ls; intro ls hl
        refine g_iinc (k := 3) (v := (v2 + (1 : Int32))) (lv' := fun v16 => [(3, .int v16), (2, .int v15), (0, .ref (o.2.1 17 0)), (1, .int x1)]) hx hb dX5_barsOn_39 hl rfl rfl (by decide) (fun _ => rfl) h ?_
        clear h hl; clear ls; intro v16 ls h hl
        refine lv_goto (tgt := 4) hx hb dX5_barsOn_42 (by decide) ?_
        exact hR5 (v15, v16, M11) h _ _ _ hw (lv_sub hl [2, 3, 1, 0] rfl)
abbrev rm_X5_dayOf : Room := { frames := 6, cells := 0, slots := 0, locals := 136 }
set_option maxHeartbeats 4000000 in
set_option maxRecDepth 100000 in
theorem c_X5_dayOf {o : Om} {l : Launch} (hn : 122 ≤ o.2.2.2) {M : Mm} {x1 : Int32} {x2 : Int32} {Q : Int32 → Mm → Prop} (h : w_X5_dayOf M x1 x2 Q) : CI o l yX5_dayOf cX5_dayOf 3 rm_X5_dayOf [.ref (o.2.1 17 0), .int x1, .int x2] M Q := by
  refine g_start (by decide +kernel) (Nat.le_of_ble_eq_true rfl) ?_
  intro p e s m args below meth c hx hb hr hlocks hml hown hts hw ls hl
  replace hl : lv_has ls 3 [(0, .ref (o.2.1 17 0)), (1, .int x1), (2, .int x2)] := hl
  unfold w_X5_dayOf at h
  refine lv_iload_n hx hb dX5_dayOf_0 rfl (lv_at hl 2 rfl) ?_
  by_cases c0 : x2 = (0 : Int32)
  · rw [if_pos c0] at h
    refine lv_tableIn (tgt := 36) hx hb dX5_dayOf_1 (by rw [c0]; decide) (by rw [c0]; decide) (by rw [c0]; rfl) (by decide) ?_
    clear c0
    refine lv_aload_n hx hb dX5_dayOf_36 rfl (lv_at hl 0 rfl) ?_
    refine lv_iload_n hx hb dX5_dayOf_37 rfl (lv_at hl 1 rfl) ?_
    refine g_ci hw (g_runV (As := [.int x1]) (rest := []) hx hb hml hown hts mX5_weekOf vX5_weekOf kX5_46 hw 17 0 (ci_17 (by decide)) (bi_17 (by decide) hn) rfl rfl (c_X5_weekOf hn h) rfl rfl ⟨Nat.le_of_ble_eq_true rfl, Nat.le_of_ble_eq_true rfl⟩ rfl hl.1 rfl (Nat.le_of_ble_eq_true rfl) dX5_dayOf_38 ⟨Nat.zero_le _, Nat.zero_le _⟩) ?_
    clear h hw; intro v2 M1 H locs hw h
    exact g_iret hx hb hr hlocks hw h dX5_dayOf_41
  rw [if_neg c0] at h
  by_cases c1 : x2 = (1 : Int32)
  · rw [if_pos c1] at h
    refine lv_tableIn (tgt := 42) hx hb dX5_dayOf_1 (by rw [c1]; decide) (by rw [c1]; decide) (by rw [c1]; rfl) (by decide) ?_
    clear c1
    refine lv_iload_n hx hb dX5_dayOf_42 rfl (lv_at hl 1 rfl) ?_
    refine lv_bipush (v := 7) hx hb dX5_dayOf_43 (by decide) ?_
    refine lv_irem hx hb dX5_dayOf_45 (by decide) ?_
    exact g_iret hx hb hr hlocks hw h dX5_dayOf_46
  rw [if_neg c1] at h
  by_cases c2 : x2 = (2 : Int32)
  · rw [if_pos c2] at h
    refine lv_tableIn (tgt := 47) hx hb dX5_dayOf_1 (by rw [c2]; decide) (by rw [c2]; decide) (by rw [c2]; rfl) (by decide) ?_
    clear c2
    refine lv_aload_n hx hb dX5_dayOf_47 rfl (lv_at hl 0 rfl) ?_
    refine lv_iload_n hx hb dX5_dayOf_48 rfl (lv_at hl 1 rfl) ?_
    refine g_ci hw (g_runV (As := [.int x1]) (rest := []) hx hb hml hown hts mX5_barsOn vX5_barsOn kX5_208 hw 17 0 (ci_17 (by decide)) (bi_17 (by decide) hn) rfl rfl (c_X5_barsOn hn h) rfl rfl ⟨Nat.le_of_ble_eq_true rfl, Nat.le_of_ble_eq_true rfl⟩ rfl hl.1 rfl (Nat.le_of_ble_eq_true rfl) dX5_dayOf_49 ⟨Nat.zero_le _, Nat.zero_le _⟩) ?_
    clear h hw; intro v4 M3 H locs hw h
    exact g_iret hx hb hr hlocks hw h dX5_dayOf_52
  rw [if_neg c2] at h
  by_cases c3 : x2 = (3 : Int32)
  · rw [if_pos c3] at h
    refine lv_tableIn (tgt := 53) hx hb dX5_dayOf_1 (by rw [c3]; decide) (by rw [c3]; decide) (by rw [c3]; rfl) (by decide) ?_
    clear c3
    refine lv_aload_n hx hb dX5_dayOf_53 rfl (lv_at hl 0 rfl) ?_
    refine lv_iload_n hx hb dX5_dayOf_54 rfl (lv_at hl 1 rfl) ?_
    refine lv_iload_n hx hb dX5_dayOf_55 rfl (lv_at hl 1 rfl) ?_
    refine g_ci hw (g_runV (As := [.int x1, .int x1]) (rest := []) hx hb hml hown hts mX5_shortsIn vX5_shortsIn kX5_133 hw 17 0 (ci_17 (by decide)) (bi_17 (by decide) hn) rfl rfl (c_X5_shortsIn hn h) rfl rfl ⟨Nat.le_of_ble_eq_true rfl, Nat.le_of_ble_eq_true rfl⟩ rfl hl.1 rfl (Nat.le_of_ble_eq_true rfl) dX5_dayOf_56 ⟨Nat.zero_le _, Nat.zero_le _⟩) ?_
    clear h hw; intro v6 M5 H locs hw h
    exact g_iret hx hb hr hlocks hw h dX5_dayOf_59
  rw [if_neg c3] at h
  by_cases c4 : x2 = (4 : Int32)
  · rw [if_pos c4] at h
    refine lv_tableIn (tgt := 60) hx hb dX5_dayOf_1 (by rw [c4]; decide) (by rw [c4]; decide) (by rw [c4]; rfl) (by decide) ?_
    clear c4
    refine lv_aload_n hx hb dX5_dayOf_60 rfl (lv_at hl 0 rfl) ?_
    refine lv_iload_n hx hb dX5_dayOf_61 rfl (lv_at hl 1 rfl) ?_
    refine lv_aload_n hx hb dX5_dayOf_62 rfl (lv_at hl 0 rfl) ?_
    refine g_getf hx hb hts in_X5 hown hw 17 0 (ci_17 (by decide)) (bi_17 (by decide) hn) rfl rfl 0 (by decide) kX5_7 rfl dX5_dayOf_63 ?_
    refine lv_iconst (v := 3) hx hb dX5_dayOf_66 (by decide) ?_
    refine g_iald hx hb hw 18 0 (ci_18 (by decide)) (bi_18 (by decide) hn) rfl h dX5_dayOf_67 ?_
    clear h; intro v7 h
    refine g_ci hw (g_runV (As := [.int x1, .int v7]) (rest := []) hx hb hml hown hts mX5_hiddenOn vX5_hiddenOn kX5_121 hw 17 0 (ci_17 (by decide)) (bi_17 (by decide) hn) rfl rfl (c_X5_hiddenOn hn h) rfl rfl ⟨Nat.le_of_ble_eq_true rfl, Nat.le_of_ble_eq_true rfl⟩ rfl hl.1 rfl (Nat.le_of_ble_eq_true rfl) dX5_dayOf_68 ⟨Nat.zero_le _, Nat.zero_le _⟩) ?_
    clear h hw; intro v9 M8 H locs hw h
    exact g_iret hx hb hr hlocks hw h dX5_dayOf_71
  rw [if_neg c4] at h
  refine lv_tableOut (tgt := 72) hx hb dX5_dayOf_1 (tbl_out (fun k h1 => by rcases (show k = 0 ∨ k = 1 ∨ k = 2 ∨ k = 3 ∨ k = 4 by omega) with rfl | rfl | rfl | rfl | rfl <;> assumption)) (by decide) ?_
  clear c0 c1 c2 c3 c4
  refine lv_aload_n hx hb dX5_dayOf_72 rfl (lv_at hl 0 rfl) ?_
  refine lv_iload_n hx hb dX5_dayOf_73 rfl (lv_at hl 1 rfl) ?_
  refine g_ci hw (g_runV (As := [.int x1]) (rest := []) hx hb hml hown hts mX5_needed vX5_needed kX5_115 hw 17 0 (ci_17 (by decide)) (bi_17 (by decide) hn) rfl rfl (c_X5_needed hn h) rfl rfl ⟨Nat.le_of_ble_eq_true rfl, Nat.le_of_ble_eq_true rfl⟩ rfl hl.1 rfl (Nat.le_of_ble_eq_true rfl) dX5_dayOf_74 ⟨Nat.zero_le _, Nat.zero_le _⟩) ?_
  clear h hw; intro v11 M10 H locs hw h
  exact g_iret hx hb hr hlocks hw h dX5_dayOf_77
abbrev rm_X5_day : Room := { frames := 7, cells := 0, slots := 0, locals := 158 }
set_option maxHeartbeats 4000000 in
set_option maxRecDepth 100000 in
theorem c_X5_day {o : Om} {l : Launch} (hn : 122 ≤ o.2.2.2) {M : Mm} {x1 : Int32} {x2 : Int32} {Q : Int32 → Mm → Prop} (h : w_X5_day M x1 x2 Q) : CI o l yX5_day cX5_day 3 rm_X5_day [.ref (o.2.1 17 0), .int x1, .int x2] M Q := by
  refine g_start (by decide +kernel) (Nat.le_of_ble_eq_true rfl) ?_
  intro p e s m args below meth c hx hb hr hlocks hml hown hts hw ls hl
  replace hl : lv_has ls 3 [(0, .ref (o.2.1 17 0)), (1, .int x1), (2, .int x2)] := hl
  unfold w_X5_day at h
  refine lv_aload_n hx hb dX5_day_0 rfl (lv_at hl 0 rfl) ?_
  refine lv_iload_n hx hb dX5_day_1 rfl (lv_at hl 1 rfl) ?_
  refine g_cz hw (g_runV (As := [.int x1]) (rest := []) hx hb hml hown hts mX5_isOnPage vX5_isOnPage kX5_202 hw 17 0 (ci_17 (by decide)) (bi_17 (by decide) hn) rfl rfl (c_X5_isOnPage hn h) rfl rfl ⟨Nat.le_of_ble_eq_true rfl, Nat.le_of_ble_eq_true rfl⟩ rfl hl.1 rfl (Nat.le_of_ble_eq_true rfl) dX5_day_2 ⟨Nat.zero_le _, Nat.zero_le _⟩) ?_
  clear h hw; intro v2 M1 H locs hw hz_v2 h
  refine g_if_eq (tgt := 17) hx hb h dX5_day_5 (by decide) ?_ ?_
  · clear h; intro h
    refine lv_iconst (v := (-1)) hx hb dX5_day_17 (by decide) ?_
    exact g_iret hx hb hr hlocks hw h dX5_day_18
  · clear h; intro h
    refine lv_iload_n hx hb dX5_day_8 rfl (lv_at hl 2 rfl) ?_
    refine lv_iconst (v := 0) hx hb dX5_day_9 (by decide) ?_
    refine lv_iconst (v := 5) hx hb dX5_day_10 (by decide) ?_
    refine g_cz hw (g_runS (As := [.int x2, .int (0 : Int32), .int (5 : Int32)]) (rest := []) hx hb hml hown hts mX5_in sX5_in kX5_32 hw (c_X5_in hn h) rfl rfl ⟨Nat.le_of_ble_eq_true rfl, Nat.le_of_ble_eq_true rfl⟩ rfl hl.1 rfl (Nat.le_of_ble_eq_true rfl) dX5_day_11 ⟨Nat.zero_le _, Nat.zero_le _⟩) ?_
    clear h hw; intro v4 M3 H locs hw hz_v4 h
    refine g_if_ne (tgt := 19) hx hb h dX5_day_14 (by decide) ?_ ?_
    · clear h; intro h
      refine lv_aload_n hx hb dX5_day_19 rfl (lv_at hl 0 rfl) ?_
      refine g_cv hw (g_runV (As := []) (rest := []) hx hb hml hown hts mX5_lays vX5_lays kX5_140 hw 17 0 (ci_17 (by decide)) (bi_17 (by decide) hn) rfl rfl (c_X5_lays hn h) rfl rfl ⟨Nat.le_of_ble_eq_true rfl, Nat.le_of_ble_eq_true rfl⟩ rfl hl.1 rfl (Nat.le_of_ble_eq_true rfl) dX5_day_20 ⟨Nat.zero_le _, Nat.zero_le _⟩) ?_
      clear h hw; intro M5 H locs hw h
      refine lv_aload_n hx hb dX5_day_23 rfl (lv_at hl 0 rfl) ?_
      refine lv_iload_n hx hb dX5_day_24 rfl (lv_at hl 1 rfl) ?_
      refine lv_iload_n hx hb dX5_day_25 rfl (lv_at hl 2 rfl) ?_
      refine g_ci hw (g_runV (As := [.int x1, .int x2]) (rest := []) hx hb hml hown hts mX5_dayOf vX5_dayOf kX5_211 hw 17 0 (ci_17 (by decide)) (bi_17 (by decide) hn) rfl rfl (c_X5_dayOf hn h) rfl rfl ⟨Nat.le_of_ble_eq_true rfl, Nat.le_of_ble_eq_true rfl⟩ rfl hl.1 rfl (Nat.le_of_ble_eq_true rfl) dX5_day_26 ⟨Nat.zero_le _, Nat.zero_le _⟩) ?_
      clear h hw; intro v7 M6 H locs hw h
      exact g_iret hx hb hr hlocks hw h dX5_day_29
    · clear h; intro h
      refine lv_iconst (v := (-1)) hx hb dX5_day_17 (by decide) ?_
      exact g_iret hx hb hr hlocks hw h dX5_day_18
abbrev rm_X5_enough : Room := { frames := 6, cells := 0, slots := 0, locals := 143 }
set_option maxHeartbeats 4000000 in
set_option maxRecDepth 100000 in
theorem c_X5_enough {o : Om} {l : Launch} (hn : 122 ≤ o.2.2.2) {M : Mm} {Q : Int32 → Mm → Prop} (h : w_X5_enough M Q) : CI o l yX5_enough cX5_enough 3 rm_X5_enough [.ref (o.2.1 17 0)] M Q := by
  refine g_start (by decide +kernel) (Nat.le_of_ble_eq_true rfl) ?_
  intro p e s m args below meth c hx hb hr hlocks hml hown hts hw ls hl
  replace hl : lv_has ls 3 [(0, .ref (o.2.1 17 0))] := hl
  unfold w_X5_enough at h
  refine lv_aload_n hx hb dX5_enough_0 rfl (lv_at hl 0 rfl) ?_
  refine g_cv hw (g_runV (As := []) (rest := []) hx hb hml hown hts mX5_lays vX5_lays kX5_140 hw 17 0 (ci_17 (by decide)) (bi_17 (by decide) hn) rfl rfl (c_X5_lays hn h) rfl rfl ⟨Nat.le_of_ble_eq_true rfl, Nat.le_of_ble_eq_true rfl⟩ rfl hl.1 rfl (Nat.le_of_ble_eq_true rfl) dX5_enough_1 ⟨Nat.zero_le _, Nat.zero_le _⟩) ?_
  clear h hw; intro M1 H locs hw h
  refine lv_iconst (v := 1) hx hb dX5_enough_4 (by decide) ?_
  refine lv_istore_n (lv' := [(1, .int (1 : Int32)), (0, .ref (o.2.1 17 0))]) hx hb dX5_enough_5 rfl hl (by decide) rfl ?_
  clear hl; clear ls; intro ls hl
  refine lv_aload_n hx hb dX5_enough_6 rfl (lv_at hl 1 rfl) ?_
  refine g_getf hx hb hts in_X5 hown hw 17 0 (ci_17 (by decide)) (bi_17 (by decide) hn) rfl rfl 0 (by decide) kX5_7 rfl dX5_enough_7 ?_
  refine lv_iconst (v := 0) hx hb dX5_enough_10 (by decide) ?_
  refine g_iald hx hb hw 18 0 (ci_18 (by decide)) (bi_18 (by decide) hn) rfl h dX5_enough_11 ?_
  clear h; intro v2 h
  refine lv_istore_n (lv' := [(2, .int v2), (1, .int (1 : Int32)), (0, .ref (o.2.1 17 0))]) hx hb dX5_enough_12 rfl hl (by decide) rfl ?_
  clear hl; clear ls; intro ls hl
  obtain ⟨n, h⟩ := h
  refine letK_W (body := fun K => w_X5_enough_L13 K) (fun (x : Int32 × Int32 × Mm) => ∀ (H : Heap) (locs : List Loc) (ls : Array Slot), WO o (WA o) s s.heap H locs x.2.2 → lv_has ls 3 [(1, .int x.1)] → W p l e rm_X5_enough s m args below meth c H locs 0 0 (MQ below (QI o Q) args s 0 0 (WA o)) (F0 m 48 ls [])) h ?_ ?_
  · clear h hw hl; clear ls; intro x h H locs ls hw hl
    obtain ⟨v15, v16, M17⟩ := x
    replace hl : lv_has ls 3 [(1, .int v15)] := hl
    dsimp only at h hw
    refine lv_iload_n hx hb dX5_enough_48 rfl (lv_at hl 0 rfl) ?_
    exact g_iret hx hb hr hlocks hw h dX5_enough_49
  clear h; intro K6 hK6 h
  refine loop_W (body := w_X5_enough_L13 K6) (fun (x : Int32 × Int32 × Mm) => ∀ (H : Heap) (locs : List Loc) (ls : Array Slot), WO o (WA o) s s.heap H locs x.2.2 → lv_has ls 3 [(0, .ref (o.2.1 17 0)), (1, .int x.1), (2, .int x.2.1)] → W p l e rm_X5_enough s m args below meth c H locs 0 0 (MQ below (QI o Q) args s 0 0 (WA o)) (F0 m 13 ls [])) ?_ n _ h _ _ _ hw (lv_sub hl [2, 1, 0] rfl)
  clear h hw hl; clear ls; intro R7 x hR7 h H locs ls hw hl
  obtain ⟨v3, v4, M5⟩ := x
  replace hl : lv_has ls 3 [(0, .ref (o.2.1 17 0)), (1, .int v3), (2, .int v4)] := hl
  dsimp only at hw
  unfold w_X5_enough_L13 at h
  dsimp only at h
  refine lv_iload_n hx hb dX5_enough_13 rfl (lv_at hl 2 rfl) ?_
  refine lv_aload_n hx hb dX5_enough_14 rfl (lv_at hl 0 rfl) ?_
  refine g_getf hx hb hts in_X5 hown hw 17 0 (ci_17 (by decide)) (bi_17 (by decide) hn) rfl rfl 0 (by decide) kX5_7 rfl dX5_enough_15 ?_
  refine lv_iconst (v := 1) hx hb dX5_enough_18 (by decide) ?_
  refine g_iald hx hb hw 18 0 (ci_18 (by decide)) (bi_18 (by decide) hn) rfl h dX5_enough_19 ?_
  clear h; intro v8 h
  refine g_icmp_gt (tgt := 48) hx hb h dX5_enough_20 (by decide) ?_ ?_
  · clear h; intro h
    exact hK6 (v3, v4, M5) h _ _ _ hw (lv_sub hl [1] rfl)
  · clear h; intro h
    refine lv_aload_n hx hb dX5_enough_23 rfl (lv_at hl 0 rfl) ?_
    refine lv_iload_n hx hb dX5_enough_24 rfl (lv_at hl 2 rfl) ?_
    refine g_ci hw (g_runV (As := [.int v4]) (rest := []) hx hb hml hown hts mX5_needed vX5_needed kX5_115 hw 17 0 (ci_17 (by decide)) (bi_17 (by decide) hn) rfl rfl (c_X5_needed hn h) rfl rfl ⟨Nat.le_of_ble_eq_true rfl, Nat.le_of_ble_eq_true rfl⟩ rfl hl.1 rfl (Nat.le_of_ble_eq_true rfl) dX5_enough_25 ⟨Nat.zero_le _, Nat.zero_le _⟩) ?_
    clear h hw; intro v10 M9 H locs hw h
    refine lv_iload_n hx hb dX5_enough_28 rfl (lv_at hl 1 rfl) ?_
    refine g_icmp_le (tgt := 40) hx hb h dX5_enough_29 (by decide) ?_ ?_
    · clear h; intro h
      refine lv_iload_n hx hb dX5_enough_40 rfl (lv_at hl 1 rfl) ?_
      refine lv_istore_n (lv' := [(1, .int v3), (0, .ref (o.2.1 17 0)), (2, .int v4)]) hx hb dX5_enough_41 rfl hl (by decide) rfl ?_
      clear hl; clear ls; intro ls hl
      refine g_iinc (k := 2) (v := (v4 + (1 : Int32))) (lv' := fun v11 => [(2, .int v11), (1, .int v3), (0, .ref (o.2.1 17 0))]) hx hb dX5_enough_42 hl rfl rfl (by decide) (fun _ => rfl) h ?_
      clear h hl; clear ls; intro v11 ls h hl
      refine lv_goto (tgt := 13) hx hb dX5_enough_45 (by decide) ?_
      exact hR7 (v3, v11, M9) h _ _ _ hw (lv_sub hl [2, 1, 0] rfl)
    · clear h; intro h
      refine lv_aload_n hx hb dX5_enough_32 rfl (lv_at hl 0 rfl) ?_
      refine lv_iload_n hx hb dX5_enough_33 rfl (lv_at hl 2 rfl) ?_
      refine g_ci hw (g_runV (As := [.int v4]) (rest := []) hx hb hml hown hts mX5_needed vX5_needed kX5_115 hw 17 0 (ci_17 (by decide)) (bi_17 (by decide) hn) rfl rfl (c_X5_needed hn h) rfl rfl ⟨Nat.le_of_ble_eq_true rfl, Nat.le_of_ble_eq_true rfl⟩ rfl hl.1 rfl (Nat.le_of_ble_eq_true rfl) dX5_enough_34 ⟨Nat.zero_le _, Nat.zero_le _⟩) ?_
      clear h hw; intro v13 M12 H locs hw h
      refine lv_goto (tgt := 41) hx hb dX5_enough_37 (by decide) ?_
      refine lv_istore_n (lv' := [(1, .int v13), (0, .ref (o.2.1 17 0)), (2, .int v4)]) hx hb dX5_enough_41 rfl hl (by decide) rfl ?_
      clear hl; clear ls; intro ls hl
      refine g_iinc (k := 2) (v := (v4 + (1 : Int32))) (lv' := fun v14 => [(2, .int v14), (1, .int v13), (0, .ref (o.2.1 17 0))]) hx hb dX5_enough_42 hl rfl rfl (by decide) (fun _ => rfl) h ?_
      clear h hl; clear ls; intro v14 ls h hl
      refine lv_goto (tgt := 13) hx hb dX5_enough_45 (by decide) ?_
      exact hR7 (v13, v14, M12) h _ _ _ hw (lv_sub hl [2, 1, 0] rfl)
abbrev rm_X5_hiddenWith : Room := { frames := 7, cells := 0, slots := 0, locals := 161 }
set_option maxHeartbeats 4000000 in
set_option maxRecDepth 100000 in
theorem c_X5_hiddenWith {o : Om} {l : Launch} (hn : 122 ≤ o.2.2.2) {M : Mm} {x1 : Int32} {Q : Int32 → Mm → Prop} (h : w_X5_hiddenWith M x1 Q) : CI o l yX5_hiddenWith cX5_hiddenWith 2 rm_X5_hiddenWith [.ref (o.2.1 17 0), .int x1] M Q := by
  refine g_start (by decide +kernel) (Nat.le_of_ble_eq_true rfl) ?_
  intro p e s m args below meth c hx hb hr hlocks hml hown hts hw ls hl
  replace hl : lv_has ls 2 [(0, .ref (o.2.1 17 0)), (1, .int x1)] := hl
  unfold w_X5_hiddenWith at h
  refine lv_aload_n hx hb dX5_hiddenWith_0 rfl (lv_at hl 0 rfl) ?_
  refine g_cv hw (g_runV (As := []) (rest := []) hx hb hml hown hts mX5_lays vX5_lays kX5_140 hw 17 0 (ci_17 (by decide)) (bi_17 (by decide) hn) rfl rfl (c_X5_lays hn h) rfl rfl ⟨Nat.le_of_ble_eq_true rfl, Nat.le_of_ble_eq_true rfl⟩ rfl hl.1 rfl (Nat.le_of_ble_eq_true rfl) dX5_hiddenWith_1 ⟨Nat.zero_le _, Nat.zero_le _⟩) ?_
  clear h hw; intro M1 H locs hw h
  refine lv_aload_n hx hb dX5_hiddenWith_4 rfl (lv_at hl 0 rfl) ?_
  refine lv_aload_n hx hb dX5_hiddenWith_5 rfl (lv_at hl 0 rfl) ?_
  refine g_getf hx hb hts in_X5 hown hw 17 0 (ci_17 (by decide)) (bi_17 (by decide) hn) rfl rfl 0 (by decide) kX5_7 rfl dX5_hiddenWith_6 ?_
  refine lv_iconst (v := 0) hx hb dX5_hiddenWith_9 (by decide) ?_
  refine g_iald hx hb hw 18 0 (ci_18 (by decide)) (bi_18 (by decide) hn) rfl h dX5_hiddenWith_10 ?_
  clear h; intro v2 h
  refine lv_aload_n hx hb dX5_hiddenWith_11 rfl (lv_at hl 0 rfl) ?_
  refine g_getf hx hb hts in_X5 hown hw 17 0 (ci_17 (by decide)) (bi_17 (by decide) hn) rfl rfl 0 (by decide) kX5_7 rfl dX5_hiddenWith_12 ?_
  refine lv_iconst (v := 1) hx hb dX5_hiddenWith_15 (by decide) ?_
  refine g_iald hx hb hw 18 0 (ci_18 (by decide)) (bi_18 (by decide) hn) rfl h dX5_hiddenWith_16 ?_
  clear h; intro v3 h
  refine lv_iload_n hx hb dX5_hiddenWith_17 rfl (lv_at hl 1 rfl) ?_
  refine g_ci hw (g_runV (As := [.int v2, .int v3, .int x1]) (rest := []) hx hb hml hown hts mX5_hidden vX5_hidden kX5_136 hw 17 0 (ci_17 (by decide)) (bi_17 (by decide) hn) rfl rfl (c_X5_hidden hn h) rfl rfl ⟨Nat.le_of_ble_eq_true rfl, Nat.le_of_ble_eq_true rfl⟩ rfl hl.1 rfl (Nat.le_of_ble_eq_true rfl) dX5_hiddenWith_18 ⟨Nat.zero_le _, Nat.zero_le _⟩) ?_
  clear h hw; intro v5 M4 H locs hw h
  exact g_iret hx hb hr hlocks hw h dX5_hiddenWith_21
abbrev rm_X5_ifRows : Room := { frames := 8, cells := 0, slots := 0, locals := 182 }
set_option maxHeartbeats 4000000 in
set_option maxRecDepth 100000 in
theorem c_X5_ifRows {o : Om} {l : Launch} (hn : 122 ≤ o.2.2.2) {M : Mm} {x1 : Int32} {Q : Int32 → Mm → Prop} (h : w_X5_ifRows M x1 Q) : CI o l yX5_ifRows cX5_ifRows 2 rm_X5_ifRows [.ref (o.2.1 17 0), .int x1] M Q := by
  refine g_start (by decide +kernel) (Nat.le_of_ble_eq_true rfl) ?_
  intro p e s m args below meth c hx hb hr hlocks hml hown hts hw ls hl
  replace hl : lv_has ls 2 [(0, .ref (o.2.1 17 0)), (1, .int x1)] := hl
  unfold w_X5_ifRows at h
  refine lv_iload_n hx hb dX5_ifRows_0 rfl (lv_at hl 1 rfl) ?_
  refine lv_iconst (v := 1) hx hb dX5_ifRows_1 (by decide) ?_
  refine lv_bipush (v := 12) hx hb dX5_ifRows_2 (by decide) ?_
  refine g_cz hw (g_runS (As := [.int x1, .int (1 : Int32), .int (12 : Int32)]) (rest := []) hx hb hml hown hts mX5_in sX5_in kX5_32 hw (c_X5_in hn h) rfl rfl ⟨Nat.le_of_ble_eq_true rfl, Nat.le_of_ble_eq_true rfl⟩ rfl hl.1 rfl (Nat.le_of_ble_eq_true rfl) dX5_ifRows_4 ⟨Nat.zero_le _, Nat.zero_le _⟩) ?_
  clear h hw; intro v2 M1 H locs hw hz_v2 h
  refine g_if_eq (tgt := 18) hx hb h dX5_ifRows_7 (by decide) ?_ ?_
  · clear h; intro h
    refine lv_iconst (v := (-1)) hx hb dX5_ifRows_18 (by decide) ?_
    exact g_iret hx hb hr hlocks hw h dX5_ifRows_19
  · clear h; intro h
    refine lv_aload_n hx hb dX5_ifRows_10 rfl (lv_at hl 0 rfl) ?_
    refine lv_iload_n hx hb dX5_ifRows_11 rfl (lv_at hl 1 rfl) ?_
    refine g_ci hw (g_runV (As := [.int x1]) (rest := []) hx hb hml hown hts mX5_hiddenWith vX5_hiddenWith kX5_214 hw 17 0 (ci_17 (by decide)) (bi_17 (by decide) hn) rfl rfl (c_X5_hiddenWith hn h) rfl rfl ⟨Nat.le_of_ble_eq_true rfl, Nat.le_of_ble_eq_true rfl⟩ rfl hl.1 rfl (Nat.le_of_ble_eq_true rfl) dX5_ifRows_12 ⟨Nat.zero_le _, Nat.zero_le _⟩) ?_
    clear h hw; intro v4 M3 H locs hw h
    refine lv_goto (tgt := 19) hx hb dX5_ifRows_15 (by decide) ?_
    exact g_iret hx hb hr hlocks hw h dX5_ifRows_19
abbrev rm_X5_isEmpty : Room := { frames := 2, cells := 0, slots := 0, locals := 44 }
set_option maxHeartbeats 4000000 in
set_option maxRecDepth 100000 in
theorem c_X5_isEmpty {o : Om} {l : Launch} (hn : 122 ≤ o.2.2.2) {M : Mm} {x1 : Int32} {Q : Int32 → Mm → Prop} (h : w_X5_isEmpty M x1 Q) : CZ o l yX5_isEmpty cX5_isEmpty 4 rm_X5_isEmpty [.ref (o.2.1 17 0), .int x1] M Q := by
  refine g_start (by decide +kernel) (Nat.le_of_ble_eq_true rfl) ?_
  intro p e s m args below meth c hx hb hr hlocks hml hown hts hw ls hl
  replace hl : lv_has ls 4 [(0, .ref (o.2.1 17 0)), (1, .int x1)] := hl
  unfold w_X5_isEmpty at h
  refine lv_iconst (v := 1) hx hb dX5_isEmpty_0 (by decide) ?_
  refine lv_istore_n (lv' := [(2, .int (1 : Int32)), (0, .ref (o.2.1 17 0)), (1, .int x1)]) hx hb dX5_isEmpty_1 rfl hl (by decide) rfl ?_
  clear hl; clear ls; intro ls hl
  refine lv_iconst (v := 0) hx hb dX5_isEmpty_2 (by decide) ?_
  refine lv_istore_n (lv' := [(3, .int (0 : Int32)), (2, .int (1 : Int32)), (0, .ref (o.2.1 17 0)), (1, .int x1)]) hx hb dX5_isEmpty_3 rfl hl (by decide) rfl ?_
  clear hl; clear ls; intro ls hl
  obtain ⟨n, h⟩ := h
  refine letK_W (body := fun K => w_X5_isEmpty_L4 x1 K) (fun (x : Int32 × Int32 × Mm) => ∀ (H : Heap) (locs : List Loc) (ls : Array Slot), WO o (WA o) s s.heap H locs x.2.2 → lv_has ls 4 [(2, .int x.1)] → W p l e rm_X5_isEmpty s m args below meth c H locs 0 0 (MQ below (QZ o Q) args s 0 0 (WA o)) (F0 m 39 ls [])) h ?_ ?_
  · clear h hw hl; clear ls; intro x h H locs ls hw hl
    obtain ⟨v12, v13, M14⟩ := x
    replace hl : lv_has ls 4 [(2, .int v12)] := hl
    dsimp only at h hw
    refine lv_iload_n hx hb dX5_isEmpty_39 rfl (lv_at hl 0 rfl) ?_
    exact g_zret hx hb hr hlocks hw h.1 h.2 dX5_isEmpty_40
  clear h; intro K4 hK4 h
  refine loop_W (body := w_X5_isEmpty_L4 x1 K4) (fun (x : Int32 × Int32 × Mm) => ∀ (H : Heap) (locs : List Loc) (ls : Array Slot), WO o (WA o) s s.heap H locs x.2.2 → lv_has ls 4 [(0, .ref (o.2.1 17 0)), (1, .int x1), (2, .int x.1), (3, .int x.2.1)] → W p l e rm_X5_isEmpty s m args below meth c H locs 0 0 (MQ below (QZ o Q) args s 0 0 (WA o)) (F0 m 4 ls [])) ?_ n _ h _ _ _ hw (lv_sub hl [2, 3, 1, 0] rfl)
  clear h hw hl; clear ls; intro R5 x hR5 h H locs ls hw hl
  obtain ⟨v1, v2, M3⟩ := x
  replace hl : lv_has ls 4 [(0, .ref (o.2.1 17 0)), (1, .int x1), (2, .int v1), (3, .int v2)] := hl
  dsimp only at hw
  unfold w_X5_isEmpty_L4 at h
  dsimp only at h
  refine lv_iload_n hx hb dX5_isEmpty_4 rfl (lv_at hl 3 rfl) ?_
  refine lv_aload_n hx hb dX5_isEmpty_5 rfl (lv_at hl 0 rfl) ?_
  refine g_getf hx hb hts in_X5 hown hw 17 0 (ci_17 (by decide)) (bi_17 (by decide) hn) rfl rfl 0 (by decide) kX5_7 rfl dX5_isEmpty_6 ?_
  refine lv_iconst (v := 4) hx hb dX5_isEmpty_9 (by decide) ?_
  refine g_iald hx hb hw 18 0 (ci_18 (by decide)) (bi_18 (by decide) hn) rfl h dX5_isEmpty_10 ?_
  clear h; intro v6 h
  refine g_icmp_ge (tgt := 39) hx hb h dX5_isEmpty_11 (by decide) ?_ ?_
  · clear h; intro h
    exact hK4 (v1, v2, M3) h _ _ _ hw (lv_sub hl [2] rfl)
  · clear h; intro h
    refine lv_iload_n hx hb dX5_isEmpty_14 rfl (lv_at hl 2 rfl) ?_
    refine g_if_eq (tgt := 31) hx hb h dX5_isEmpty_15 (by decide) ?_ ?_
    · clear h; intro h
      refine lv_iconst (v := 0) hx hb dX5_isEmpty_31 (by decide) ?_
      refine lv_istore_n (lv' := [(2, .int (0 : Int32)), (0, .ref (o.2.1 17 0)), (1, .int x1), (3, .int v2)]) hx hb dX5_isEmpty_32 rfl hl (by decide) rfl ?_
      clear hl; clear ls; intro ls hl
      refine g_iinc (k := 3) (v := (v2 + (1 : Int32))) (lv' := fun v7 => [(3, .int v7), (2, .int (0 : Int32)), (0, .ref (o.2.1 17 0)), (1, .int x1)]) hx hb dX5_isEmpty_33 hl rfl rfl (by decide) (fun _ => rfl) h ?_
      clear h hl; clear ls; intro v7 ls h hl
      refine lv_goto (tgt := 4) hx hb dX5_isEmpty_36 (by decide) ?_
      exact hR5 ((0 : Int32), v7, M3) h _ _ _ hw (lv_sub hl [2, 3, 1, 0] rfl)
    · clear h; intro h
      refine lv_aload_n hx hb dX5_isEmpty_18 rfl (lv_at hl 0 rfl) ?_
      refine lv_iload_n hx hb dX5_isEmpty_19 rfl (lv_at hl 3 rfl) ?_
      refine lv_iload_n hx hb dX5_isEmpty_20 rfl (lv_at hl 1 rfl) ?_
      refine g_cz hw (g_runV (As := [.int v2, .int x1]) (rest := []) hx hb hml hown hts mX5_isOn vX5_isOn kX5_86 hw 17 0 (ci_17 (by decide)) (bi_17 (by decide) hn) rfl rfl (c_X5_isOn hn h) rfl rfl ⟨Nat.le_of_ble_eq_true rfl, Nat.le_of_ble_eq_true rfl⟩ rfl hl.1 rfl (Nat.le_of_ble_eq_true rfl) dX5_isEmpty_21 ⟨Nat.zero_le _, Nat.zero_le _⟩) ?_
      clear h hw; intro v9 M8 H locs hw hz_v9 h
      refine g_if_ne (tgt := 31) hx hb h dX5_isEmpty_24 (by decide) ?_ ?_
      · clear h; intro h
        refine lv_iconst (v := 0) hx hb dX5_isEmpty_31 (by decide) ?_
        refine lv_istore_n (lv' := [(2, .int (0 : Int32)), (0, .ref (o.2.1 17 0)), (1, .int x1), (3, .int v2)]) hx hb dX5_isEmpty_32 rfl hl (by decide) rfl ?_
        clear hl; clear ls; intro ls hl
        refine g_iinc (k := 3) (v := (v2 + (1 : Int32))) (lv' := fun v10 => [(3, .int v10), (2, .int (0 : Int32)), (0, .ref (o.2.1 17 0)), (1, .int x1)]) hx hb dX5_isEmpty_33 hl rfl rfl (by decide) (fun _ => rfl) h ?_
        clear h hl; clear ls; intro v10 ls h hl
        refine lv_goto (tgt := 4) hx hb dX5_isEmpty_36 (by decide) ?_
        exact hR5 ((0 : Int32), v10, M8) h _ _ _ hw (lv_sub hl [2, 3, 1, 0] rfl)
      · clear h; intro h
        refine lv_iconst (v := 1) hx hb dX5_isEmpty_27 (by decide) ?_
        refine lv_goto (tgt := 32) hx hb dX5_isEmpty_28 (by decide) ?_
        refine lv_istore_n (lv' := [(2, .int (1 : Int32)), (0, .ref (o.2.1 17 0)), (1, .int x1), (3, .int v2)]) hx hb dX5_isEmpty_32 rfl hl (by decide) rfl ?_
        clear hl; clear ls; intro ls hl
        refine g_iinc (k := 3) (v := (v2 + (1 : Int32))) (lv' := fun v11 => [(3, .int v11), (2, .int (1 : Int32)), (0, .ref (o.2.1 17 0)), (1, .int x1)]) hx hb dX5_isEmpty_33 hl rfl rfl (by decide) (fun _ => rfl) h ?_
        clear h hl; clear ls; intro v11 ls h hl
        refine lv_goto (tgt := 4) hx hb dX5_isEmpty_36 (by decide) ?_
        exact hR5 ((1 : Int32), v11, M8) h _ _ _ hw (lv_sub hl [2, 3, 1, 0] rfl)
abbrev rm_X5_free : Room := { frames := 3, cells := 0, slots := 0, locals := 67 }
set_option maxHeartbeats 4000000 in
set_option maxRecDepth 100000 in
theorem c_X5_free {o : Om} {l : Launch} (hn : 122 ≤ o.2.2.2) {M : Mm} {x1 : Int32} {x2 : Int32} {Q : Int32 → Mm → Prop} (h : w_X5_free M x1 x2 Q) : CI o l yX5_free cX5_free 6 rm_X5_free [.ref (o.2.1 17 0), .int x1, .int x2] M Q := by
  refine g_start (by decide +kernel) (Nat.le_of_ble_eq_true rfl) ?_
  intro p e s m args below meth c hx hb hr hlocks hml hown hts hw ls hl
  replace hl : lv_has ls 6 [(0, .ref (o.2.1 17 0)), (1, .int x1), (2, .int x2)] := hl
  unfold w_X5_free at h
  refine lv_iload_n hx hb dX5_free_0 rfl (lv_at hl 1 rfl) ?_
  refine lv_iconst (v := 1) hx hb dX5_free_1 (by decide) ?_
  refine lv_bipush (v := 42) hx hb dX5_free_2 (by decide) ?_
  refine g_cz hw (g_runS (As := [.int x1, .int (1 : Int32), .int (42 : Int32)]) (rest := []) hx hb hml hown hts mX5_in sX5_in kX5_32 hw (c_X5_in hn h) rfl rfl ⟨Nat.le_of_ble_eq_true rfl, Nat.le_of_ble_eq_true rfl⟩ rfl hl.1 rfl (Nat.le_of_ble_eq_true rfl) dX5_free_4 ⟨Nat.zero_le _, Nat.zero_le _⟩) ?_
  clear h hw; intro v2 M1 H locs hw hz_v2 h
  refine g_if_ne (tgt := 12) hx hb h dX5_free_7 (by decide) ?_ ?_
  · clear h; intro h
    refine lv_aload_n hx hb dX5_free_12 rfl (lv_at hl 0 rfl) ?_
    refine g_getf hx hb hts in_X5 hown hw 17 0 (ci_17 (by decide)) (bi_17 (by decide) hn) rfl rfl 0 (by decide) kX5_7 rfl dX5_free_13 ?_
    refine lv_iconst (v := 0) hx hb dX5_free_16 (by decide) ?_
    refine g_iald hx hb hw 18 0 (ci_18 (by decide)) (bi_18 (by decide) hn) rfl h dX5_free_17 ?_
    clear h; intro v3 h
    refine lv_istore_n (lv' := [(3, .int v3), (0, .ref (o.2.1 17 0)), (1, .int x1), (2, .int x2)]) hx hb dX5_free_18 rfl hl (by decide) rfl ?_
    clear hl; clear ls; intro ls hl
    obtain ⟨n, h⟩ := h
    refine letK_W (body := fun K => w_X5_free_L19 x1 x2 Q K) (fun (x : Int32 × Mm) => ∀ (H : Heap) (locs : List Loc) (ls : Array Slot), WO o (WA o) s s.heap H locs x.2 → lv_has ls 6 [] → W p l e rm_X5_free s m args below meth c H locs 0 0 (MQ below (QI o Q) args s 0 0 (WA o)) (F0 m 104 ls [])) h ?_ ?_
    · clear h hw hl; clear ls; intro x h H locs ls hw hl
      obtain ⟨v30, M31⟩ := x
      replace hl : lv_has ls 6 [] := hl
      dsimp only at h hw
      refine lv_bipush (v := (-9)) hx hb dX5_free_104 (by decide) ?_
      exact g_iret hx hb hr hlocks hw h dX5_free_106
    clear h; intro K6 hK6 h
    refine loop_W (body := w_X5_free_L19 x1 x2 Q K6) (fun (x : Int32 × Mm) => ∀ (H : Heap) (locs : List Loc) (ls : Array Slot), WO o (WA o) s s.heap H locs x.2 → lv_has ls 6 [(0, .ref (o.2.1 17 0)), (1, .int x1), (2, .int x2), (3, .int x.1)] → W p l e rm_X5_free s m args below meth c H locs 0 0 (MQ below (QI o Q) args s 0 0 (WA o)) (F0 m 19 ls [])) ?_ n _ h _ _ _ hw (lv_sub hl [1, 2, 3, 0] rfl)
    clear h hw hl; clear ls; intro R7 x hR7 h H locs ls hw hl
    obtain ⟨v4, M5⟩ := x
    replace hl : lv_has ls 6 [(0, .ref (o.2.1 17 0)), (1, .int x1), (2, .int x2), (3, .int v4)] := hl
    dsimp only at hw
    unfold w_X5_free_L19 at h
    dsimp only at h
    refine lv_iload_n hx hb dX5_free_19 rfl (lv_at hl 3 rfl) ?_
    refine lv_iload_n hx hb dX5_free_20 rfl (lv_at hl 1 rfl) ?_
    refine lv_iadd hx hb dX5_free_21 ?_
    refine lv_iconst (v := 1) hx hb dX5_free_22 (by decide) ?_
    refine lv_isub hx hb dX5_free_23 ?_
    refine lv_aload_n hx hb dX5_free_24 rfl (lv_at hl 0 rfl) ?_
    refine g_getf hx hb hts in_X5 hown hw 17 0 (ci_17 (by decide)) (bi_17 (by decide) hn) rfl rfl 0 (by decide) kX5_7 rfl dX5_free_25 ?_
    refine lv_iconst (v := 1) hx hb dX5_free_28 (by decide) ?_
    refine g_iald hx hb hw 18 0 (ci_18 (by decide)) (bi_18 (by decide) hn) rfl h dX5_free_29 ?_
    clear h; intro v8 h
    refine g_icmp_gt (tgt := 104) hx hb h dX5_free_30 (by decide) ?_ ?_
    · clear h; intro h
      exact hK6 (v4, M5) h _ _ _ hw (lv_sub hl [] rfl)
    · clear h; intro h
      refine lv_iload_n hx hb dX5_free_33 rfl (lv_at hl 2 rfl) ?_
      refine letJ_W (fun (x : Int32 × Mm) => ∀ (H : Heap) (locs : List Loc) (ls : Array Slot), WO o (WA o) s s.heap H locs x.2 → lv_has ls 6 [(0, .ref (o.2.1 17 0)), (1, .int x1), (2, .int x2), (3, .int v4)] → W p l e rm_X5_free s m args below meth c H locs 0 0 (MQ below (QI o Q) args s 0 0 (WA o)) (F0 m 59 ls [.int x.1])) h ?_ ?_
      · clear h hw hl; clear ls; intro x h H locs ls hw hl
        obtain ⟨v9, M11⟩ := x
        replace hl : lv_has ls 6 [(0, .ref (o.2.1 17 0)), (1, .int x1), (2, .int x2), (3, .int v4)] := hl
        dsimp only at h
        dsimp only at hw
        refine lv_istore (lv' := [(4, .int v9), (0, .ref (o.2.1 17 0)), (1, .int x1), (2, .int x2), (3, .int v4)]) hx hb dX5_free_59 hl (by decide) rfl ?_
        clear hl; clear ls; intro ls hl
        refine lv_iload_n hx hb dX5_free_61 rfl (lv_at hl 4 rfl) ?_
        refine lv_istore (lv' := [(5, .int v4), (4, .int v9), (0, .ref (o.2.1 17 0)), (1, .int x1), (2, .int x2), (3, .int v4)]) hx hb dX5_free_62 hl (by decide) rfl ?_
        clear hl; clear ls; intro ls hl
        obtain ⟨n, h⟩ := h
        refine letK_W (body := fun K => w_X5_free_L64 x1 x2 v4 K) (fun (x : Int32 × Int32 × Mm) => ∀ (H : Heap) (locs : List Loc) (ls : Array Slot), WO o (WA o) s s.heap H locs x.2.2 → lv_has ls 6 [(0, .ref (o.2.1 17 0)), (1, .int x1), (2, .int x2), (3, .int v4), (4, .int x.1)] → W p l e rm_X5_free s m args below meth c H locs 0 0 (MQ below (QI o Q) args s 0 0 (WA o)) (F0 m 91 ls [])) h ?_ ?_
        · clear h hw hl; clear ls; intro x h H locs ls hw hl
          obtain ⟨v20, v21, M22⟩ := x
          replace hl : lv_has ls 6 [(0, .ref (o.2.1 17 0)), (1, .int x1), (2, .int x2), (3, .int v4), (4, .int v20)] := hl
          dsimp only at h hw
          refine lv_iload hx hb dX5_free_91 (lv_at hl 4 rfl) ?_
          refine g_if_eq (tgt := 98) hx hb h dX5_free_93 (by decide) ?_ ?_
          · clear h; intro h
            refine g_iinc (k := 3) (v := (v4 + (1 : Int32))) (lv' := fun v23 => [(3, .int v23), (0, .ref (o.2.1 17 0)), (1, .int x1), (2, .int x2), (4, .int v20)]) hx hb dX5_free_98 hl rfl rfl (by decide) (fun _ => rfl) h ?_
            clear h hl; clear ls; intro v23 ls h hl
            refine lv_goto (tgt := 19) hx hb dX5_free_101 (by decide) ?_
            exact hR7 (v23, M22) h _ _ _ hw (lv_sub hl [1, 2, 3, 0] rfl)
          · clear h; intro h
            refine lv_iload_n hx hb dX5_free_96 rfl (lv_at hl 3 rfl) ?_
            exact g_iret hx hb hr hlocks hw h dX5_free_97
        clear h; intro K15 hK15 h
        refine loop_W (body := w_X5_free_L64 x1 x2 v4 K15) (fun (x : Int32 × Int32 × Mm) => ∀ (H : Heap) (locs : List Loc) (ls : Array Slot), WO o (WA o) s s.heap H locs x.2.2 → lv_has ls 6 [(0, .ref (o.2.1 17 0)), (1, .int x1), (2, .int x2), (3, .int v4), (4, .int x.1), (5, .int x.2.1)] → W p l e rm_X5_free s m args below meth c H locs 0 0 (MQ below (QI o Q) args s 0 0 (WA o)) (F0 m 64 ls [])) ?_ n _ h _ _ _ hw (lv_sub hl [2, 3, 4, 5, 1, 0] rfl)
        clear h hw hl; clear ls; intro R16 x hR16 h H locs ls hw hl
        obtain ⟨v12, v13, M14⟩ := x
        replace hl : lv_has ls 6 [(0, .ref (o.2.1 17 0)), (1, .int x1), (2, .int x2), (3, .int v4), (4, .int v12), (5, .int v13)] := hl
        dsimp only at hw
        unfold w_X5_free_L64 at h
        dsimp only at h
        refine lv_iload hx hb dX5_free_64 (lv_at hl 5 rfl) ?_
        refine lv_iload_n hx hb dX5_free_66 rfl (lv_at hl 3 rfl) ?_
        refine lv_iload_n hx hb dX5_free_67 rfl (lv_at hl 1 rfl) ?_
        refine lv_iadd hx hb dX5_free_68 ?_
        refine g_icmp_ge (tgt := 91) hx hb h dX5_free_69 (by decide) ?_ ?_
        · clear h; intro h
          exact hK15 (v12, v13, M14) h _ _ _ hw (lv_sub hl [0, 1, 2, 3, 4] rfl)
        · clear h; intro h
          refine lv_iload hx hb dX5_free_72 (lv_at hl 4 rfl) ?_
          refine g_if_eq (tgt := 91) hx hb h dX5_free_74 (by decide) ?_ ?_
          · clear h; intro h
            exact hK15 (v12, v13, M14) h _ _ _ hw (lv_sub hl [0, 1, 2, 3, 4] rfl)
          · clear h; intro h
            refine lv_aload_n hx hb dX5_free_77 rfl (lv_at hl 0 rfl) ?_
            refine lv_iload hx hb dX5_free_78 (lv_at hl 5 rfl) ?_
            refine g_cz hw (g_runV (As := [.int v13]) (rest := []) hx hb hml hown hts mX5_isEmpty vX5_isEmpty kX5_217 hw 17 0 (ci_17 (by decide)) (bi_17 (by decide) hn) rfl rfl (c_X5_isEmpty hn h) rfl rfl ⟨Nat.le_of_ble_eq_true rfl, Nat.le_of_ble_eq_true rfl⟩ rfl hl.1 rfl (Nat.le_of_ble_eq_true rfl) dX5_free_80 ⟨Nat.zero_le _, Nat.zero_le _⟩) ?_
            clear h hw; intro v18 M17 H locs hw hz_v18 h
            refine lv_istore (lv' := [(4, .int v18), (0, .ref (o.2.1 17 0)), (1, .int x1), (2, .int x2), (3, .int v4), (5, .int v13)]) hx hb dX5_free_83 hl (by decide) rfl ?_
            clear hl; clear ls; intro ls hl
            refine g_iinc (k := 5) (v := (v13 + (1 : Int32))) (lv' := fun v19 => [(5, .int v19), (4, .int v18), (0, .ref (o.2.1 17 0)), (1, .int x1), (2, .int x2), (3, .int v4)]) hx hb dX5_free_85 hl rfl rfl (by decide) (fun _ => rfl) h ?_
            clear h hl; clear ls; intro v19 ls h hl
            refine lv_goto (tgt := 64) hx hb dX5_free_88 (by decide) ?_
            exact hR16 (v18, v19, M17) h _ _ _ hw (lv_sub hl [2, 3, 4, 5, 1, 0] rfl)
      clear h; intro J10 hJ10 h
      refine letJ_W (fun (x : Mm) => ∀ (H : Heap) (locs : List Loc) (ls : Array Slot), WO o (WA o) s s.heap H locs x → lv_has ls 6 [(0, .ref (o.2.1 17 0)), (1, .int x1), (2, .int x2), (3, .int v4)] → W p l e rm_X5_free s m args below meth c H locs 0 0 (MQ below (QI o Q) args s 0 0 (WA o)) (F0 m 54 ls [])) h ?_ ?_
      · clear h hw hl; clear ls; intro x h H locs ls hw hl
        obtain ⟨M25, rfl⟩ : ∃ z, z = x := ⟨_, rfl⟩
        replace hl : lv_has ls 6 [(0, .ref (o.2.1 17 0)), (1, .int x1), (2, .int x2), (3, .int v4)] := hl
        refine lv_iconst (v := 1) hx hb dX5_free_54 (by decide) ?_
        refine lv_goto (tgt := 59) hx hb dX5_free_55 (by decide) ?_
        exact hJ10 ((1 : Int32), M25) h _ _ _ hw (lv_sub hl [0, 1, 2, 3] rfl)
      clear h; intro J24 hJ24 h
      refine g_if_eq (tgt := 54) hx hb h dX5_free_34 (by decide) ?_ ?_
      · clear h; intro h
        exact hJ24 M5 h _ _ _ hw (lv_sub hl [0, 1, 2, 3] rfl)
      · clear h; intro h
        refine lv_aload_n hx hb dX5_free_37 rfl (lv_at hl 0 rfl) ?_
        refine lv_iload_n hx hb dX5_free_38 rfl (lv_at hl 3 rfl) ?_
        refine g_ci hw (g_runV (As := [.int v4]) (rest := []) hx hb hml hown hts mX5_weekOf vX5_weekOf kX5_46 hw 17 0 (ci_17 (by decide)) (bi_17 (by decide) hn) rfl rfl (c_X5_weekOf hn h) rfl rfl ⟨Nat.le_of_ble_eq_true rfl, Nat.le_of_ble_eq_true rfl⟩ rfl hl.1 rfl (Nat.le_of_ble_eq_true rfl) dX5_free_39 ⟨Nat.zero_le _, Nat.zero_le _⟩) ?_
        clear h hw; intro v27 M26 H locs hw h
        refine lv_aload_n hx hb dX5_free_42 rfl (lv_at hl 0 rfl) ?_
        refine lv_iload_n hx hb dX5_free_43 rfl (lv_at hl 3 rfl) ?_
        refine lv_iload_n hx hb dX5_free_44 rfl (lv_at hl 1 rfl) ?_
        refine lv_iadd hx hb dX5_free_45 ?_
        refine lv_iconst (v := 1) hx hb dX5_free_46 (by decide) ?_
        refine lv_isub hx hb dX5_free_47 ?_
        refine g_ci hw (g_runV (As := [.int ((v4 + x1) - (1 : Int32))]) (rest := [.int v27]) hx hb hml hown hts mX5_weekOf vX5_weekOf kX5_46 hw 17 0 (ci_17 (by decide)) (bi_17 (by decide) hn) rfl rfl (c_X5_weekOf hn h) rfl rfl ⟨Nat.le_of_ble_eq_true rfl, Nat.le_of_ble_eq_true rfl⟩ rfl hl.1 rfl (Nat.le_of_ble_eq_true rfl) dX5_free_48 ⟨Nat.zero_le _, Nat.zero_le _⟩) ?_
        clear h hw; intro v29 M28 H locs hw h
        refine g_icmp_ne (tgt := 58) hx hb h dX5_free_51 (by decide) ?_ ?_
        · clear h; intro h
          refine lv_iconst (v := 0) hx hb dX5_free_58 (by decide) ?_
          exact hJ10 ((0 : Int32), M28) h _ _ _ hw (lv_sub hl [0, 1, 2, 3] rfl)
        · clear h; intro h
          exact hJ24 M28 h _ _ _ hw (lv_sub hl [0, 1, 2, 3] rfl)
  · clear h; intro h
    refine lv_iconst (v := (-1)) hx hb dX5_free_10 (by decide) ?_
    exact g_iret hx hb hr hlocks hw h dX5_free_11
abbrev rm_X5_bestDay : Room := { frames := 8, cells := 0, slots := 0, locals := 182 }
set_option maxHeartbeats 4000000 in
set_option maxRecDepth 100000 in
theorem c_X5_bestDay {o : Om} {l : Launch} (hn : 122 ≤ o.2.2.2) {M : Mm} {x1 : Int32} {Q : Int32 → Mm → Prop} (h : w_X5_bestDay M x1 Q) : CI o l yX5_bestDay cX5_bestDay 11 rm_X5_bestDay [.ref (o.2.1 17 0), .int x1] M Q := by
  refine g_start (by decide +kernel) (Nat.le_of_ble_eq_true rfl) ?_
  intro p e s m args below meth c hx hb hr hlocks hml hown hts hw ls hl
  replace hl : lv_has ls 11 [(0, .ref (o.2.1 17 0)), (1, .int x1)] := hl
  unfold w_X5_bestDay at h
  refine lv_aload_n hx hb dX5_bestDay_0 rfl (lv_at hl 0 rfl) ?_
  refine lv_iload_n hx hb dX5_bestDay_1 rfl (lv_at hl 1 rfl) ?_
  refine g_cz hw (g_runV (As := [.int x1]) (rest := []) hx hb hml hown hts mX5_isEntry vX5_isEntry kX5_180 hw 17 0 (ci_17 (by decide)) (bi_17 (by decide) hn) rfl rfl (c_X5_isEntry hn h) rfl rfl ⟨Nat.le_of_ble_eq_true rfl, Nat.le_of_ble_eq_true rfl⟩ rfl hl.1 rfl (Nat.le_of_ble_eq_true rfl) dX5_bestDay_2 ⟨Nat.zero_le _, Nat.zero_le _⟩) ?_
  clear h hw; intro v2 M1 H locs hw hz_v2 h
  refine g_if_ne (tgt := 10) hx hb h dX5_bestDay_5 (by decide) ?_ ?_
  · clear h; intro h
    refine lv_aload_n hx hb dX5_bestDay_10 rfl (lv_at hl 0 rfl) ?_
    refine lv_iload_n hx hb dX5_bestDay_11 rfl (lv_at hl 1 rfl) ?_
    refine g_ci hw (g_runV (As := [.int x1]) (rest := []) hx hb hml hown hts mX5_begins vX5_begins kX5_40 hw 17 0 (ci_17 (by decide)) (bi_17 (by decide) hn) rfl rfl (c_X5_begins hn h) rfl rfl ⟨Nat.le_of_ble_eq_true rfl, Nat.le_of_ble_eq_true rfl⟩ rfl hl.1 rfl (Nat.le_of_ble_eq_true rfl) dX5_bestDay_12 ⟨Nat.zero_le _, Nat.zero_le _⟩) ?_
    clear h hw; intro v4 M3 H locs hw h
    refine lv_istore_n (lv' := [(2, .int v4), (0, .ref (o.2.1 17 0)), (1, .int x1)]) hx hb dX5_bestDay_15 rfl hl (by decide) rfl ?_
    clear hl; clear ls; intro ls hl
    refine lv_bipush (v := (-9)) hx hb dX5_bestDay_16 (by decide) ?_
    refine lv_istore_n (lv' := [(3, .int (-9 : Int32)), (2, .int v4), (0, .ref (o.2.1 17 0)), (1, .int x1)]) hx hb dX5_bestDay_18 rfl hl (by decide) rfl ?_
    clear hl; clear ls; intro ls hl
    refine lv_iconst (v := 0) hx hb dX5_bestDay_19 (by decide) ?_
    refine lv_istore (lv' := [(4, .int (0 : Int32)), (3, .int (-9 : Int32)), (2, .int v4), (0, .ref (o.2.1 17 0)), (1, .int x1)]) hx hb dX5_bestDay_20 hl (by decide) rfl ?_
    clear hl; clear ls; intro ls hl
    refine lv_iconst (v := 0) hx hb dX5_bestDay_22 (by decide) ?_
    refine lv_istore (lv' := [(5, .int (0 : Int32)), (4, .int (0 : Int32)), (3, .int (-9 : Int32)), (2, .int v4), (0, .ref (o.2.1 17 0)), (1, .int x1)]) hx hb dX5_bestDay_23 hl (by decide) rfl ?_
    clear hl; clear ls; intro ls hl
    refine lv_aload_n hx hb dX5_bestDay_25 rfl (lv_at hl 4 rfl) ?_
    refine g_getf hx hb hts in_X5 hown hw 17 0 (ci_17 (by decide)) (bi_17 (by decide) hn) rfl rfl 0 (by decide) kX5_7 rfl dX5_bestDay_26 ?_
    refine lv_iconst (v := 0) hx hb dX5_bestDay_29 (by decide) ?_
    refine g_iald hx hb hw 18 0 (ci_18 (by decide)) (bi_18 (by decide) hn) rfl h dX5_bestDay_30 ?_
    clear h; intro v5 h
    refine lv_istore (lv' := [(6, .int v5), (5, .int (0 : Int32)), (4, .int (0 : Int32)), (3, .int (-9 : Int32)), (2, .int v4), (0, .ref (o.2.1 17 0)), (1, .int x1)]) hx hb dX5_bestDay_31 hl (by decide) rfl ?_
    clear hl; clear ls; intro ls hl
    obtain ⟨n, h⟩ := h
    refine letK_W (body := fun K => w_X5_bestDay_L33 x1 v4 K) (fun (x : Int32 × Int32 × Int32 × Int32 × Mm) => ∀ (H : Heap) (locs : List Loc) (ls : Array Slot), WO o (WA o) s s.heap H locs x.2.2.2.2 → lv_has ls 11 [(3, .int x.1)] → W p l e rm_X5_bestDay s m args below meth c H locs 0 0 (MQ below (QI o Q) args s 0 0 (WA o)) (F0 m 186 ls [])) h ?_ ?_
    · clear h hw hl; clear ls; intro x h H locs ls hw hl
      obtain ⟨v35, v36, v37, v38, M39⟩ := x
      replace hl : lv_has ls 11 [(3, .int v35)] := hl
      dsimp only at h hw
      refine lv_iload_n hx hb dX5_bestDay_186 rfl (lv_at hl 0 rfl) ?_
      exact g_iret hx hb hr hlocks hw h dX5_bestDay_187
    clear h; intro K11 hK11 h
    refine loop_W (body := w_X5_bestDay_L33 x1 v4 K11) (fun (x : Int32 × Int32 × Int32 × Int32 × Mm) => ∀ (H : Heap) (locs : List Loc) (ls : Array Slot), WO o (WA o) s s.heap H locs x.2.2.2.2 → lv_has ls 11 [(0, .ref (o.2.1 17 0)), (1, .int x1), (2, .int v4), (3, .int x.1), (4, .int x.2.1), (5, .int x.2.2.1), (6, .int x.2.2.2.1)] → W p l e rm_X5_bestDay s m args below meth c H locs 0 0 (MQ below (QI o Q) args s 0 0 (WA o)) (F0 m 33 ls [])) ?_ n _ h _ _ _ hw (lv_sub hl [5, 6, 4, 3, 2, 1, 0] rfl)
    clear h hw hl; clear ls; intro R12 x hR12 h H locs ls hw hl
    obtain ⟨v6, v7, v8, v9, M10⟩ := x
    replace hl : lv_has ls 11 [(0, .ref (o.2.1 17 0)), (1, .int x1), (2, .int v4), (3, .int v6), (4, .int v7), (5, .int v8), (6, .int v9)] := hl
    dsimp only at hw
    unfold w_X5_bestDay_L33 at h
    dsimp only at h
    refine lv_iload hx hb dX5_bestDay_33 (lv_at hl 6 rfl) ?_
    refine lv_aload_n hx hb dX5_bestDay_35 rfl (lv_at hl 0 rfl) ?_
    refine g_getf hx hb hts in_X5 hown hw 17 0 (ci_17 (by decide)) (bi_17 (by decide) hn) rfl rfl 0 (by decide) kX5_7 rfl dX5_bestDay_36 ?_
    refine lv_iconst (v := 1) hx hb dX5_bestDay_39 (by decide) ?_
    refine g_iald hx hb hw 18 0 (ci_18 (by decide)) (bi_18 (by decide) hn) rfl h dX5_bestDay_40 ?_
    clear h; intro v13 h
    refine g_icmp_gt (tgt := 186) hx hb h dX5_bestDay_41 (by decide) ?_ ?_
    · clear h; intro h
      exact hK11 (v6, v7, v8, v9, M10) h _ _ _ hw (lv_sub hl [3] rfl)
    · clear h; intro h
      refine lv_iload hx hb dX5_bestDay_44 (lv_at hl 6 rfl) ?_
      refine lv_iload_n hx hb dX5_bestDay_46 rfl (lv_at hl 2 rfl) ?_
      refine lv_isub hx hb dX5_bestDay_47 ?_
      refine g_topi h ?_
      clear h; intro v14 h
      refine lv_istore (lv' := [(7, .int v14), (0, .ref (o.2.1 17 0)), (1, .int x1), (2, .int v4), (3, .int v6), (4, .int v7), (5, .int v8), (6, .int v9)]) hx hb dX5_bestDay_48 hl (by decide) rfl ?_
      clear hl; clear ls; intro ls hl
      refine lv_aload_n hx hb dX5_bestDay_50 rfl (lv_at hl 1 rfl) ?_
      refine lv_iload_n hx hb dX5_bestDay_51 rfl (lv_at hl 2 rfl) ?_
      refine g_ci hw (g_runV (As := [.int x1]) (rest := []) hx hb hml hown hts mX5_ends vX5_ends kX5_36 hw 17 0 (ci_17 (by decide)) (bi_17 (by decide) hn) rfl rfl (c_X5_ends hn h) rfl rfl ⟨Nat.le_of_ble_eq_true rfl, Nat.le_of_ble_eq_true rfl⟩ rfl hl.1 rfl (Nat.le_of_ble_eq_true rfl) dX5_bestDay_52 ⟨Nat.zero_le _, Nat.zero_le _⟩) ?_
      clear h hw; intro v16 M15 H locs hw h
      refine lv_iload hx hb dX5_bestDay_55 (lv_at hl 0 rfl) ?_
      refine lv_iadd hx hb dX5_bestDay_57 ?_
      refine lv_sipush (v := 999) hx hb dX5_bestDay_58 (by decide) ?_
      refine g_icmp_gt (tgt := 180) hx hb h dX5_bestDay_61 (by decide) ?_ ?_
      · clear h; intro h
        refine g_iinc (k := 7) (v := (v9 + (1 : Int32))) (lv' := fun v17 => [(6, .int v17), (7, .int v14), (0, .ref (o.2.1 17 0)), (1, .int x1), (2, .int v4), (3, .int v6), (4, .int v7), (5, .int v8)]) hx hb dX5_bestDay_180 hl rfl rfl (by decide) (fun _ => rfl) h ?_
        clear h hl; clear ls; intro v17 ls h hl
        refine lv_goto (tgt := 33) hx hb dX5_bestDay_183 (by decide) ?_
        exact hR12 (v6, v7, v8, v17, M15) h _ _ _ hw (lv_sub hl [2, 3, 4, 5, 6, 7, 0] rfl)
      · clear h; intro h
        refine lv_aload_n hx hb dX5_bestDay_64 rfl (lv_at hl 1 rfl) ?_
        refine lv_iload_n hx hb dX5_bestDay_65 rfl (lv_at hl 2 rfl) ?_
        refine lv_iload hx hb dX5_bestDay_66 (lv_at hl 0 rfl) ?_
        refine g_cv hw (g_runV (As := [.int x1, .int v14]) (rest := []) hx hb hml hown hts mX5_moves vX5_moves kX5_183 hw 17 0 (ci_17 (by decide)) (bi_17 (by decide) hn) rfl rfl (c_X5_moves hn h) rfl rfl ⟨Nat.le_of_ble_eq_true rfl, Nat.le_of_ble_eq_true rfl⟩ rfl hl.1 rfl (Nat.le_of_ble_eq_true rfl) dX5_bestDay_68 ⟨Nat.zero_le _, Nat.zero_le _⟩) ?_
        clear h hw; intro M18 H locs hw h
        refine lv_aload_n hx hb dX5_bestDay_71 rfl (lv_at hl 1 rfl) ?_
        refine lv_aload_n hx hb dX5_bestDay_72 rfl (lv_at hl 1 rfl) ?_
        refine g_getf hx hb hts in_X5 hown hw 17 0 (ci_17 (by decide)) (bi_17 (by decide) hn) rfl rfl 0 (by decide) kX5_7 rfl dX5_bestDay_73 ?_
        refine lv_iconst (v := 3) hx hb dX5_bestDay_76 (by decide) ?_
        refine g_iald hx hb hw 18 0 (ci_18 (by decide)) (bi_18 (by decide) hn) rfl h dX5_bestDay_77 ?_
        clear h; intro v19 h
        refine g_ci hw (g_runV (As := [.int v19]) (rest := []) hx hb hml hown hts mX5_hiddenWith vX5_hiddenWith kX5_214 hw 17 0 (ci_17 (by decide)) (bi_17 (by decide) hn) rfl rfl (c_X5_hiddenWith hn h) rfl rfl ⟨Nat.le_of_ble_eq_true rfl, Nat.le_of_ble_eq_true rfl⟩ rfl hl.1 rfl (Nat.le_of_ble_eq_true rfl) dX5_bestDay_78 ⟨Nat.zero_le _, Nat.zero_le _⟩) ?_
        clear h hw; intro v21 M20 H locs hw h
        refine lv_istore (lv' := [(8, .int v21), (7, .int v14), (0, .ref (o.2.1 17 0)), (1, .int x1), (2, .int v4), (3, .int v6), (4, .int v7), (5, .int v8), (6, .int v9)]) hx hb dX5_bestDay_81 hl (by decide) rfl ?_
        clear hl; clear ls; intro ls hl
        refine lv_aload_n hx hb dX5_bestDay_83 rfl (lv_at hl 2 rfl) ?_
        refine lv_iload_n hx hb dX5_bestDay_84 rfl (lv_at hl 3 rfl) ?_
        refine lv_iload hx hb dX5_bestDay_85 (lv_at hl 1 rfl) ?_
        refine lv_ineg hx hb dX5_bestDay_87 ?_
        refine g_cv hw (g_runV (As := [.int x1, .int (-v14)]) (rest := []) hx hb hml hown hts mX5_moves vX5_moves kX5_183 hw 17 0 (ci_17 (by decide)) (bi_17 (by decide) hn) rfl rfl (c_X5_moves hn h) rfl rfl ⟨Nat.le_of_ble_eq_true rfl, Nat.le_of_ble_eq_true rfl⟩ rfl hl.1 rfl (Nat.le_of_ble_eq_true rfl) dX5_bestDay_88 ⟨Nat.zero_le _, Nat.zero_le _⟩) ?_
        clear h hw; intro M22 H locs hw h
        refine lv_iload hx hb dX5_bestDay_91 (lv_at hl 1 rfl) ?_
        refine letJ_W (fun (x : Int32) => ∀ (H : Heap) (locs : List Loc) (ls : Array Slot), WO o (WA o) s s.heap H locs M22 → lv_has ls 11 [(0, .ref (o.2.1 17 0)), (1, .int x1), (2, .int v4), (3, .int v6), (4, .int v7), (5, .int v8), (6, .int v9), (8, .int v21)] → W p l e rm_X5_bestDay s m args below meth c H locs 0 0 (MQ below (QI o Q) args s 0 0 (WA o)) (F0 m 104 ls [.int x])) h ?_ ?_
        · clear h hw hl; clear ls; intro x h H locs ls hw hl
          obtain ⟨v23, rfl⟩ : ∃ z, z = x := ⟨_, rfl⟩
          replace hl : lv_has ls 11 [(0, .ref (o.2.1 17 0)), (1, .int x1), (2, .int v4), (3, .int v6), (4, .int v7), (5, .int v8), (6, .int v9), (8, .int v21)] := hl
          refine lv_istore (lv' := [(9, .int v23), (0, .ref (o.2.1 17 0)), (1, .int x1), (2, .int v4), (3, .int v6), (4, .int v7), (5, .int v8), (6, .int v9), (8, .int v21)]) hx hb dX5_bestDay_104 hl (by decide) rfl ?_
          clear hl; clear ls; intro ls hl
          refine lv_iload_n hx hb dX5_bestDay_106 rfl (lv_at hl 4 rfl) ?_
          refine lv_bipush (v := (-9)) hx hb dX5_bestDay_107 (by decide) ?_
          refine letJ_W (fun (x : Int32) => ∀ (H : Heap) (locs : List Loc) (ls : Array Slot), WO o (WA o) s s.heap H locs M22 → lv_has ls 11 [(0, .ref (o.2.1 17 0)), (1, .int x1), (2, .int v4), (3, .int v6), (4, .int v7), (5, .int v8), (6, .int v9), (8, .int v21), (9, .int v23)] → W p l e rm_X5_bestDay s m args below meth c H locs 0 0 (MQ below (QI o Q) args s 0 0 (WA o)) (F0 m 138 ls [.int x])) h ?_ ?_
          · clear h hw hl; clear ls; intro x h H locs ls hw hl
            obtain ⟨v25, rfl⟩ : ∃ z, z = x := ⟨_, rfl⟩
            replace hl : lv_has ls 11 [(0, .ref (o.2.1 17 0)), (1, .int x1), (2, .int v4), (3, .int v6), (4, .int v7), (5, .int v8), (6, .int v9), (8, .int v21), (9, .int v23)] := hl
            refine lv_istore (lv' := [(10, .int v25), (0, .ref (o.2.1 17 0)), (1, .int x1), (2, .int v4), (3, .int v6), (4, .int v7), (5, .int v8), (6, .int v9), (8, .int v21), (9, .int v23)]) hx hb dX5_bestDay_138 hl (by decide) rfl ?_
            clear hl; clear ls; intro ls hl
            refine lv_iload hx hb dX5_bestDay_140 (lv_at hl 0 rfl) ?_
            refine letJ_W (fun (x : Int32) => ∀ (H : Heap) (locs : List Loc) (ls : Array Slot), WO o (WA o) s s.heap H locs M22 → lv_has ls 11 [(0, .ref (o.2.1 17 0)), (1, .int x1), (2, .int v4), (4, .int v7), (5, .int v8), (6, .int v9), (8, .int v21), (9, .int v23), (10, .int v25)] → W p l e rm_X5_bestDay s m args below meth c H locs 0 0 (MQ below (QI o Q) args s 0 0 (WA o)) (F0 m 151 ls [.int x])) h ?_ ?_
            · clear h hw hl; clear ls; intro x h H locs ls hw hl
              obtain ⟨v27, rfl⟩ : ∃ z, z = x := ⟨_, rfl⟩
              replace hl : lv_has ls 11 [(0, .ref (o.2.1 17 0)), (1, .int x1), (2, .int v4), (4, .int v7), (5, .int v8), (6, .int v9), (8, .int v21), (9, .int v23), (10, .int v25)] := hl
              refine lv_istore_n (lv' := [(3, .int v27), (0, .ref (o.2.1 17 0)), (1, .int x1), (2, .int v4), (4, .int v7), (5, .int v8), (6, .int v9), (8, .int v21), (9, .int v23), (10, .int v25)]) hx hb dX5_bestDay_151 rfl hl (by decide) rfl ?_
              clear hl; clear ls; intro ls hl
              refine lv_iload hx hb dX5_bestDay_152 (lv_at hl 9 rfl) ?_
              refine letJ_W (fun (x : Int32) => ∀ (H : Heap) (locs : List Loc) (ls : Array Slot), WO o (WA o) s s.heap H locs M22 → lv_has ls 11 [(0, .ref (o.2.1 17 0)), (1, .int x1), (2, .int v4), (3, .int v27), (5, .int v8), (6, .int v9), (9, .int v23), (10, .int v25)] → W p l e rm_X5_bestDay s m args below meth c H locs 0 0 (MQ below (QI o Q) args s 0 0 (WA o)) (F0 m 164 ls [.int x])) h ?_ ?_
              · clear h hw hl; clear ls; intro x h H locs ls hw hl
                obtain ⟨v29, rfl⟩ : ∃ z, z = x := ⟨_, rfl⟩
                replace hl : lv_has ls 11 [(0, .ref (o.2.1 17 0)), (1, .int x1), (2, .int v4), (3, .int v27), (5, .int v8), (6, .int v9), (9, .int v23), (10, .int v25)] := hl
                refine lv_istore (lv' := [(4, .int v29), (0, .ref (o.2.1 17 0)), (1, .int x1), (2, .int v4), (3, .int v27), (5, .int v8), (6, .int v9), (9, .int v23), (10, .int v25)]) hx hb dX5_bestDay_164 hl (by decide) rfl ?_
                clear hl; clear ls; intro ls hl
                refine lv_iload hx hb dX5_bestDay_166 (lv_at hl 8 rfl) ?_
                refine g_if_eq (tgt := 176) hx hb h dX5_bestDay_168 (by decide) ?_ ?_
                · clear h; intro h
                  refine lv_iload hx hb dX5_bestDay_176 (lv_at hl 5 rfl) ?_
                  refine lv_istore (lv' := [(5, .int v8), (4, .int v29), (0, .ref (o.2.1 17 0)), (1, .int x1), (2, .int v4), (3, .int v27), (6, .int v9), (9, .int v23), (10, .int v25)]) hx hb dX5_bestDay_178 hl (by decide) rfl ?_
                  clear hl; clear ls; intro ls hl
                  refine g_iinc (k := 6) (v := (v9 + (1 : Int32))) (lv' := fun v31 => [(6, .int v31), (5, .int v8), (4, .int v29), (0, .ref (o.2.1 17 0)), (1, .int x1), (2, .int v4), (3, .int v27), (9, .int v23), (10, .int v25)]) hx hb dX5_bestDay_180 hl rfl rfl (by decide) (fun _ => rfl) h ?_
                  clear h hl; clear ls; intro v31 ls h hl
                  refine lv_goto (tgt := 33) hx hb dX5_bestDay_183 (by decide) ?_
                  exact hR12 (v27, v29, v8, v31, M22) h _ _ _ hw (lv_sub hl [3, 4, 5, 6, 2, 1, 0] rfl)
                · clear h; intro h
                  refine lv_iload hx hb dX5_bestDay_171 (lv_at hl 7 rfl) ?_
                  refine lv_goto (tgt := 178) hx hb dX5_bestDay_173 (by decide) ?_
                  refine lv_istore (lv' := [(5, .int v23), (4, .int v29), (0, .ref (o.2.1 17 0)), (1, .int x1), (2, .int v4), (3, .int v27), (6, .int v9), (9, .int v23), (10, .int v25)]) hx hb dX5_bestDay_178 hl (by decide) rfl ?_
                  clear hl; clear ls; intro ls hl
                  refine g_iinc (k := 6) (v := (v9 + (1 : Int32))) (lv' := fun v32 => [(6, .int v32), (5, .int v23), (4, .int v29), (0, .ref (o.2.1 17 0)), (1, .int x1), (2, .int v4), (3, .int v27), (9, .int v23), (10, .int v25)]) hx hb dX5_bestDay_180 hl rfl rfl (by decide) (fun _ => rfl) h ?_
                  clear h hl; clear ls; intro v32 ls h hl
                  refine lv_goto (tgt := 33) hx hb dX5_bestDay_183 (by decide) ?_
                  exact hR12 (v27, v29, v23, v32, M22) h _ _ _ hw (lv_sub hl [3, 4, 5, 6, 2, 1, 0] rfl)
              clear h; intro J30 hJ30 h
              refine g_if_eq (tgt := 162) hx hb h dX5_bestDay_154 (by decide) ?_ ?_
              · clear h; intro h
                refine lv_iload hx hb dX5_bestDay_162 (lv_at hl 4 rfl) ?_
                exact hJ30 v7 h _ _ _ hw (lv_sub hl [1, 2, 3, 0, 5, 6, 8, 9] rfl)
              · clear h; intro h
                refine lv_iload hx hb dX5_bestDay_157 (lv_at hl 7 rfl) ?_
                refine lv_goto (tgt := 164) hx hb dX5_bestDay_159 (by decide) ?_
                exact hJ30 v21 h _ _ _ hw (lv_sub hl [1, 2, 3, 0, 5, 6, 8, 9] rfl)
            clear h; intro J28 hJ28 h
            refine g_if_eq (tgt := 150) hx hb h dX5_bestDay_142 (by decide) ?_ ?_
            · clear h; intro h
              refine lv_iload_n hx hb dX5_bestDay_150 rfl (lv_at hl 4 rfl) ?_
              exact hJ28 v6 h _ _ _ hw (lv_sub hl [1, 2, 3, 5, 6, 7, 8, 9, 0] rfl)
            · clear h; intro h
              refine lv_iload hx hb dX5_bestDay_145 (lv_at hl 7 rfl) ?_
              refine lv_goto (tgt := 151) hx hb dX5_bestDay_147 (by decide) ?_
              exact hJ28 v9 h _ _ _ hw (lv_sub hl [1, 2, 3, 5, 6, 7, 8, 9, 0] rfl)
          clear h; intro J26 hJ26 h
          refine letJ_W (fun (x : Unit) => ∀ (H : Heap) (locs : List Loc) (ls : Array Slot), WO o (WA o) s s.heap H locs M22 → lv_has ls 11 [(0, .ref (o.2.1 17 0)), (1, .int x1), (2, .int v4), (3, .int v6), (4, .int v7), (5, .int v8), (6, .int v9), (8, .int v21), (9, .int v23)] → W p l e rm_X5_bestDay s m args below meth c H locs 0 0 (MQ below (QI o Q) args s 0 0 (WA o)) (F0 m 133 ls [])) h ?_ ?_
          · clear h hw hl; clear ls; intro x h H locs ls hw hl
            replace hl : lv_has ls 11 [(0, .ref (o.2.1 17 0)), (1, .int x1), (2, .int v4), (3, .int v6), (4, .int v7), (5, .int v8), (6, .int v9), (8, .int v21), (9, .int v23)] := hl
            refine lv_iconst (v := 1) hx hb dX5_bestDay_133 (by decide) ?_
            refine lv_goto (tgt := 138) hx hb dX5_bestDay_134 (by decide) ?_
            exact hJ26 (1 : Int32) h _ _ _ hw (lv_sub hl [0, 1, 2, 3, 4, 5, 6, 7, 8] rfl)
          clear h; intro J33 hJ33 h
          refine g_icmp_eq (tgt := 133) hx hb h dX5_bestDay_109 (by decide) ?_ ?_
          · clear h; intro h
            exact hJ33 () h _ _ _ hw (lv_sub hl [1, 2, 3, 4, 5, 6, 7, 8, 0] rfl)
          · clear h; intro h
            refine lv_iload hx hb dX5_bestDay_112 (lv_at hl 8 rfl) ?_
            refine lv_iload hx hb dX5_bestDay_114 (lv_at hl 5 rfl) ?_
            refine g_icmp_lt (tgt := 133) hx hb h dX5_bestDay_116 (by decide) ?_ ?_
            · clear h; intro h
              exact hJ33 () h _ _ _ hw (lv_sub hl [1, 2, 3, 4, 5, 6, 7, 8, 0] rfl)
            · clear h; intro h
              refine lv_iload hx hb dX5_bestDay_119 (lv_at hl 8 rfl) ?_
              refine lv_iload hx hb dX5_bestDay_121 (lv_at hl 5 rfl) ?_
              refine letJ_W (fun (x : Unit) => ∀ (H : Heap) (locs : List Loc) (ls : Array Slot), WO o (WA o) s s.heap H locs M22 → lv_has ls 11 [(0, .ref (o.2.1 17 0)), (1, .int x1), (2, .int v4), (3, .int v6), (4, .int v7), (5, .int v8), (6, .int v9), (8, .int v21), (9, .int v23)] → W p l e rm_X5_bestDay s m args below meth c H locs 0 0 (MQ below (QI o Q) args s 0 0 (WA o)) (F0 m 137 ls [])) h ?_ ?_
              · clear h hw hl; clear ls; intro x h H locs ls hw hl
                replace hl : lv_has ls 11 [(0, .ref (o.2.1 17 0)), (1, .int x1), (2, .int v4), (3, .int v6), (4, .int v7), (5, .int v8), (6, .int v9), (8, .int v21), (9, .int v23)] := hl
                refine lv_iconst (v := 0) hx hb dX5_bestDay_137 (by decide) ?_
                exact hJ26 (0 : Int32) h _ _ _ hw (lv_sub hl [0, 1, 2, 3, 4, 5, 6, 7, 8] rfl)
              clear h; intro J34 hJ34 h
              refine g_icmp_ne (tgt := 137) hx hb h dX5_bestDay_123 (by decide) ?_ ?_
              · clear h; intro h
                exact hJ34 () h _ _ _ hw (lv_sub hl [1, 2, 3, 4, 5, 6, 7, 8, 0] rfl)
              · clear h; intro h
                refine lv_iload hx hb dX5_bestDay_126 (lv_at hl 0 rfl) ?_
                refine lv_iload hx hb dX5_bestDay_128 (lv_at hl 6 rfl) ?_
                refine g_icmp_ge (tgt := 137) hx hb h dX5_bestDay_130 (by decide) ?_ ?_
                · clear h; intro h
                  exact hJ34 () h _ _ _ hw (lv_sub hl [1, 2, 3, 4, 5, 6, 7, 8, 0] rfl)
                · clear h; intro h
                  exact hJ33 () h _ _ _ hw (lv_sub hl [1, 2, 3, 4, 5, 6, 7, 8, 0] rfl)
        clear h; intro J24 hJ24 h
        refine g_if_ge (tgt := 102) hx hb h dX5_bestDay_93 (by decide) ?_ ?_
        · clear h; intro h
          refine lv_iload hx hb dX5_bestDay_102 (lv_at hl 1 rfl) ?_
          exact hJ24 v14 h _ _ _ hw (lv_sub hl [2, 3, 4, 5, 6, 7, 8, 0] rfl)
        · clear h; intro h
          refine lv_iload hx hb dX5_bestDay_96 (lv_at hl 1 rfl) ?_
          refine lv_ineg hx hb dX5_bestDay_98 ?_
          refine lv_goto (tgt := 104) hx hb dX5_bestDay_99 (by decide) ?_
          exact hJ24 (-v14) h _ _ _ hw (lv_sub hl [2, 3, 4, 5, 6, 7, 8, 0] rfl)
  · clear h; intro h
    refine lv_iconst (v := (-1)) hx hb dX5_bestDay_8 (by decide) ?_
    exact g_iret hx hb hr hlocks hw h dX5_bestDay_9
abbrev rm_X5_longOnes : Room := { frames := 2, cells := 0, slots := 0, locals := 42 }
set_option maxHeartbeats 4000000 in
set_option maxRecDepth 100000 in
theorem c_X5_longOnes {o : Om} {l : Launch} (hn : 122 ≤ o.2.2.2) {M : Mm} {Q : Int32 → Mm → Prop} (h : w_X5_longOnes M Q) : CI o l yX5_longOnes cX5_longOnes 3 rm_X5_longOnes [.ref (o.2.1 17 0)] M Q := by
  refine g_start (by decide +kernel) (Nat.le_of_ble_eq_true rfl) ?_
  intro p e s m args below meth c hx hb hr hlocks hml hown hts hw ls hl
  replace hl : lv_has ls 3 [(0, .ref (o.2.1 17 0))] := hl
  unfold w_X5_longOnes at h
  refine lv_iconst (v := 0) hx hb dX5_longOnes_0 (by decide) ?_
  refine lv_istore_n (lv' := [(1, .int (0 : Int32)), (0, .ref (o.2.1 17 0))]) hx hb dX5_longOnes_1 rfl hl (by decide) rfl ?_
  clear hl; clear ls; intro ls hl
  refine lv_iconst (v := 0) hx hb dX5_longOnes_2 (by decide) ?_
  refine lv_istore_n (lv' := [(2, .int (0 : Int32)), (1, .int (0 : Int32)), (0, .ref (o.2.1 17 0))]) hx hb dX5_longOnes_3 rfl hl (by decide) rfl ?_
  clear hl; clear ls; intro ls hl
  obtain ⟨n, h⟩ := h
  refine letK_W (body := fun K => w_X5_longOnes_L4 K) (fun (x : Int32 × Int32 × Mm) => ∀ (H : Heap) (locs : List Loc) (ls : Array Slot), WO o (WA o) s s.heap H locs x.2.2 → lv_has ls 3 [(1, .int x.1)] → W p l e rm_X5_longOnes s m args below meth c H locs 0 0 (MQ below (QI o Q) args s 0 0 (WA o)) (F0 m 36 ls [])) h ?_ ?_
  · clear h hw hl; clear ls; intro x h H locs ls hw hl
    obtain ⟨v13, v14, M15⟩ := x
    replace hl : lv_has ls 3 [(1, .int v13)] := hl
    dsimp only at h hw
    refine lv_iload_n hx hb dX5_longOnes_36 rfl (lv_at hl 0 rfl) ?_
    exact g_iret hx hb hr hlocks hw h dX5_longOnes_37
  clear h; intro K4 hK4 h
  refine loop_W (body := w_X5_longOnes_L4 K4) (fun (x : Int32 × Int32 × Mm) => ∀ (H : Heap) (locs : List Loc) (ls : Array Slot), WO o (WA o) s s.heap H locs x.2.2 → lv_has ls 3 [(0, .ref (o.2.1 17 0)), (1, .int x.1), (2, .int x.2.1)] → W p l e rm_X5_longOnes s m args below meth c H locs 0 0 (MQ below (QI o Q) args s 0 0 (WA o)) (F0 m 4 ls [])) ?_ n _ h _ _ _ hw (lv_sub hl [2, 1, 0] rfl)
  clear h hw hl; clear ls; intro R5 x hR5 h H locs ls hw hl
  obtain ⟨v1, v2, M3⟩ := x
  replace hl : lv_has ls 3 [(0, .ref (o.2.1 17 0)), (1, .int v1), (2, .int v2)] := hl
  dsimp only at hw
  unfold w_X5_longOnes_L4 at h
  dsimp only at h
  refine lv_iload_n hx hb dX5_longOnes_4 rfl (lv_at hl 2 rfl) ?_
  refine lv_aload_n hx hb dX5_longOnes_5 rfl (lv_at hl 0 rfl) ?_
  refine g_getf hx hb hts in_X5 hown hw 17 0 (ci_17 (by decide)) (bi_17 (by decide) hn) rfl rfl 0 (by decide) kX5_7 rfl dX5_longOnes_6 ?_
  refine lv_iconst (v := 4) hx hb dX5_longOnes_9 (by decide) ?_
  refine g_iald hx hb hw 18 0 (ci_18 (by decide)) (bi_18 (by decide) hn) rfl h dX5_longOnes_10 ?_
  clear h; intro v6 h
  refine g_icmp_ge (tgt := 36) hx hb h dX5_longOnes_11 (by decide) ?_ ?_
  · clear h; intro h
    exact hK4 (v1, v2, M3) h _ _ _ hw (lv_sub hl [1] rfl)
  · clear h; intro h
    refine lv_iload_n hx hb dX5_longOnes_14 rfl (lv_at hl 1 rfl) ?_
    refine lv_aload_n hx hb dX5_longOnes_15 rfl (lv_at hl 0 rfl) ?_
    refine lv_iload_n hx hb dX5_longOnes_16 rfl (lv_at hl 2 rfl) ?_
    refine g_cz hw (g_runV (As := [.int v2]) (rest := [.int v1]) hx hb hml hown hts mX5_isLong vX5_isLong kX5_73 hw 17 0 (ci_17 (by decide)) (bi_17 (by decide) hn) rfl rfl (c_X5_isLong hn h) rfl rfl ⟨Nat.le_of_ble_eq_true rfl, Nat.le_of_ble_eq_true rfl⟩ rfl hl.1 rfl (Nat.le_of_ble_eq_true rfl) dX5_longOnes_17 ⟨Nat.zero_le _, Nat.zero_le _⟩) ?_
    clear h hw; intro v8 M7 H locs hw hz_v8 h
    refine g_if_eq (tgt := 27) hx hb h dX5_longOnes_20 (by decide) ?_ ?_
    · clear h; intro h
      refine lv_iconst (v := 0) hx hb dX5_longOnes_27 (by decide) ?_
      refine lv_iadd hx hb dX5_longOnes_28 ?_
      refine g_topi h ?_
      clear h; intro v9 h
      refine lv_istore_n (lv' := [(1, .int v9), (0, .ref (o.2.1 17 0)), (2, .int v2)]) hx hb dX5_longOnes_29 rfl hl (by decide) rfl ?_
      clear hl; clear ls; intro ls hl
      refine g_iinc (k := 2) (v := (v2 + (1 : Int32))) (lv' := fun v10 => [(2, .int v10), (1, .int v9), (0, .ref (o.2.1 17 0))]) hx hb dX5_longOnes_30 hl rfl rfl (by decide) (fun _ => rfl) h ?_
      clear h hl; clear ls; intro v10 ls h hl
      refine lv_goto (tgt := 4) hx hb dX5_longOnes_33 (by decide) ?_
      exact hR5 (v9, v10, M7) h _ _ _ hw (lv_sub hl [2, 1, 0] rfl)
    · clear h; intro h
      refine lv_iconst (v := 1) hx hb dX5_longOnes_23 (by decide) ?_
      refine lv_goto (tgt := 28) hx hb dX5_longOnes_24 (by decide) ?_
      refine lv_iadd hx hb dX5_longOnes_28 ?_
      refine g_topi h ?_
      clear h; intro v11 h
      refine lv_istore_n (lv' := [(1, .int v11), (0, .ref (o.2.1 17 0)), (2, .int v2)]) hx hb dX5_longOnes_29 rfl hl (by decide) rfl ?_
      clear hl; clear ls; intro ls hl
      refine g_iinc (k := 2) (v := (v2 + (1 : Int32))) (lv' := fun v12 => [(2, .int v12), (1, .int v11), (0, .ref (o.2.1 17 0))]) hx hb dX5_longOnes_30 hl rfl rfl (by decide) (fun _ => rfl) h ?_
      clear h hl; clear ls; intro v12 ls h hl
      refine lv_goto (tgt := 4) hx hb dX5_longOnes_33 (by decide) ?_
      exact hR5 (v11, v12, M7) h _ _ _ hw (lv_sub hl [2, 1, 0] rfl)
abbrev rm_X5_present : Room := { frames := 1, cells := 0, slots := 0, locals := 21 }
set_option maxHeartbeats 4000000 in
set_option maxRecDepth 100000 in
theorem c_X5_present {o : Om} {l : Launch} (hn : 122 ≤ o.2.2.2) {M : Mm} {Q : Int32 → Mm → Prop} (h : w_X5_present M Q) : CI o l yX5_present cX5_present 3 rm_X5_present [.ref (o.2.1 17 0)] M Q := by
  refine g_start (by decide +kernel) (Nat.le_of_ble_eq_true rfl) ?_
  intro p e s m args below meth c hx hb hr hlocks hml hown hts hw ls hl
  replace hl : lv_has ls 3 [(0, .ref (o.2.1 17 0))] := hl
  unfold w_X5_present at h
  refine lv_iconst (v := 0) hx hb dX5_present_0 (by decide) ?_
  refine lv_istore_n (lv' := [(1, .int (0 : Int32)), (0, .ref (o.2.1 17 0))]) hx hb dX5_present_1 rfl hl (by decide) rfl ?_
  clear hl; clear ls; intro ls hl
  refine lv_iconst (v := 0) hx hb dX5_present_2 (by decide) ?_
  refine lv_istore_n (lv' := [(2, .int (0 : Int32)), (1, .int (0 : Int32)), (0, .ref (o.2.1 17 0))]) hx hb dX5_present_3 rfl hl (by decide) rfl ?_
  clear hl; clear ls; intro ls hl
  obtain ⟨n, h⟩ := h
  refine letK_W (body := fun K => w_X5_present_L4 K) (fun (x : Int32 × Int32 × Mm) => ∀ (H : Heap) (locs : List Loc) (ls : Array Slot), WO o (WA o) s s.heap H locs x.2.2 → lv_has ls 3 [(1, .int x.1)] → W p l e rm_X5_present s m args below meth c H locs 0 0 (MQ below (QI o Q) args s 0 0 (WA o)) (F0 m 56 ls [])) h ?_ ?_
  · clear h hw hl; clear ls; intro x h H locs ls hw hl
    obtain ⟨v19, v20, M21⟩ := x
    replace hl : lv_has ls 3 [(1, .int v19)] := hl
    dsimp only at h hw
    refine lv_iload_n hx hb dX5_present_56 rfl (lv_at hl 0 rfl) ?_
    exact g_iret hx hb hr hlocks hw h dX5_present_57
  clear h; intro K4 hK4 h
  refine loop_W (body := w_X5_present_L4 K4) (fun (x : Int32 × Int32 × Mm) => ∀ (H : Heap) (locs : List Loc) (ls : Array Slot), WO o (WA o) s s.heap H locs x.2.2 → lv_has ls 3 [(0, .ref (o.2.1 17 0)), (1, .int x.1), (2, .int x.2.1)] → W p l e rm_X5_present s m args below meth c H locs 0 0 (MQ below (QI o Q) args s 0 0 (WA o)) (F0 m 4 ls [])) ?_ n _ h _ _ _ hw (lv_sub hl [2, 1, 0] rfl)
  clear h hw hl; clear ls; intro R5 x hR5 h H locs ls hw hl
  obtain ⟨v1, v2, M3⟩ := x
  replace hl : lv_has ls 3 [(0, .ref (o.2.1 17 0)), (1, .int v1), (2, .int v2)] := hl
  dsimp only at hw
  unfold w_X5_present_L4 at h
  dsimp only at h
  refine lv_iload_n hx hb dX5_present_4 rfl (lv_at hl 2 rfl) ?_
  refine lv_aload_n hx hb dX5_present_5 rfl (lv_at hl 0 rfl) ?_
  refine g_getf hx hb hts in_X5 hown hw 17 0 (ci_17 (by decide)) (bi_17 (by decide) hn) rfl rfl 0 (by decide) kX5_7 rfl dX5_present_6 ?_
  refine lv_iconst (v := 4) hx hb dX5_present_9 (by decide) ?_
  refine g_iald hx hb hw 18 0 (ci_18 (by decide)) (bi_18 (by decide) hn) rfl h dX5_present_10 ?_
  clear h; intro v6 h
  refine g_icmp_ge (tgt := 56) hx hb h dX5_present_11 (by decide) ?_ ?_
  · clear h; intro h
    exact hK4 (v1, v2, M3) h _ _ _ hw (lv_sub hl [1] rfl)
  · clear h; intro h
    refine lv_iload_n hx hb dX5_present_14 rfl (lv_at hl 1 rfl) ?_
    refine lv_aload_n hx hb dX5_present_15 rfl (lv_at hl 0 rfl) ?_
    refine lv_iload_n hx hb dX5_present_16 rfl (lv_at hl 2 rfl) ?_
    refine g_ci hw (g_runV (As := [.int v2]) (rest := [.int v1]) hx hb hml hown hts mX5_begins vX5_begins kX5_40 hw 17 0 (ci_17 (by decide)) (bi_17 (by decide) hn) rfl rfl (c_X5_begins hn h) rfl rfl ⟨Nat.le_of_ble_eq_true rfl, Nat.le_of_ble_eq_true rfl⟩ rfl hl.1 rfl (Nat.le_of_ble_eq_true rfl) dX5_present_17 ⟨Nat.zero_le _, Nat.zero_le _⟩) ?_
    clear h hw; intro v8 M7 H locs hw h
    refine lv_aload_n hx hb dX5_present_20 rfl (lv_at hl 0 rfl) ?_
    refine g_getf hx hb hts in_X5 hown hw 17 0 (ci_17 (by decide)) (bi_17 (by decide) hn) rfl rfl 0 (by decide) kX5_7 rfl dX5_present_21 ?_
    refine lv_iconst (v := 1) hx hb dX5_present_24 (by decide) ?_
    refine g_iald hx hb hw 18 0 (ci_18 (by decide)) (bi_18 (by decide) hn) rfl h dX5_present_25 ?_
    clear h; intro v9 h
    refine g_icmp_gt (tgt := 47) hx hb h dX5_present_26 (by decide) ?_ ?_
    · clear h; intro h
      refine lv_iconst (v := 0) hx hb dX5_present_47 (by decide) ?_
      refine lv_iadd hx hb dX5_present_48 ?_
      refine g_topi h ?_
      clear h; intro v10 h
      refine lv_istore_n (lv' := [(1, .int v10), (0, .ref (o.2.1 17 0)), (2, .int v2)]) hx hb dX5_present_49 rfl hl (by decide) rfl ?_
      clear hl; clear ls; intro ls hl
      refine g_iinc (k := 2) (v := (v2 + (1 : Int32))) (lv' := fun v11 => [(2, .int v11), (1, .int v10), (0, .ref (o.2.1 17 0))]) hx hb dX5_present_50 hl rfl rfl (by decide) (fun _ => rfl) h ?_
      clear h hl; clear ls; intro v11 ls h hl
      refine lv_goto (tgt := 4) hx hb dX5_present_53 (by decide) ?_
      exact hR5 (v10, v11, M7) h _ _ _ hw (lv_sub hl [2, 1, 0] rfl)
    · clear h; intro h
      refine lv_aload_n hx hb dX5_present_29 rfl (lv_at hl 0 rfl) ?_
      refine lv_iload_n hx hb dX5_present_30 rfl (lv_at hl 2 rfl) ?_
      refine g_ci hw (g_runV (As := [.int v2]) (rest := [.int v1]) hx hb hml hown hts mX5_ends vX5_ends kX5_36 hw 17 0 (ci_17 (by decide)) (bi_17 (by decide) hn) rfl rfl (c_X5_ends hn h) rfl rfl ⟨Nat.le_of_ble_eq_true rfl, Nat.le_of_ble_eq_true rfl⟩ rfl hl.1 rfl (Nat.le_of_ble_eq_true rfl) dX5_present_31 ⟨Nat.zero_le _, Nat.zero_le _⟩) ?_
      clear h hw; intro v13 M12 H locs hw h
      refine lv_aload_n hx hb dX5_present_34 rfl (lv_at hl 0 rfl) ?_
      refine g_getf hx hb hts in_X5 hown hw 17 0 (ci_17 (by decide)) (bi_17 (by decide) hn) rfl rfl 0 (by decide) kX5_7 rfl dX5_present_35 ?_
      refine lv_iconst (v := 0) hx hb dX5_present_38 (by decide) ?_
      refine g_iald hx hb hw 18 0 (ci_18 (by decide)) (bi_18 (by decide) hn) rfl h dX5_present_39 ?_
      clear h; intro v14 h
      refine g_icmp_lt (tgt := 47) hx hb h dX5_present_40 (by decide) ?_ ?_
      · clear h; intro h
        refine lv_iconst (v := 0) hx hb dX5_present_47 (by decide) ?_
        refine lv_iadd hx hb dX5_present_48 ?_
        refine g_topi h ?_
        clear h; intro v15 h
        refine lv_istore_n (lv' := [(1, .int v15), (0, .ref (o.2.1 17 0)), (2, .int v2)]) hx hb dX5_present_49 rfl hl (by decide) rfl ?_
        clear hl; clear ls; intro ls hl
        refine g_iinc (k := 2) (v := (v2 + (1 : Int32))) (lv' := fun v16 => [(2, .int v16), (1, .int v15), (0, .ref (o.2.1 17 0))]) hx hb dX5_present_50 hl rfl rfl (by decide) (fun _ => rfl) h ?_
        clear h hl; clear ls; intro v16 ls h hl
        refine lv_goto (tgt := 4) hx hb dX5_present_53 (by decide) ?_
        exact hR5 (v15, v16, M12) h _ _ _ hw (lv_sub hl [2, 1, 0] rfl)
      · clear h; intro h
        refine lv_iconst (v := 1) hx hb dX5_present_43 (by decide) ?_
        refine lv_goto (tgt := 48) hx hb dX5_present_44 (by decide) ?_
        refine lv_iadd hx hb dX5_present_48 ?_
        refine g_topi h ?_
        clear h; intro v17 h
        refine lv_istore_n (lv' := [(1, .int v17), (0, .ref (o.2.1 17 0)), (2, .int v2)]) hx hb dX5_present_49 rfl hl (by decide) rfl ?_
        clear hl; clear ls; intro ls hl
        refine g_iinc (k := 2) (v := (v2 + (1 : Int32))) (lv' := fun v18 => [(2, .int v18), (1, .int v17), (0, .ref (o.2.1 17 0))]) hx hb dX5_present_50 hl rfl rfl (by decide) (fun _ => rfl) h ?_
        clear h hl; clear ls; intro v18 ls h hl
        refine lv_goto (tgt := 4) hx hb dX5_present_53 (by decide) ?_
        exact hR5 (v17, v18, M12) h _ _ _ hw (lv_sub hl [2, 1, 0] rfl)
abbrev rm_X5_bars : Room := { frames := 6, cells := 0, slots := 0, locals := 143 }
set_option maxHeartbeats 4000000 in
set_option maxRecDepth 100000 in
theorem c_X5_bars {o : Om} {l : Launch} (hn : 122 ≤ o.2.2.2) {M : Mm} {Q : Int32 → Mm → Prop} (h : w_X5_bars M Q) : CI o l yX5_bars cX5_bars 3 rm_X5_bars [.ref (o.2.1 17 0)] M Q := by
  refine g_start (by decide +kernel) (Nat.le_of_ble_eq_true rfl) ?_
  intro p e s m args below meth c hx hb hr hlocks hml hown hts hw ls hl
  replace hl : lv_has ls 3 [(0, .ref (o.2.1 17 0))] := hl
  unfold w_X5_bars at h
  refine lv_aload_n hx hb dX5_bars_0 rfl (lv_at hl 0 rfl) ?_
  refine g_cv hw (g_runV (As := []) (rest := []) hx hb hml hown hts mX5_lays vX5_lays kX5_140 hw 17 0 (ci_17 (by decide)) (bi_17 (by decide) hn) rfl rfl (c_X5_lays hn h) rfl rfl ⟨Nat.le_of_ble_eq_true rfl, Nat.le_of_ble_eq_true rfl⟩ rfl hl.1 rfl (Nat.le_of_ble_eq_true rfl) dX5_bars_1 ⟨Nat.zero_le _, Nat.zero_le _⟩) ?_
  clear h hw; intro M1 H locs hw h
  refine lv_iconst (v := 0) hx hb dX5_bars_4 (by decide) ?_
  refine lv_istore_n (lv' := [(1, .int (0 : Int32)), (0, .ref (o.2.1 17 0))]) hx hb dX5_bars_5 rfl hl (by decide) rfl ?_
  clear hl; clear ls; intro ls hl
  refine lv_iconst (v := 0) hx hb dX5_bars_6 (by decide) ?_
  refine lv_istore_n (lv' := [(2, .int (0 : Int32)), (1, .int (0 : Int32)), (0, .ref (o.2.1 17 0))]) hx hb dX5_bars_7 rfl hl (by decide) rfl ?_
  clear hl; clear ls; intro ls hl
  obtain ⟨n, h⟩ := h
  refine letK_W (body := fun K => w_X5_bars_L8 K) (fun (x : Int32 × Int32 × Mm) => ∀ (H : Heap) (locs : List Loc) (ls : Array Slot), WO o (WA o) s s.heap H locs x.2.2 → lv_has ls 3 [(1, .int x.1)] → W p l e rm_X5_bars s m args below meth c H locs 0 0 (MQ below (QI o Q) args s 0 0 (WA o)) (F0 m 32 ls [])) h ?_ ?_
  · clear h hw hl; clear ls; intro x h H locs ls hw hl
    obtain ⟨v12, v13, M14⟩ := x
    replace hl : lv_has ls 3 [(1, .int v12)] := hl
    dsimp only at h hw
    refine lv_iload_n hx hb dX5_bars_32 rfl (lv_at hl 0 rfl) ?_
    exact g_iret hx hb hr hlocks hw h dX5_bars_33
  clear h; intro K5 hK5 h
  refine loop_W (body := w_X5_bars_L8 K5) (fun (x : Int32 × Int32 × Mm) => ∀ (H : Heap) (locs : List Loc) (ls : Array Slot), WO o (WA o) s s.heap H locs x.2.2 → lv_has ls 3 [(0, .ref (o.2.1 17 0)), (1, .int x.1), (2, .int x.2.1)] → W p l e rm_X5_bars s m args below meth c H locs 0 0 (MQ below (QI o Q) args s 0 0 (WA o)) (F0 m 8 ls [])) ?_ n _ h _ _ _ hw (lv_sub hl [2, 1, 0] rfl)
  clear h hw hl; clear ls; intro R6 x hR6 h H locs ls hw hl
  obtain ⟨v2, v3, M4⟩ := x
  replace hl : lv_has ls 3 [(0, .ref (o.2.1 17 0)), (1, .int v2), (2, .int v3)] := hl
  dsimp only at hw
  unfold w_X5_bars_L8 at h
  dsimp only at h
  refine lv_iload_n hx hb dX5_bars_8 rfl (lv_at hl 2 rfl) ?_
  refine lv_aload_n hx hb dX5_bars_9 rfl (lv_at hl 0 rfl) ?_
  refine g_getf hx hb hts in_X5 hown hw 17 0 (ci_17 (by decide)) (bi_17 (by decide) hn) rfl rfl 0 (by decide) kX5_7 rfl dX5_bars_10 ?_
  refine lv_iconst (v := 4) hx hb dX5_bars_13 (by decide) ?_
  refine g_iald hx hb hw 18 0 (ci_18 (by decide)) (bi_18 (by decide) hn) rfl h dX5_bars_14 ?_
  clear h; intro v7 h
  refine g_icmp_ge (tgt := 32) hx hb h dX5_bars_15 (by decide) ?_ ?_
  · clear h; intro h
    exact hK5 (v2, v3, M4) h _ _ _ hw (lv_sub hl [1] rfl)
  · clear h; intro h
    refine lv_iload_n hx hb dX5_bars_18 rfl (lv_at hl 1 rfl) ?_
    refine lv_aload_n hx hb dX5_bars_19 rfl (lv_at hl 0 rfl) ?_
    refine lv_iload_n hx hb dX5_bars_20 rfl (lv_at hl 2 rfl) ?_
    refine g_ci hw (g_runV (As := [.int v3]) (rest := [.int v2]) hx hb hml hown hts mX5_barsOf vX5_barsOf kX5_186 hw 17 0 (ci_17 (by decide)) (bi_17 (by decide) hn) rfl rfl (c_X5_barsOf hn h) rfl rfl ⟨Nat.le_of_ble_eq_true rfl, Nat.le_of_ble_eq_true rfl⟩ rfl hl.1 rfl (Nat.le_of_ble_eq_true rfl) dX5_bars_21 ⟨Nat.zero_le _, Nat.zero_le _⟩) ?_
    clear h hw; intro v9 M8 H locs hw h
    refine lv_iadd hx hb dX5_bars_24 ?_
    refine g_topi h ?_
    clear h; intro v10 h
    refine lv_istore_n (lv' := [(1, .int v10), (0, .ref (o.2.1 17 0)), (2, .int v3)]) hx hb dX5_bars_25 rfl hl (by decide) rfl ?_
    clear hl; clear ls; intro ls hl
    refine g_iinc (k := 2) (v := (v3 + (1 : Int32))) (lv' := fun v11 => [(2, .int v11), (1, .int v10), (0, .ref (o.2.1 17 0))]) hx hb dX5_bars_26 hl rfl rfl (by decide) (fun _ => rfl) h ?_
    clear h hl; clear ls; intro v11 ls h hl
    refine lv_goto (tgt := 8) hx hb dX5_bars_29 (by decide) ?_
    exact hR6 (v10, v11, M8) h _ _ _ hw (lv_sub hl [2, 1, 0] rfl)
