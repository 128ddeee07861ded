abbrev rm_X5_lays : Room := { frames := 5, cells := 0, slots := 0, locals := 121 }
set_option maxHeartbeats 4000000 in
set_option maxRecDepth 100000 in
theorem c_X5_lays {o : Om} {l : Launch} (hn : 122 ≤ o.2.2.2) {M : Mm} {Q : Mm → Prop} (h : w_X5_lays M Q) : CV o l yX5_lays cX5_lays 3 rm_X5_lays [.ref (o.2.1 17 0)] M Q := by
  refine g_start (by decide +kernel) (Nat.le_of_ble_eq_true rfl) ?_
  intro p e s m args below meth c hx hb hr hlocks hml hown hts hw ls hl
  replace hl : lv_has ls 3 [(0, .ref (o.2.1 17 0))] := hl
  unfold w_X5_lays at h
  refine lv_aload_n hx hb dX5_lays_0 rfl (lv_at hl 0 rfl) ?_
  refine g_ci hw (g_runV (As := []) (rest := []) hx hb hml hown hts mX5_weeks vX5_weeks kX5_56 hw 17 0 (ci_17 (by decide)) (bi_17 (by decide) hn) rfl rfl (c_X5_weeks hn h) rfl rfl ⟨Nat.le_of_ble_eq_true rfl, Nat.le_of_ble_eq_true rfl⟩ rfl hl.1 rfl (Nat.le_of_ble_eq_true rfl) dX5_lays_1 ⟨Nat.zero_le _, Nat.zero_le _⟩) ?_
  clear h hw; intro v2 M1 H locs hw h
  refine lv_istore_n (lv' := [(1, .int v2), (0, .ref (o.2.1 17 0))]) hx hb dX5_lays_4 rfl hl (by decide) rfl ?_
  clear hl; clear ls; intro ls hl
  refine lv_iconst (v := 0) hx hb dX5_lays_5 (by decide) ?_
  refine lv_istore_n (lv' := [(2, .int (0 : Int32)), (1, .int v2), (0, .ref (o.2.1 17 0))]) hx hb dX5_lays_6 rfl hl (by decide) rfl ?_
  clear hl; clear ls; intro ls hl
  obtain ⟨n, h⟩ := h
  refine letK_W (body := fun K => w_X5_lays_L7 v2 K) (fun (x : Int32 × Mm) => ∀ (H : Heap) (locs : List Loc) (ls : Array Slot), WO o (WA o) s s.heap H locs x.2 → lv_has ls 3 [(0, .ref (o.2.1 17 0)), (1, .int v2)] → W p l e rm_X5_lays s m args below meth c H locs 0 0 (MQ below (QV o Q) args s 0 0 (WA o)) (F0 m 29 ls [])) h ?_ ?_
  · clear h hw hl; clear ls; intro x h H locs ls hw hl
    obtain ⟨v11, M12⟩ := x
    replace hl : lv_has ls 3 [(0, .ref (o.2.1 17 0)), (1, .int v2)] := hl
    dsimp only at h hw
    refine lv_aload_n hx hb dX5_lays_29 rfl (lv_at hl 0 rfl) ?_
    refine g_getf hx hb hts in_X5 hown hw 17 0 (ci_17 (by decide)) (bi_17 (by decide) hn) rfl rfl 6 (by decide) kX5_22 rfl dX5_lays_30 ?_
    refine lv_iload_n hx hb dX5_lays_33 rfl (lv_at hl 1 rfl) ?_
    refine lv_aload_n hx hb dX5_lays_34 rfl (lv_at hl 0 rfl) ?_
    refine g_getf hx hb hts in_X5 hown hw 17 0 (ci_17 (by decide)) (bi_17 (by decide) hn) rfl rfl 0 (by decide) kX5_7 rfl dX5_lays_35 ?_
    refine lv_iconst (v := 1) hx hb dX5_lays_38 (by decide) ?_
    refine g_iald hx hb hw 18 0 (ci_18 (by decide)) (bi_18 (by decide) hn) rfl h dX5_lays_39 ?_
    clear h; intro v13 h
    refine lv_iconst (v := 1) hx hb dX5_lays_40 (by decide) ?_
    refine lv_iadd hx hb dX5_lays_41 ?_
    refine g_iast hx hb hw 22 0 (ci_22 (by decide)) (bi_22 (by decide) hn) (fun _ => rfl) h dX5_lays_42 ?_
    clear h hw; intro M14 H locs hw h
    refine lv_iconst (v := 0) hx hb dX5_lays_43 (by decide) ?_
    refine lv_istore_n (lv' := [(2, .int (0 : Int32)), (0, .ref (o.2.1 17 0)), (1, .int v2)]) hx hb dX5_lays_44 rfl hl (by decide) rfl ?_
    clear hl; clear ls; intro ls hl
    obtain ⟨n, h⟩ := h
    refine letK_W (body := fun K => w_X5_lays_L45 v2 K) (fun (x : Int32 × Mm) => ∀ (H : Heap) (locs : List Loc) (ls : Array Slot), WO o (WA o) s s.heap H locs x.2 → lv_has ls 3 [(0, .ref (o.2.1 17 0)), (1, .int v2)] → W p l e rm_X5_lays s m args below meth c H locs 0 0 (MQ below (QV o Q) args s 0 0 (WA o)) (F0 m 66 ls [])) h ?_ ?_
    · clear h hw hl; clear ls; intro x h H locs ls hw hl
      obtain ⟨v21, M22⟩ := x
      replace hl : lv_has ls 3 [(0, .ref (o.2.1 17 0)), (1, .int v2)] := hl
      dsimp only at h hw
      refine lv_iconst (v := 0) hx hb dX5_lays_66 (by decide) ?_
      refine lv_istore_n (lv' := [(2, .int (0 : Int32)), (0, .ref (o.2.1 17 0)), (1, .int v2)]) hx hb dX5_lays_67 rfl hl (by decide) rfl ?_
      clear hl; clear ls; intro ls hl
      obtain ⟨n, h⟩ := h
      refine letK_W (body := fun K => w_X5_lays_L68 v2 K) (fun (x : Int32 × Mm) => ∀ (H : Heap) (locs : List Loc) (ls : Array Slot), WO o (WA o) s s.heap H locs x.2 → lv_has ls 3 [(0, .ref (o.2.1 17 0)), (1, .int v2)] → W p l e rm_X5_lays s m args below meth c H locs 0 0 (MQ below (QV o Q) args s 0 0 (WA o)) (F0 m 88 ls [])) h ?_ ?_
      · clear h hw hl; clear ls; intro x h H locs ls hw hl
        obtain ⟨v29, M30⟩ := x
        replace hl : lv_has ls 3 [(0, .ref (o.2.1 17 0)), (1, .int v2)] := hl
        dsimp only at h hw
        refine lv_iconst (v := 0) hx hb dX5_lays_88 (by decide) ?_
        refine lv_istore_n (lv' := [(2, .int (0 : Int32)), (0, .ref (o.2.1 17 0)), (1, .int v2)]) hx hb dX5_lays_89 rfl hl (by decide) rfl ?_
        clear hl; clear ls; intro ls hl
        obtain ⟨n, h⟩ := h
        refine letK_W (body := fun K => w_X5_lays_L90 v2 K) (fun (x : Int32 × Mm) => ∀ (H : Heap) (locs : List Loc) (ls : Array Slot), WO o (WA o) s s.heap H locs x.2 → lv_has ls 3 [(0, .ref (o.2.1 17 0))] → W p l e rm_X5_lays s m args below meth c H locs 0 0 (MQ below (QV o Q) args s 0 0 (WA o)) (F0 m 106 ls [])) h ?_ ?_
        · clear h hw hl; clear ls; intro x h H locs ls hw hl
          obtain ⟨v37, M38⟩ := x
          replace hl : lv_has ls 3 [(0, .ref (o.2.1 17 0))] := hl
          dsimp only at h hw
          refine lv_aload_n hx hb dX5_lays_106 rfl (lv_at hl 0 rfl) ?_
          refine g_getf hx hb hts in_X5 hown hw 17 0 (ci_17 (by decide)) (bi_17 (by decide) hn) rfl rfl 0 (by decide) kX5_7 rfl dX5_lays_107 ?_
          refine lv_iconst (v := 0) hx hb dX5_lays_110 (by decide) ?_
          refine g_iald hx hb hw 18 0 (ci_18 (by decide)) (bi_18 (by decide) hn) rfl h dX5_lays_111 ?_
          clear h; intro v39 h
          refine lv_istore_n (lv' := [(2, .int v39), (0, .ref (o.2.1 17 0))]) hx hb dX5_lays_112 rfl hl (by decide) rfl ?_
          clear hl; clear ls; intro ls hl
          obtain ⟨n, h⟩ := h
          refine letK_W (body := fun K => w_X5_lays_L113 K) (fun (x : Int32 × Mm) => ∀ (H : Heap) (locs : List Loc) (ls : Array Slot), WO o (WA o) s s.heap H locs x.2 → lv_has ls 3 [] → W p l e rm_X5_lays s m args below meth c H locs 0 0 (MQ below (QV o Q) args s 0 0 (WA o)) (F0 m 134 ls [])) h ?_ ?_
          · clear h hw hl; clear ls; intro x h H locs ls hw hl
            obtain ⟨v47, M48⟩ := x
            replace hl : lv_has ls 3 [] := hl
            dsimp only at h hw
            exact g_vret hx hb hr hlocks hw h dX5_lays_134
          clear h; intro K42 hK42 h
          refine loop_W (body := w_X5_lays_L113 K42) (fun (x : Int32 × Mm) => ∀ (H : Heap) (locs : List Loc) (ls : Array Slot), WO o (WA o) s s.heap H locs x.2 → lv_has ls 3 [(0, .ref (o.2.1 17 0)), (2, .int x.1)] → W p l e rm_X5_lays s m args below meth c H locs 0 0 (MQ below (QV o Q) args s 0 0 (WA o)) (F0 m 113 ls [])) ?_ n _ h _ _ _ hw (lv_sub hl [1, 0] rfl)
          clear h hw hl; clear ls; intro R43 x hR43 h H locs ls hw hl
          obtain ⟨v40, M41⟩ := x
          replace hl : lv_has ls 3 [(0, .ref (o.2.1 17 0)), (2, .int v40)] := hl
          dsimp only at hw
          unfold w_X5_lays_L113 at h
          dsimp only at h
          refine lv_iload_n hx hb dX5_lays_113 rfl (lv_at hl 1 rfl) ?_
          refine lv_aload_n hx hb dX5_lays_114 rfl (lv_at hl 0 rfl) ?_
          refine g_getf hx hb hts in_X5 hown hw 17 0 (ci_17 (by decide)) (bi_17 (by decide) hn) rfl rfl 0 (by decide) kX5_7 rfl dX5_lays_115 ?_
          refine lv_iconst (v := 1) hx hb dX5_lays_118 (by decide) ?_
          refine g_iald hx hb hw 18 0 (ci_18 (by decide)) (bi_18 (by decide) hn) rfl h dX5_lays_119 ?_
          clear h; intro v44 h
          refine g_icmp_gt (tgt := 134) hx hb h dX5_lays_120 (by decide) ?_ ?_
          · clear h; intro h
            exact hK42 (v40, M41) h _ _ _ hw (lv_sub hl [] rfl)
          · clear h; intro h
            refine lv_aload_n hx hb dX5_lays_123 rfl (lv_at hl 0 rfl) ?_
            refine lv_iload_n hx hb dX5_lays_124 rfl (lv_at hl 1 rfl) ?_
            refine g_cv hw (g_runV (As := [.int v40]) (rest := []) hx hb hml hown hts mX5_laysDay vX5_laysDay kX5_112 hw 17 0 (ci_17 (by decide)) (bi_17 (by decide) hn) rfl rfl (c_X5_laysDay hn h) rfl rfl ⟨Nat.le_of_ble_eq_true rfl, Nat.le_of_ble_eq_true rfl⟩ rfl hl.1 rfl (Nat.le_of_ble_eq_true rfl) dX5_lays_125 ⟨Nat.zero_le _, Nat.zero_le _⟩) ?_
            clear h hw; intro M45 H locs hw h
            refine g_iinc (k := 1) (v := (v40 + (1 : Int32))) (lv' := fun v46 => [(2, .int v46), (0, .ref (o.2.1 17 0))]) hx hb dX5_lays_128 hl rfl rfl (by decide) (fun _ => rfl) h ?_
            clear h hl; clear ls; intro v46 ls h hl
            refine lv_goto (tgt := 113) hx hb dX5_lays_131 (by decide) ?_
            exact hR43 (v46, M45) h _ _ _ hw (lv_sub hl [1, 0] rfl)
        clear h; intro K33 hK33 h
        refine loop_W (body := w_X5_lays_L90 v2 K33) (fun (x : Int32 × Mm) => ∀ (H : Heap) (locs : List Loc) (ls : Array Slot), WO o (WA o) s s.heap H locs x.2 → lv_has ls 3 [(0, .ref (o.2.1 17 0)), (1, .int v2), (2, .int x.1)] → W p l e rm_X5_lays s m args below meth c H locs 0 0 (MQ below (QV o Q) args s 0 0 (WA o)) (F0 m 90 ls [])) ?_ n _ h _ _ _ hw (lv_sub hl [1, 2, 0] rfl)
        clear h hw hl; clear ls; intro R34 x hR34 h H locs ls hw hl
        obtain ⟨v31, M32⟩ := x
        replace hl : lv_has ls 3 [(0, .ref (o.2.1 17 0)), (1, .int v2), (2, .int v31)] := hl
        dsimp only at hw
        unfold w_X5_lays_L90 at h
        dsimp only at h
        refine lv_iload_n hx hb dX5_lays_90 rfl (lv_at hl 2 rfl) ?_
        refine lv_iload_n hx hb dX5_lays_91 rfl (lv_at hl 1 rfl) ?_
        refine g_icmp_ge (tgt := 106) hx hb h dX5_lays_92 (by decide) ?_ ?_
        · clear h; intro h
          exact hK33 (v31, M32) h _ _ _ hw (lv_sub hl [0] rfl)
        · clear h; intro h
          refine lv_aload_n hx hb dX5_lays_95 rfl (lv_at hl 0 rfl) ?_
          refine lv_iload_n hx hb dX5_lays_96 rfl (lv_at hl 2 rfl) ?_
          refine g_cv hw (g_runV (As := [.int v31]) (rest := []) hx hb hml hown hts mX5_laysWeek vX5_laysWeek kX5_108 hw 17 0 (ci_17 (by decide)) (bi_17 (by decide) hn) rfl rfl (c_X5_laysWeek hn h) rfl rfl ⟨Nat.le_of_ble_eq_true rfl, Nat.le_of_ble_eq_true rfl⟩ rfl hl.1 rfl (Nat.le_of_ble_eq_true rfl) dX5_lays_97 ⟨Nat.zero_le _, Nat.zero_le _⟩) ?_
          clear h hw; intro M35 H locs hw h
          refine g_iinc (k := 2) (v := (v31 + (1 : Int32))) (lv' := fun v36 => [(2, .int v36), (0, .ref (o.2.1 17 0)), (1, .int v2)]) hx hb dX5_lays_100 hl rfl rfl (by decide) (fun _ => rfl) h ?_
          clear h hl; clear ls; intro v36 ls h hl
          refine lv_goto (tgt := 90) hx hb dX5_lays_103 (by decide) ?_
          exact hR34 (v36, M35) h _ _ _ hw (lv_sub hl [1, 2, 0] rfl)
      clear h; intro K25 hK25 h
      refine loop_W (body := w_X5_lays_L68 v2 K25) (fun (x : Int32 × Mm) => ∀ (H : Heap) (locs : List Loc) (ls : Array Slot), WO o (WA o) s s.heap H locs x.2 → lv_has ls 3 [(0, .ref (o.2.1 17 0)), (1, .int v2), (2, .int x.1)] → W p l e rm_X5_lays s m args below meth c H locs 0 0 (MQ below (QV o Q) args s 0 0 (WA o)) (F0 m 68 ls [])) ?_ n _ h _ _ _ hw (lv_sub hl [1, 2, 0] rfl)
      clear h hw hl; clear ls; intro R26 x hR26 h H locs ls hw hl
      obtain ⟨v23, M24⟩ := x
      replace hl : lv_has ls 3 [(0, .ref (o.2.1 17 0)), (1, .int v2), (2, .int v23)] := hl
      dsimp only at hw
      unfold w_X5_lays_L68 at h
      dsimp only at h
      refine lv_iload_n hx hb dX5_lays_68 rfl (lv_at hl 2 rfl) ?_
      refine lv_bipush (v := 24) hx hb dX5_lays_69 (by decide) ?_
      refine g_icmp_ge (tgt := 88) hx hb h dX5_lays_71 (by decide) ?_ ?_
      · clear h; intro h
        exact hK25 (v23, M24) h _ _ _ hw (lv_sub hl [0, 1] rfl)
      · clear h; intro h
        refine lv_aload_n hx hb dX5_lays_74 rfl (lv_at hl 0 rfl) ?_
        refine g_getf hx hb hts in_X5 hown hw 17 0 (ci_17 (by decide)) (bi_17 (by decide) hn) rfl rfl 5 (by decide) kX5_19 rfl dX5_lays_75 ?_
        refine lv_iload_n hx hb dX5_lays_78 rfl (lv_at hl 2 rfl) ?_
        refine lv_bipush (v := (-9)) hx hb dX5_lays_79 (by decide) ?_
        refine g_iast hx hb hw 21 0 (ci_21 (by decide)) (bi_21 (by decide) hn) (fun _ => rfl) h dX5_lays_81 ?_
        clear h hw; intro M27 H locs hw h
        refine g_iinc (k := 2) (v := (v23 + (1 : Int32))) (lv' := fun v28 => [(2, .int v28), (0, .ref (o.2.1 17 0)), (1, .int v2)]) hx hb dX5_lays_82 hl rfl rfl (by decide) (fun _ => rfl) h ?_
        clear h hl; clear ls; intro v28 ls h hl
        refine lv_goto (tgt := 68) hx hb dX5_lays_85 (by decide) ?_
        exact hR26 (v28, M27) h _ _ _ hw (lv_sub hl [1, 2, 0] rfl)
    clear h; intro K17 hK17 h
    refine loop_W (body := w_X5_lays_L45 v2 K17) (fun (x : Int32 × Mm) => ∀ (H : Heap) (locs : List Loc) (ls : Array Slot), WO o (WA o) s s.heap H locs x.2 → lv_has ls 3 [(0, .ref (o.2.1 17 0)), (1, .int v2), (2, .int x.1)] → W p l e rm_X5_lays s m args below meth c H locs 0 0 (MQ below (QV o Q) args s 0 0 (WA o)) (F0 m 45 ls [])) ?_ n _ h _ _ _ hw (lv_sub hl [1, 2, 0] rfl)
    clear h hw hl; clear ls; intro R18 x hR18 h H locs ls hw hl
    obtain ⟨v15, M16⟩ := x
    replace hl : lv_has ls 3 [(0, .ref (o.2.1 17 0)), (1, .int v2), (2, .int v15)] := hl
    dsimp only at hw
    unfold w_X5_lays_L45 at h
    dsimp only at h
    refine lv_iload_n hx hb dX5_lays_45 rfl (lv_at hl 2 rfl) ?_
    refine lv_sipush (v := 168) hx hb dX5_lays_46 (by decide) ?_
    refine g_icmp_ge (tgt := 66) hx hb h dX5_lays_49 (by decide) ?_ ?_
    · clear h; intro h
      exact hK17 (v15, M16) h _ _ _ hw (lv_sub hl [0, 1] rfl)
    · clear h; intro h
      refine lv_aload_n hx hb dX5_lays_52 rfl (lv_at hl 0 rfl) ?_
      refine g_getf hx hb hts in_X5 hown hw 17 0 (ci_17 (by decide)) (bi_17 (by decide) hn) rfl rfl 4 (by decide) kX5_16 rfl dX5_lays_53 ?_
      refine lv_iload_n hx hb dX5_lays_56 rfl (lv_at hl 2 rfl) ?_
      refine lv_bipush (v := (-9)) hx hb dX5_lays_57 (by decide) ?_
      refine g_iast hx hb hw 20 0 (ci_20 (by decide)) (bi_20 (by decide) hn) (fun _ => rfl) h dX5_lays_59 ?_
      clear h hw; intro M19 H locs hw h
      refine g_iinc (k := 2) (v := (v15 + (1 : Int32))) (lv' := fun v20 => [(2, .int v20), (0, .ref (o.2.1 17 0)), (1, .int v2)]) hx hb dX5_lays_60 hl rfl rfl (by decide) (fun _ => rfl) h ?_
      clear h hl; clear ls; intro v20 ls h hl
      refine lv_goto (tgt := 45) hx hb dX5_lays_63 (by decide) ?_
      exact hR18 (v20, M19) h _ _ _ hw (lv_sub hl [1, 2, 0] rfl)
  clear h; intro K5 hK5 h
  refine loop_W (body := w_X5_lays_L7 v2 K5) (fun (x : Int32 × Mm) => ∀ (H : Heap) (locs : List Loc) (ls : Array Slot), WO o (WA o) s s.heap H locs x.2 → lv_has ls 3 [(0, .ref (o.2.1 17 0)), (1, .int v2), (2, .int x.1)] → W p l e rm_X5_lays s m args below meth c H locs 0 0 (MQ below (QV o Q) args s 0 0 (WA o)) (F0 m 7 ls [])) ?_ n _ h _ _ _ hw (lv_sub hl [2, 1, 0] rfl)
  clear h hw hl; clear ls; intro R6 x hR6 h H locs ls hw hl
  obtain ⟨v3, M4⟩ := x
  replace hl : lv_has ls 3 [(0, .ref (o.2.1 17 0)), (1, .int v2), (2, .int v3)] := hl
  dsimp only at hw
  unfold w_X5_lays_L7 at h
  dsimp only at h
  refine lv_iload_n hx hb dX5_lays_7 rfl (lv_at hl 2 rfl) ?_
  refine lv_iload_n hx hb dX5_lays_8 rfl (lv_at hl 1 rfl) ?_
  refine g_icmp_ge (tgt := 29) hx hb h dX5_lays_9 (by decide) ?_ ?_
  · clear h; intro h
    exact hK5 (v3, M4) h _ _ _ hw (lv_sub hl [0, 1] rfl)
  · clear h; intro h
    refine lv_aload_n hx hb dX5_lays_12 rfl (lv_at hl 0 rfl) ?_
    refine g_getf hx hb hts in_X5 hown hw 17 0 (ci_17 (by decide)) (bi_17 (by decide) hn) rfl rfl 6 (by decide) kX5_22 rfl dX5_lays_13 ?_
    refine lv_iload_n hx hb dX5_lays_16 rfl (lv_at hl 2 rfl) ?_
    refine lv_aload_n hx hb dX5_lays_17 rfl (lv_at hl 0 rfl) ?_
    refine lv_iload_n hx hb dX5_lays_18 rfl (lv_at hl 2 rfl) ?_
    refine g_ci hw (g_runV (As := [.int v3]) (rest := [.int v3, .ref (o.2.1 22 0)]) hx hb hml hown hts mX5_weekFirst vX5_weekFirst kX5_105 hw 17 0 (ci_17 (by decide)) (bi_17 (by decide) hn) rfl rfl (c_X5_weekFirst hn h) rfl rfl ⟨Nat.le_of_ble_eq_true rfl, Nat.le_of_ble_eq_true rfl⟩ rfl hl.1 rfl (Nat.le_of_ble_eq_true rfl) dX5_lays_19 ⟨Nat.zero_le _, Nat.zero_le _⟩) ?_
    clear h hw; intro v8 M7 H locs hw h
    refine g_iast hx hb hw 22 0 (ci_22 (by decide)) (bi_22 (by decide) hn) (fun _ => rfl) h dX5_lays_22 ?_
    clear h hw; intro M9 H locs hw h
    refine g_iinc (k := 2) (v := (v3 + (1 : Int32))) (lv' := fun v10 => [(2, .int v10), (0, .ref (o.2.1 17 0)), (1, .int v2)]) hx hb dX5_lays_23 hl rfl rfl (by decide) (fun _ => rfl) h ?_
    clear h hl; clear ls; intro v10 ls h hl
    refine lv_goto (tgt := 7) hx hb dX5_lays_26 (by decide) ?_
    exact hR6 (v10, M9) h _ _ _ hw (lv_sub hl [1, 2, 0] rfl)
abbrev rm_X5_needed : Room := { frames := 3, cells := 0, slots := 0, locals := 64 }
set_option maxHeartbeats 4000000 in
set_option maxRecDepth 100000 in
theorem c_X5_needed {o : Om} {l : Launch} (hn : 122 ≤ o.2.2.2) {M : Mm} {x1 : Int32} {Q : Int32 → Mm → Prop} (h : w_X5_needed M x1 Q) : CI o l yX5_needed cX5_needed 5 rm_X5_needed [.ref (o.2.1 17 0), .int x1] M Q := by
  refine g_start (by decide +kernel) (Nat.le_of_ble_eq_true rfl) ?_
  intro p e s m args below meth c hx hb hr hlocks hml hown hts hw ls hl
  replace hl : lv_has ls 5 [(0, .ref (o.2.1 17 0)), (1, .int x1)] := hl
  unfold w_X5_needed at h
  refine lv_iconst (v := 0) hx hb dX5_needed_0 (by decide) ?_
  refine lv_istore_n (lv' := [(2, .int (0 : Int32)), (0, .ref (o.2.1 17 0)), (1, .int x1)]) hx hb dX5_needed_1 rfl hl (by decide) rfl ?_
  clear hl; clear ls; intro ls hl
  refine lv_iconst (v := 0) hx hb dX5_needed_2 (by decide) ?_
  refine lv_istore_n (lv' := [(3, .int (0 : Int32)), (2, .int (0 : Int32)), (0, .ref (o.2.1 17 0)), (1, .int x1)]) hx hb dX5_needed_3 rfl hl (by decide) rfl ?_
  clear hl; clear ls; intro ls hl
  obtain ⟨n, h⟩ := h
  refine letK_W (body := fun K => w_X5_needed_L4 x1 K) (fun (x : Int32 × Int32 × Mm) => ∀ (H : Heap) (locs : List Loc) (ls : Array Slot), WO o (WA o) s s.heap H locs x.2.2 → lv_has ls 5 [(2, .int x.1)] → W p l e rm_X5_needed s m args below meth c H locs 0 0 (MQ below (QI o Q) args s 0 0 (WA o)) (F0 m 57 ls [])) h ?_ ?_
  · clear h hw hl; clear ls; intro x h H locs ls hw hl
    obtain ⟨v17, v18, M19⟩ := x
    replace hl : lv_has ls 5 [(2, .int v17)] := hl
    dsimp only at h hw
    refine lv_iload_n hx hb dX5_needed_57 rfl (lv_at hl 0 rfl) ?_
    exact g_iret hx hb hr hlocks hw h dX5_needed_58
  clear h; intro K4 hK4 h
  refine loop_W (body := w_X5_needed_L4 x1 K4) (fun (x : Int32 × Int32 × Mm) => ∀ (H : Heap) (locs : List Loc) (ls : Array Slot), WO o (WA o) s s.heap H locs x.2.2 → lv_has ls 5 [(0, .ref (o.2.1 17 0)), (1, .int x1), (2, .int x.1), (3, .int x.2.1)] → W p l e rm_X5_needed s m args below meth c H locs 0 0 (MQ below (QI o Q) args s 0 0 (WA o)) (F0 m 4 ls [])) ?_ n _ h _ _ _ hw (lv_sub hl [2, 3, 1, 0] rfl)
  clear h hw hl; clear ls; intro R5 x hR5 h H locs ls hw hl
  obtain ⟨v1, v2, M3⟩ := x
  replace hl : lv_has ls 5 [(0, .ref (o.2.1 17 0)), (1, .int x1), (2, .int v1), (3, .int v2)] := hl
  dsimp only at hw
  unfold w_X5_needed_L4 at h
  dsimp only at h
  refine lv_iload_n hx hb dX5_needed_4 rfl (lv_at hl 3 rfl) ?_
  refine lv_aload_n hx hb dX5_needed_5 rfl (lv_at hl 0 rfl) ?_
  refine g_getf hx hb hts in_X5 hown hw 17 0 (ci_17 (by decide)) (bi_17 (by decide) hn) rfl rfl 0 (by decide) kX5_7 rfl dX5_needed_6 ?_
  refine lv_iconst (v := 4) hx hb dX5_needed_9 (by decide) ?_
  refine g_iald hx hb hw 18 0 (ci_18 (by decide)) (bi_18 (by decide) hn) rfl h dX5_needed_10 ?_
  clear h; intro v6 h
  refine g_icmp_ge (tgt := 57) hx hb h dX5_needed_11 (by decide) ?_ ?_
  · clear h; intro h
    exact hK4 (v1, v2, M3) h _ _ _ hw (lv_sub hl [2] rfl)
  · clear h; intro h
    refine lv_aload_n hx hb dX5_needed_14 rfl (lv_at hl 0 rfl) ?_
    refine lv_iload_n hx hb dX5_needed_15 rfl (lv_at hl 3 rfl) ?_
    refine lv_iload_n hx hb dX5_needed_16 rfl (lv_at hl 1 rfl) ?_
    refine g_cz hw (g_runV (As := [.int v2, .int x1]) (rest := []) hx hb hml hown hts mX5_isOn vX5_isOn kX5_86 hw 17 0 (ci_17 (by decide)) (bi_17 (by decide) hn) rfl rfl (c_X5_isOn hn h) rfl rfl ⟨Nat.le_of_ble_eq_true rfl, Nat.le_of_ble_eq_true rfl⟩ rfl hl.1 rfl (Nat.le_of_ble_eq_true rfl) dX5_needed_17 ⟨Nat.zero_le _, Nat.zero_le _⟩) ?_
    clear h hw; intro v8 M7 H locs hw hz_v8 h
    refine letJ_W (fun (x : Int32 × Mm) => ∀ (H : Heap) (locs : List Loc) (ls : Array Slot), WO o (WA o) s s.heap H locs x.2 → lv_has ls 5 [(0, .ref (o.2.1 17 0)), (1, .int x1), (2, .int v1), (3, .int v2)] → W p l e rm_X5_needed s m args below meth c H locs 0 0 (MQ below (QI o Q) args s 0 0 (WA o)) (F0 m 34 ls [.int x.1])) h ?_ ?_
    · clear h hw hl; clear ls; intro x h H locs ls hw hl
      obtain ⟨v9, M11⟩ := x
      replace hl : lv_has ls 5 [(0, .ref (o.2.1 17 0)), (1, .int x1), (2, .int v1), (3, .int v2)] := hl
      dsimp only at h
      dsimp only at hw
      refine lv_istore (lv' := [(4, .int v9), (0, .ref (o.2.1 17 0)), (1, .int x1), (2, .int v1), (3, .int v2)]) hx hb dX5_needed_34 hl (by decide) rfl ?_
      clear hl; clear ls; intro ls hl
      refine lv_iload hx hb dX5_needed_36 (lv_at hl 0 rfl) ?_
      refine lv_iload_n hx hb dX5_needed_38 rfl (lv_at hl 3 rfl) ?_
      refine g_icmp_lt (tgt := 49) hx hb h dX5_needed_39 (by decide) ?_ ?_
      · clear h; intro h
        refine lv_iload_n hx hb dX5_needed_49 rfl (lv_at hl 3 rfl) ?_
        refine lv_istore_n (lv' := [(2, .int v1), (4, .int v9), (0, .ref (o.2.1 17 0)), (1, .int x1), (3, .int v2)]) hx hb dX5_needed_50 rfl hl (by decide) rfl ?_
        clear hl; clear ls; intro ls hl
        refine g_iinc (k := 4) (v := (v2 + (1 : Int32))) (lv' := fun v12 => [(3, .int v12), (2, .int v1), (4, .int v9), (0, .ref (o.2.1 17 0)), (1, .int x1)]) hx hb dX5_needed_51 hl rfl rfl (by decide) (fun _ => rfl) h ?_
        clear h hl; clear ls; intro v12 ls h hl
        refine lv_goto (tgt := 4) hx hb dX5_needed_54 (by decide) ?_
        exact hR5 (v1, v12, M11) h _ _ _ hw (lv_sub hl [3, 4, 1, 0] rfl)
      · clear h; intro h
        refine lv_iload hx hb dX5_needed_42 (lv_at hl 0 rfl) ?_
        refine lv_iconst (v := 1) hx hb dX5_needed_44 (by decide) ?_
        refine lv_iadd hx hb dX5_needed_45 ?_
        refine lv_goto (tgt := 50) hx hb dX5_needed_46 (by decide) ?_
        refine g_topi h ?_
        clear h; intro v13 h
        refine lv_istore_n (lv' := [(2, .int v13), (4, .int v9), (0, .ref (o.2.1 17 0)), (1, .int x1), (3, .int v2)]) hx hb dX5_needed_50 rfl hl (by decide) rfl ?_
        clear hl; clear ls; intro ls hl
        refine g_iinc (k := 4) (v := (v2 + (1 : Int32))) (lv' := fun v14 => [(3, .int v14), (2, .int v13), (4, .int v9), (0, .ref (o.2.1 17 0)), (1, .int x1)]) hx hb dX5_needed_51 hl rfl rfl (by decide) (fun _ => rfl) h ?_
        clear h hl; clear ls; intro v14 ls h hl
        refine lv_goto (tgt := 4) hx hb dX5_needed_54 (by decide) ?_
        exact hR5 (v13, v14, M11) h _ _ _ hw (lv_sub hl [3, 4, 1, 0] rfl)
    clear h; intro J10 hJ10 h
    refine g_if_eq (tgt := 32) hx hb h dX5_needed_20 (by decide) ?_ ?_
    · clear h; intro h
      refine lv_bipush (v := (-9)) hx hb dX5_needed_32 (by decide) ?_
      exact hJ10 ((-9 : Int32), M7) h _ _ _ hw (lv_sub hl [0, 1, 2, 3] rfl)
    · clear h; intro h
      refine lv_aload_n hx hb dX5_needed_23 rfl (lv_at hl 0 rfl) ?_
      refine lv_iload_n hx hb dX5_needed_24 rfl (lv_at hl 3 rfl) ?_
      refine lv_iload_n hx hb dX5_needed_25 rfl (lv_at hl 1 rfl) ?_
      refine g_ci hw (g_runV (As := [.int v2, .int x1]) (rest := []) hx hb hml hown hts mX5_rowAt vX5_rowAt kX5_89 hw 17 0 (ci_17 (by decide)) (bi_17 (by decide) hn) rfl rfl (c_X5_rowAt hn h) rfl rfl ⟨Nat.le_of_ble_eq_true rfl, Nat.le_of_ble_eq_true rfl⟩ rfl hl.1 rfl (Nat.le_of_ble_eq_true rfl) dX5_needed_26 ⟨Nat.zero_le _, Nat.zero_le _⟩) ?_
      clear h hw; intro v16 M15 H locs hw h
      refine lv_goto (tgt := 34) hx hb dX5_needed_29 (by decide) ?_
      exact hJ10 (v16, M15) h _ _ _ hw (lv_sub hl [0, 1, 2, 3] rfl)
abbrev rm_X5_markOf : Room := { frames := 4, cells := 0, slots := 0, locals := 88 }
set_option maxHeartbeats 4000000 in
set_option maxRecDepth 100000 in
theorem c_X5_markOf {o : Om} {l : Launch} (hn : 122 ≤ o.2.2.2) {M : Mm} {x1 : Int32} {x2 : Int32} {Q : Int32 → Mm → Prop} (h : w_X5_markOf M x1 x2 Q) : CI o l yX5_markOf cX5_markOf 4 rm_X5_markOf [.ref (o.2.1 17 0), .int x1, .int x2] M Q := by
  refine g_start (by decide +kernel) (Nat.le_of_ble_eq_true rfl) ?_
  intro p e s m args below meth c hx hb hr hlocks hml hown hts hw ls hl
  replace hl : lv_has ls 4 [(0, .ref (o.2.1 17 0)), (1, .int x1), (2, .int x2)] := hl
  unfold w_X5_markOf at h
  refine lv_aload_n hx hb dX5_markOf_0 rfl (lv_at hl 0 rfl) ?_
  refine lv_iload_n hx hb dX5_markOf_1 rfl (lv_at hl 1 rfl) ?_
  refine g_ci hw (g_runV (As := [.int x1]) (rest := []) hx hb hml hown hts mX5_needed vX5_needed kX5_115 hw 17 0 (ci_17 (by decide)) (bi_17 (by decide) hn) rfl rfl (c_X5_needed hn h) rfl rfl ⟨Nat.le_of_ble_eq_true rfl, Nat.le_of_ble_eq_true rfl⟩ rfl hl.1 rfl (Nat.le_of_ble_eq_true rfl) dX5_markOf_2 ⟨Nat.zero_le _, Nat.zero_le _⟩) ?_
  clear h hw; intro v2 M1 H locs hw h
  refine lv_istore_n (lv' := [(3, .int v2), (0, .ref (o.2.1 17 0)), (1, .int x1), (2, .int x2)]) hx hb dX5_markOf_5 rfl hl (by decide) rfl ?_
  clear hl; clear ls; intro ls hl
  refine lv_iload_n hx hb dX5_markOf_6 rfl (lv_at hl 0 rfl) ?_
  refine lv_iload_n hx hb dX5_markOf_7 rfl (lv_at hl 3 rfl) ?_
  refine g_icmp_gt (tgt := 15) hx hb h dX5_markOf_8 (by decide) ?_ ?_
  · clear h; intro h
    refine lv_iload_n hx hb dX5_markOf_15 rfl (lv_at hl 3 rfl) ?_
    refine lv_iconst (v := 1) hx hb dX5_markOf_16 (by decide) ?_
    refine lv_isub hx hb dX5_markOf_17 ?_
    exact g_iret hx hb hr hlocks hw h dX5_markOf_18
  · clear h; intro h
    refine lv_iload_n hx hb dX5_markOf_11 rfl (lv_at hl 0 rfl) ?_
    refine lv_goto (tgt := 18) hx hb dX5_markOf_12 (by decide) ?_
    exact g_iret hx hb hr hlocks hw h dX5_markOf_18
abbrev rm_X5_hiddenOn : Room := { frames := 5, cells := 0, slots := 0, locals := 111 }
set_option maxHeartbeats 4000000 in
set_option maxRecDepth 100000 in
theorem c_X5_hiddenOn {o : Om} {l : Launch} (hn : 122 ≤ o.2.2.2) {M : Mm} {x1 : Int32} {x2 : Int32} {Q : Int32 → Mm → Prop} (h : w_X5_hiddenOn M x1 x2 Q) : CI o l yX5_hiddenOn cX5_hiddenOn 6 rm_X5_hiddenOn [.ref (o.2.1 17 0), .int x1, .int x2] M Q := by
  refine g_start (by decide +kernel) (Nat.le_of_ble_eq_true rfl) ?_
  intro p e s m args below meth c hx hb hr hlocks hml hown hts hw ls hl
  replace hl : lv_has ls 6 [(0, .ref (o.2.1 17 0)), (1, .int x1), (2, .int x2)] := hl
  unfold w_X5_hiddenOn at h
  refine lv_aload_n hx hb dX5_hiddenOn_0 rfl (lv_at hl 0 rfl) ?_
  refine lv_iload_n hx hb dX5_hiddenOn_1 rfl (lv_at hl 1 rfl) ?_
  refine lv_iload_n hx hb dX5_hiddenOn_2 rfl (lv_at hl 2 rfl) ?_
  refine g_ci hw (g_runV (As := [.int x1, .int x2]) (rest := []) hx hb hml hown hts mX5_markOf vX5_markOf kX5_118 hw 17 0 (ci_17 (by decide)) (bi_17 (by decide) hn) rfl rfl (c_X5_markOf hn h) rfl rfl ⟨Nat.le_of_ble_eq_true rfl, Nat.le_of_ble_eq_true rfl⟩ rfl hl.1 rfl (Nat.le_of_ble_eq_true rfl) dX5_hiddenOn_3 ⟨Nat.zero_le _, Nat.zero_le _⟩) ?_
  clear h hw; intro v2 M1 H locs hw h
  refine lv_istore_n (lv' := [(3, .int v2), (0, .ref (o.2.1 17 0)), (1, .int x1), (2, .int x2)]) hx hb dX5_hiddenOn_6 rfl hl (by decide) rfl ?_
  clear hl; clear ls; intro ls hl
  refine lv_iconst (v := 0) hx hb dX5_hiddenOn_7 (by decide) ?_
  refine lv_istore (lv' := [(4, .int (0 : Int32)), (3, .int v2), (0, .ref (o.2.1 17 0)), (1, .int x1), (2, .int x2)]) hx hb dX5_hiddenOn_8 hl (by decide) rfl ?_
  clear hl; clear ls; intro ls hl
  refine lv_iconst (v := 0) hx hb dX5_hiddenOn_10 (by decide) ?_
  refine lv_istore (lv' := [(5, .int (0 : Int32)), (4, .int (0 : Int32)), (3, .int v2), (0, .ref (o.2.1 17 0)), (1, .int x1), (2, .int x2)]) hx hb dX5_hiddenOn_11 hl (by decide) rfl ?_
  clear hl; clear ls; intro ls hl
  obtain ⟨n, h⟩ := h
  refine letK_W (body := fun K => w_X5_hiddenOn_L13 x1 v2 K) (fun (x : Int32 × Int32 × Mm) => ∀ (H : Heap) (locs : List Loc) (ls : Array Slot), WO o (WA o) s s.heap H locs x.2.2 → lv_has ls 6 [(4, .int x.1)] → W p l e rm_X5_hiddenOn s m args below meth c H locs 0 0 (MQ below (QI o Q) args s 0 0 (WA o)) (F0 m 61 ls [])) h ?_ ?_
  · clear h hw hl; clear ls; intro x h H locs ls hw hl
    obtain ⟨v19, v20, M21⟩ := x
    replace hl : lv_has ls 6 [(4, .int v19)] := hl
    dsimp only at h hw
    refine lv_iload hx hb dX5_hiddenOn_61 (lv_at hl 0 rfl) ?_
    exact g_iret hx hb hr hlocks hw h dX5_hiddenOn_63
  clear h; intro K6 hK6 h
  refine loop_W (body := w_X5_hiddenOn_L13 x1 v2 K6) (fun (x : Int32 × Int32 × Mm) => ∀ (H : Heap) (locs : List Loc) (ls : Array Slot), WO o (WA o) s s.heap H locs x.2.2 → lv_has ls 6 [(0, .ref (o.2.1 17 0)), (1, .int x1), (3, .int v2), (4, .int x.1), (5, .int x.2.1)] → W p l e rm_X5_hiddenOn s m args below meth c H locs 0 0 (MQ below (QI o Q) args s 0 0 (WA o)) (F0 m 13 ls [])) ?_ n _ h _ _ _ hw (lv_sub hl [3, 4, 2, 1, 0] rfl)
  clear h hw hl; clear ls; intro R7 x hR7 h H locs ls hw hl
  obtain ⟨v3, v4, M5⟩ := x
  replace hl : lv_has ls 6 [(0, .ref (o.2.1 17 0)), (1, .int x1), (3, .int v2), (4, .int v3), (5, .int v4)] := hl
  dsimp only at hw
  unfold w_X5_hiddenOn_L13 at h
  dsimp only at h
  refine lv_iload hx hb dX5_hiddenOn_13 (lv_at hl 4 rfl) ?_
  refine lv_aload_n hx hb dX5_hiddenOn_15 rfl (lv_at hl 0 rfl) ?_
  refine g_getf hx hb hts in_X5 hown hw 17 0 (ci_17 (by decide)) (bi_17 (by decide) hn) rfl rfl 0 (by decide) kX5_7 rfl dX5_hiddenOn_16 ?_
  refine lv_iconst (v := 4) hx hb dX5_hiddenOn_19 (by decide) ?_
  refine g_iald hx hb hw 18 0 (ci_18 (by decide)) (bi_18 (by decide) hn) rfl h dX5_hiddenOn_20 ?_
  clear h; intro v8 h
  refine g_icmp_ge (tgt := 61) hx hb h dX5_hiddenOn_21 (by decide) ?_ ?_
  · clear h; intro h
    exact hK6 (v3, v4, M5) h _ _ _ hw (lv_sub hl [3] rfl)
  · clear h; intro h
    refine lv_iload hx hb dX5_hiddenOn_24 (lv_at hl 3 rfl) ?_
    refine lv_aload_n hx hb dX5_hiddenOn_26 rfl (lv_at hl 0 rfl) ?_
    refine lv_iload hx hb dX5_hiddenOn_27 (lv_at hl 4 rfl) ?_
    refine lv_iload_n hx hb dX5_hiddenOn_29 rfl (lv_at hl 1 rfl) ?_
    refine g_cz hw (g_runV (As := [.int v4, .int x1]) (rest := [.int v3]) hx hb hml hown hts mX5_isOn vX5_isOn kX5_86 hw 17 0 (ci_17 (by decide)) (bi_17 (by decide) hn) rfl rfl (c_X5_isOn hn h) rfl rfl ⟨Nat.le_of_ble_eq_true rfl, Nat.le_of_ble_eq_true rfl⟩ rfl hl.1 rfl (Nat.le_of_ble_eq_true rfl) dX5_hiddenOn_30 ⟨Nat.zero_le _, Nat.zero_le _⟩) ?_
    clear h hw; intro v10 M9 H locs hw hz_v10 h
    refine g_if_eq (tgt := 51) hx hb h dX5_hiddenOn_33 (by decide) ?_ ?_
    · clear h; intro h
      refine lv_iconst (v := 0) hx hb dX5_hiddenOn_51 (by decide) ?_
      refine lv_iadd hx hb dX5_hiddenOn_52 ?_
      refine g_topi h ?_
      clear h; intro v11 h
      refine lv_istore (lv' := [(4, .int v11), (0, .ref (o.2.1 17 0)), (1, .int x1), (3, .int v2), (5, .int v4)]) hx hb dX5_hiddenOn_53 hl (by decide) rfl ?_
      clear hl; clear ls; intro ls hl
      refine g_iinc (k := 4) (v := (v4 + (1 : Int32))) (lv' := fun v12 => [(5, .int v12), (4, .int v11), (0, .ref (o.2.1 17 0)), (1, .int x1), (3, .int v2)]) hx hb dX5_hiddenOn_55 hl rfl rfl (by decide) (fun _ => rfl) h ?_
      clear h hl; clear ls; intro v12 ls h hl
      refine lv_goto (tgt := 13) hx hb dX5_hiddenOn_58 (by decide) ?_
      exact hR7 (v11, v12, M9) h _ _ _ hw (lv_sub hl [2, 3, 4, 1, 0] rfl)
    · clear h; intro h
      refine lv_aload_n hx hb dX5_hiddenOn_36 rfl (lv_at hl 0 rfl) ?_
      refine lv_iload hx hb dX5_hiddenOn_37 (lv_at hl 4 rfl) ?_
      refine lv_iload_n hx hb dX5_hiddenOn_39 rfl (lv_at hl 1 rfl) ?_
      refine g_ci hw (g_runV (As := [.int v4, .int x1]) (rest := [.int v3]) hx hb hml hown hts mX5_rowAt vX5_rowAt kX5_89 hw 17 0 (ci_17 (by decide)) (bi_17 (by decide) hn) rfl rfl (c_X5_rowAt hn h) rfl rfl ⟨Nat.le_of_ble_eq_true rfl, Nat.le_of_ble_eq_true rfl⟩ rfl hl.1 rfl (Nat.le_of_ble_eq_true rfl) dX5_hiddenOn_40 ⟨Nat.zero_le _, Nat.zero_le _⟩) ?_
      clear h hw; intro v14 M13 H locs hw h
      refine lv_iload_n hx hb dX5_hiddenOn_43 rfl (lv_at hl 2 rfl) ?_
      refine g_icmp_lt (tgt := 51) hx hb h dX5_hiddenOn_44 (by decide) ?_ ?_
      · clear h; intro h
        refine lv_iconst (v := 0) hx hb dX5_hiddenOn_51 (by decide) ?_
        refine lv_iadd hx hb dX5_hiddenOn_52 ?_
        refine g_topi h ?_
        clear h; intro v15 h
        refine lv_istore (lv' := [(4, .int v15), (0, .ref (o.2.1 17 0)), (1, .int x1), (3, .int v2), (5, .int v4)]) hx hb dX5_hiddenOn_53 hl (by decide) rfl ?_
        clear hl; clear ls; intro ls hl
        refine g_iinc (k := 4) (v := (v4 + (1 : Int32))) (lv' := fun v16 => [(5, .int v16), (4, .int v15), (0, .ref (o.2.1 17 0)), (1, .int x1), (3, .int v2)]) hx hb dX5_hiddenOn_55 hl rfl rfl (by decide) (fun _ => rfl) h ?_
        clear h hl; clear ls; intro v16 ls h hl
        refine lv_goto (tgt := 13) hx hb dX5_hiddenOn_58 (by decide) ?_
        exact hR7 (v15, v16, M13) h _ _ _ hw (lv_sub hl [2, 3, 4, 1, 0] rfl)
      · clear h; intro h
        refine lv_iconst (v := 1) hx hb dX5_hiddenOn_47 (by decide) ?_
        refine lv_goto (tgt := 52) hx hb dX5_hiddenOn_48 (by decide) ?_
        refine lv_iadd hx hb dX5_hiddenOn_52 ?_
        refine g_topi h ?_
        clear h; intro v17 h
        refine lv_istore (lv' := [(4, .int v17), (0, .ref (o.2.1 17 0)), (1, .int x1), (3, .int v2), (5, .int v4)]) hx hb dX5_hiddenOn_53 hl (by decide) rfl ?_
        clear hl; clear ls; intro ls hl
        refine g_iinc (k := 4) (v := (v4 + (1 : Int32))) (lv' := fun v18 => [(5, .int v18), (4, .int v17), (0, .ref (o.2.1 17 0)), (1, .int x1), (3, .int v2)]) hx hb dX5_hiddenOn_55 hl rfl rfl (by decide) (fun _ => rfl) h ?_
        clear h hl; clear ls; intro v18 ls h hl
        refine lv_goto (tgt := 13) hx hb dX5_hiddenOn_58 (by decide) ?_
        exact hR7 (v17, v18, M13) h _ _ _ hw (lv_sub hl [2, 3, 4, 1, 0] rfl)
abbrev rm_X5_hidden : Room := { frames := 6, cells := 0, slots := 0, locals := 136 }
set_option maxHeartbeats 4000000 in
set_option maxRecDepth 100000 in
theorem c_X5_hidden {o : Om} {l : Launch} (hn : 122 ≤ o.2.2.2) {M : Mm} {x1 : Int32} {x2 : Int32} {x3 : Int32} {Q : Int32 → Mm → Prop} (h : w_X5_hidden M x1 x2 x3 Q) : CI o l yX5_hidden cX5_hidden 6 rm_X5_hidden [.ref (o.2.1 17 0), .int x1, .int x2, .int x3] M Q := by
  refine g_start (by decide +kernel) (Nat.le_of_ble_eq_true rfl) ?_
  intro p e s m args below meth c hx hb hr hlocks hml hown hts hw ls hl
  replace hl : lv_has ls 6 [(0, .ref (o.2.1 17 0)), (1, .int x1), (2, .int x2), (3, .int x3)] := hl
  unfold w_X5_hidden at h
  refine lv_iconst (v := 0) hx hb dX5_hidden_0 (by decide) ?_
  refine lv_istore (lv' := [(4, .int (0 : Int32)), (0, .ref (o.2.1 17 0)), (1, .int x1), (2, .int x2), (3, .int x3)]) hx hb dX5_hidden_1 hl (by decide) rfl ?_
  clear hl; clear ls; intro ls hl
  refine lv_iload_n hx hb dX5_hidden_3 rfl (lv_at hl 2 rfl) ?_
  refine lv_istore (lv' := [(5, .int x1), (4, .int (0 : Int32)), (0, .ref (o.2.1 17 0)), (1, .int x1), (2, .int x2), (3, .int x3)]) hx hb dX5_hidden_4 hl (by decide) rfl ?_
  clear hl; clear ls; intro ls hl
  obtain ⟨n, h⟩ := h
  refine letK_W (body := fun K => w_X5_hidden_L6 x2 x3 K) (fun (x : Int32 × Int32 × Mm) => ∀ (H : Heap) (locs : List Loc) (ls : Array Slot), WO o (WA o) s s.heap H locs x.2.2 → lv_has ls 6 [(4, .int x.1)] → W p l e rm_X5_hidden s m args below meth c H locs 0 0 (MQ below (QI o Q) args s 0 0 (WA o)) (F0 m 30 ls [])) h ?_ ?_
  · clear h hw hl; clear ls; intro x h H locs ls hw hl
    obtain ⟨v10, v11, M12⟩ := x
    replace hl : lv_has ls 6 [(4, .int v10)] := hl
    dsimp only at h hw
    refine lv_iload hx hb dX5_hidden_30 (lv_at hl 0 rfl) ?_
    exact g_iret hx hb hr hlocks hw h dX5_hidden_32
  clear h; intro K4 hK4 h
  refine loop_W (body := w_X5_hidden_L6 x2 x3 K4) (fun (x : Int32 × Int32 × Mm) => ∀ (H : Heap) (locs : List Loc) (ls : Array Slot), WO o (WA o) s s.heap H locs x.2.2 → lv_has ls 6 [(0, .ref (o.2.1 17 0)), (2, .int x2), (3, .int x3), (4, .int x.1), (5, .int x.2.1)] → W p l e rm_X5_hidden s m args below meth c H locs 0 0 (MQ below (QI o Q) args s 0 0 (WA o)) (F0 m 6 ls [])) ?_ n _ h _ _ _ hw (lv_sub hl [2, 4, 5, 1, 0] rfl)
  clear h hw hl; clear ls; intro R5 x hR5 h H locs ls hw hl
  obtain ⟨v1, v2, M3⟩ := x
  replace hl : lv_has ls 6 [(0, .ref (o.2.1 17 0)), (2, .int x2), (3, .int x3), (4, .int v1), (5, .int v2)] := hl
  dsimp only at hw
  unfold w_X5_hidden_L6 at h
  dsimp only at h
  refine lv_iload hx hb dX5_hidden_6 (lv_at hl 4 rfl) ?_
  refine lv_iload_n hx hb dX5_hidden_8 rfl (lv_at hl 1 rfl) ?_
  refine g_icmp_gt (tgt := 30) hx hb h dX5_hidden_9 (by decide) ?_ ?_
  · clear h; intro h
    exact hK4 (v1, v2, M3) h _ _ _ hw (lv_sub hl [3] rfl)
  · clear h; intro h
    refine lv_iload hx hb dX5_hidden_12 (lv_at hl 3 rfl) ?_
    refine lv_aload_n hx hb dX5_hidden_14 rfl (lv_at hl 0 rfl) ?_
    refine lv_iload hx hb dX5_hidden_15 (lv_at hl 4 rfl) ?_
    refine lv_iload_n hx hb dX5_hidden_17 rfl (lv_at hl 2 rfl) ?_
    refine g_ci hw (g_runV (As := [.int v2, .int x3]) (rest := [.int v1]) hx hb hml hown hts mX5_hiddenOn vX5_hiddenOn kX5_121 hw 17 0 (ci_17 (by decide)) (bi_17 (by decide) hn) rfl rfl (c_X5_hiddenOn hn h) rfl rfl ⟨Nat.le_of_ble_eq_true rfl, Nat.le_of_ble_eq_true rfl⟩ rfl hl.1 rfl (Nat.le_of_ble_eq_true rfl) dX5_hidden_18 ⟨Nat.zero_le _, Nat.zero_le _⟩) ?_
    clear h hw; intro v7 M6 H locs hw h
    refine lv_iadd hx hb dX5_hidden_21 ?_
    refine g_topi h ?_
    clear h; intro v8 h
    refine lv_istore (lv' := [(4, .int v8), (0, .ref (o.2.1 17 0)), (2, .int x2), (3, .int x3), (5, .int v2)]) hx hb dX5_hidden_22 hl (by decide) rfl ?_
    clear hl; clear ls; intro ls hl
    refine g_iinc (k := 4) (v := (v2 + (1 : Int32))) (lv' := fun v9 => [(5, .int v9), (4, .int v8), (0, .ref (o.2.1 17 0)), (2, .int x2), (3, .int x3)]) hx hb dX5_hidden_24 hl rfl rfl (by decide) (fun _ => rfl) h ?_
    clear h hl; clear ls; intro v9 ls h hl
    refine lv_goto (tgt := 6) hx hb dX5_hidden_27 (by decide) ?_
    exact hR5 (v8, v9, M6) h _ _ _ hw (lv_sub hl [2, 3, 4, 1, 0] rfl)
abbrev rm_X5_barsIn : Room := { frames := 0, cells := 0, slots := 0, locals := 0 }
set_option maxHeartbeats 4000000 in
set_option maxRecDepth 100000 in
theorem c_X5_barsIn {o : Om} {l : Launch} (hn : 122 ≤ o.2.2.2) {M : Mm} {x1 : Int32} {Q : Int32 → Mm → Prop} (h : w_X5_barsIn M x1 Q) : CI o l yX5_barsIn cX5_barsIn 4 rm_X5_barsIn [.ref (o.2.1 17 0), .int x1] M Q := by
  refine g_start (by decide +kernel) (Nat.le_of_ble_eq_true rfl) ?_
  intro p e s m args below meth c hx hb hr hlocks hml hown hts hw ls hl
  replace hl : lv_has ls 4 [(0, .ref (o.2.1 17 0)), (1, .int x1)] := hl
  unfold w_X5_barsIn at h
  refine lv_iconst (v := 0) hx hb dX5_barsIn_0 (by decide) ?_
  refine lv_istore_n (lv' := [(2, .int (0 : Int32)), (0, .ref (o.2.1 17 0)), (1, .int x1)]) hx hb dX5_barsIn_1 rfl hl (by decide) rfl ?_
  clear hl; clear ls; intro ls hl
  refine lv_iconst (v := 0) hx hb dX5_barsIn_2 (by decide) ?_
  refine lv_istore_n (lv' := [(3, .int (0 : Int32)), (2, .int (0 : Int32)), (0, .ref (o.2.1 17 0)), (1, .int x1)]) hx hb dX5_barsIn_3 rfl hl (by decide) rfl ?_
  clear hl; clear ls; intro ls hl
  obtain ⟨n, h⟩ := h
  refine letK_W (body := fun K => w_X5_barsIn_L4 x1 K) (fun (x : Int32 × Int32 × Mm) => ∀ (H : Heap) (locs : List Loc) (ls : Array Slot), WO o (WA o) s s.heap H locs x.2.2 → lv_has ls 4 [(2, .int x.1)] → W p l e rm_X5_barsIn s m args below meth c H locs 0 0 (MQ below (QI o Q) args s 0 0 (WA o)) (F0 m 44 ls [])) h ?_ ?_
  · clear h hw hl; clear ls; intro x h H locs ls hw hl
    obtain ⟨v12, v13, M14⟩ := x
    replace hl : lv_has ls 4 [(2, .int v12)] := hl
    dsimp only at h hw
    refine lv_iload_n hx hb dX5_barsIn_44 rfl (lv_at hl 0 rfl) ?_
    exact g_iret hx hb hr hlocks hw h dX5_barsIn_45
  clear h; intro K4 hK4 h
  refine loop_W (body := w_X5_barsIn_L4 x1 K4) (fun (x : Int32 × Int32 × Mm) => ∀ (H : Heap) (locs : List Loc) (ls : Array Slot), WO o (WA o) s s.heap H locs x.2.2 → lv_has ls 4 [(0, .ref (o.2.1 17 0)), (1, .int x1), (2, .int x.1), (3, .int x.2.1)] → W p l e rm_X5_barsIn s m args below meth c H locs 0 0 (MQ below (QI o Q) args s 0 0 (WA o)) (F0 m 4 ls [])) ?_ n _ h _ _ _ hw (lv_sub hl [2, 3, 1, 0] rfl)
  clear h hw hl; clear ls; intro R5 x hR5 h H locs ls hw hl
  obtain ⟨v1, v2, M3⟩ := x
  replace hl : lv_has ls 4 [(0, .ref (o.2.1 17 0)), (1, .int x1), (2, .int v1), (3, .int v2)] := hl
  dsimp only at hw
  unfold w_X5_barsIn_L4 at h
  dsimp only at h
  refine lv_iload_n hx hb dX5_barsIn_4 rfl (lv_at hl 3 rfl) ?_
  refine lv_aload_n hx hb dX5_barsIn_5 rfl (lv_at hl 0 rfl) ?_
  refine g_getf hx hb hts in_X5 hown hw 17 0 (ci_17 (by decide)) (bi_17 (by decide) hn) rfl rfl 0 (by decide) kX5_7 rfl dX5_barsIn_6 ?_
  refine lv_iconst (v := 4) hx hb dX5_barsIn_9 (by decide) ?_
  refine g_iald hx hb hw 18 0 (ci_18 (by decide)) (bi_18 (by decide) hn) rfl h dX5_barsIn_10 ?_
  clear h; intro v6 h
  refine g_icmp_ge (tgt := 44) hx hb h dX5_barsIn_11 (by decide) ?_ ?_
  · clear h; intro h
    exact hK4 (v1, v2, M3) h _ _ _ hw (lv_sub hl [2] rfl)
  · clear h; intro h
    refine lv_iload_n hx hb dX5_barsIn_14 rfl (lv_at hl 2 rfl) ?_
    refine lv_aload_n hx hb dX5_barsIn_15 rfl (lv_at hl 0 rfl) ?_
    refine g_getf hx hb hts in_X5 hown hw 17 0 (ci_17 (by decide)) (bi_17 (by decide) hn) rfl rfl 4 (by decide) kX5_16 rfl dX5_barsIn_16 ?_
    refine lv_bipush (v := 7) hx hb dX5_barsIn_19 (by decide) ?_
    refine lv_iload_n hx hb dX5_barsIn_21 rfl (lv_at hl 3 rfl) ?_
    refine lv_imul hx hb dX5_barsIn_22 ?_
    refine lv_iload_n hx hb dX5_barsIn_23 rfl (lv_at hl 1 rfl) ?_
    refine lv_iadd hx hb dX5_barsIn_24 ?_
    refine g_iald hx hb hw 20 0 (ci_20 (by decide)) (bi_20 (by decide) hn) rfl h dX5_barsIn_25 ?_
    clear h; intro v7 h
    refine lv_bipush (v := (-9)) hx hb dX5_barsIn_26 (by decide) ?_
    refine g_icmp_ne (tgt := 35) hx hb h dX5_barsIn_28 (by decide) ?_ ?_
    · clear h; intro h
      refine lv_iconst (v := 1) hx hb dX5_barsIn_35 (by decide) ?_
      refine lv_iadd hx hb dX5_barsIn_36 ?_
      refine g_topi h ?_
      clear h; intro v8 h
      refine lv_istore_n (lv' := [(2, .int v8), (0, .ref (o.2.1 17 0)), (1, .int x1), (3, .int v2)]) hx hb dX5_barsIn_37 rfl hl (by decide) rfl ?_
      clear hl; clear ls; intro ls hl
      refine g_iinc (k := 3) (v := (v2 + (1 : Int32))) (lv' := fun v9 => [(3, .int v9), (2, .int v8), (0, .ref (o.2.1 17 0)), (1, .int x1)]) hx hb dX5_barsIn_38 hl rfl rfl (by decide) (fun _ => rfl) h ?_
      clear h hl; clear ls; intro v9 ls h hl
      refine lv_goto (tgt := 4) hx hb dX5_barsIn_41 (by decide) ?_
      exact hR5 (v8, v9, M3) h _ _ _ hw (lv_sub hl [2, 3, 1, 0] rfl)
    · clear h; intro h
      refine lv_iconst (v := 0) hx hb dX5_barsIn_31 (by decide) ?_
      refine lv_goto (tgt := 36) hx hb dX5_barsIn_32 (by decide) ?_
      refine lv_iadd hx hb dX5_barsIn_36 ?_
      refine g_topi h ?_
      clear h; intro v10 h
      refine lv_istore_n (lv' := [(2, .int v10), (0, .ref (o.2.1 17 0)), (1, .int x1), (3, .int v2)]) hx hb dX5_barsIn_37 rfl hl (by decide) rfl ?_
      clear hl; clear ls; intro ls hl
      refine g_iinc (k := 3) (v := (v2 + (1 : Int32))) (lv' := fun v11 => [(3, .int v11), (2, .int v10), (0, .ref (o.2.1 17 0)), (1, .int x1)]) hx hb dX5_barsIn_38 hl rfl rfl (by decide) (fun _ => rfl) h ?_
      clear h hl; clear ls; intro v11 ls h hl
      refine lv_goto (tgt := 4) hx hb dX5_barsIn_41 (by decide) ?_
      exact hR5 (v10, v11, M3) h _ _ _ hw (lv_sub hl [2, 3, 1, 0] rfl)
abbrev rm_X5_lanesIn : Room := { frames := 0, cells := 0, slots := 0, locals := 0 }
set_option maxHeartbeats 4000000 in
set_option maxRecDepth 100000 in
theorem c_X5_lanesIn {o : Om} {l : Launch} (hn : 122 ≤ o.2.2.2) {M : Mm} {x1 : Int32} {Q : Int32 → Mm → Prop} (h : w_X5_lanesIn M x1 Q) : CI o l yX5_lanesIn cX5_lanesIn 4 rm_X5_lanesIn [.ref (o.2.1 17 0), .int x1] M Q := by
  refine g_start (by decide +kernel) (Nat.le_of_ble_eq_true rfl) ?_
  intro p e s m args below meth c hx hb hr hlocks hml hown hts hw ls hl
  replace hl : lv_has ls 4 [(0, .ref (o.2.1 17 0)), (1, .int x1)] := hl
  unfold w_X5_lanesIn at h
  refine lv_iconst (v := 0) hx hb dX5_lanesIn_0 (by decide) ?_
  refine lv_istore_n (lv' := [(2, .int (0 : Int32)), (0, .ref (o.2.1 17 0)), (1, .int x1)]) hx hb dX5_lanesIn_1 rfl hl (by decide) rfl ?_
  clear hl; clear ls; intro ls hl
  refine lv_iconst (v := 0) hx hb dX5_lanesIn_2 (by decide) ?_
  refine lv_istore_n (lv' := [(3, .int (0 : Int32)), (2, .int (0 : Int32)), (0, .ref (o.2.1 17 0)), (1, .int x1)]) hx hb dX5_lanesIn_3 rfl hl (by decide) rfl ?_
  clear hl; clear ls; intro ls hl
  obtain ⟨n, h⟩ := h
  refine letK_W (body := fun K => w_X5_lanesIn_L4 x1 K) (fun (x : Int32 × Int32 × Mm) => ∀ (H : Heap) (locs : List Loc) (ls : Array Slot), WO o (WA o) s s.heap H locs x.2.2 → lv_has ls 4 [(2, .int x.1)] → W p l e rm_X5_lanesIn s m args below meth c H locs 0 0 (MQ below (QI o Q) args s 0 0 (WA o)) (F0 m 53 ls [])) h ?_ ?_
  · clear h hw hl; clear ls; intro x h H locs ls hw hl
    obtain ⟨v12, v13, M14⟩ := x
    replace hl : lv_has ls 4 [(2, .int v12)] := hl
    dsimp only at h hw
    refine lv_iload_n hx hb dX5_lanesIn_53 rfl (lv_at hl 0 rfl) ?_
    exact g_iret hx hb hr hlocks hw h dX5_lanesIn_54
  clear h; intro K4 hK4 h
  refine loop_W (body := w_X5_lanesIn_L4 x1 K4) (fun (x : Int32 × Int32 × Mm) => ∀ (H : Heap) (locs : List Loc) (ls : Array Slot), WO o (WA o) s s.heap H locs x.2.2 → lv_has ls 4 [(0, .ref (o.2.1 17 0)), (1, .int x1), (2, .int x.1), (3, .int x.2.1)] → W p l e rm_X5_lanesIn s m args below meth c H locs 0 0 (MQ below (QI o Q) args s 0 0 (WA o)) (F0 m 4 ls [])) ?_ n _ h _ _ _ hw (lv_sub hl [2, 3, 1, 0] rfl)
  clear h hw hl; clear ls; intro R5 x hR5 h H locs ls hw hl
  obtain ⟨v1, v2, M3⟩ := x
  replace hl : lv_has ls 4 [(0, .ref (o.2.1 17 0)), (1, .int x1), (2, .int v1), (3, .int v2)] := hl
  dsimp only at hw
  unfold w_X5_lanesIn_L4 at h
  dsimp only at h
  refine lv_iload_n hx hb dX5_lanesIn_4 rfl (lv_at hl 3 rfl) ?_
  refine lv_aload_n hx hb dX5_lanesIn_5 rfl (lv_at hl 0 rfl) ?_
  refine g_getf hx hb hts in_X5 hown hw 17 0 (ci_17 (by decide)) (bi_17 (by decide) hn) rfl rfl 0 (by decide) kX5_7 rfl dX5_lanesIn_6 ?_
  refine lv_iconst (v := 4) hx hb dX5_lanesIn_9 (by decide) ?_
  refine g_iald hx hb hw 18 0 (ci_18 (by decide)) (bi_18 (by decide) hn) rfl h dX5_lanesIn_10 ?_
  clear h; intro v6 h
  refine g_icmp_ge (tgt := 53) hx hb h dX5_lanesIn_11 (by decide) ?_ ?_
  · clear h; intro h
    exact hK4 (v1, v2, M3) h _ _ _ hw (lv_sub hl [2] rfl)
  · clear h; intro h
    refine lv_aload_n hx hb dX5_lanesIn_14 rfl (lv_at hl 0 rfl) ?_
    refine g_getf hx hb hts in_X5 hown hw 17 0 (ci_17 (by decide)) (bi_17 (by decide) hn) rfl rfl 4 (by decide) kX5_16 rfl dX5_lanesIn_15 ?_
    refine lv_bipush (v := 7) hx hb dX5_lanesIn_18 (by decide) ?_
    refine lv_iload_n hx hb dX5_lanesIn_20 rfl (lv_at hl 3 rfl) ?_
    refine lv_imul hx hb dX5_lanesIn_21 ?_
    refine lv_iload_n hx hb dX5_lanesIn_22 rfl (lv_at hl 1 rfl) ?_
    refine lv_iadd hx hb dX5_lanesIn_23 ?_
    refine g_iald hx hb hw 20 0 (ci_20 (by decide)) (bi_20 (by decide) hn) rfl h dX5_lanesIn_24 ?_
    clear h; intro v7 h
    refine lv_iload_n hx hb dX5_lanesIn_25 rfl (lv_at hl 2 rfl) ?_
    refine g_icmp_lt (tgt := 45) hx hb h dX5_lanesIn_26 (by decide) ?_ ?_
    · clear h; intro h
      refine lv_iload_n hx hb dX5_lanesIn_45 rfl (lv_at hl 2 rfl) ?_
      refine lv_istore_n (lv' := [(2, .int v1), (0, .ref (o.2.1 17 0)), (1, .int x1), (3, .int v2)]) hx hb dX5_lanesIn_46 rfl hl (by decide) rfl ?_
      clear hl; clear ls; intro ls hl
      refine g_iinc (k := 3) (v := (v2 + (1 : Int32))) (lv' := fun v8 => [(3, .int v8), (2, .int v1), (0, .ref (o.2.1 17 0)), (1, .int x1)]) hx hb dX5_lanesIn_47 hl rfl rfl (by decide) (fun _ => rfl) h ?_
      clear h hl; clear ls; intro v8 ls h hl
      refine lv_goto (tgt := 4) hx hb dX5_lanesIn_50 (by decide) ?_
      exact hR5 (v1, v8, M3) h _ _ _ hw (lv_sub hl [2, 3, 1, 0] rfl)
    · clear h; intro h
      refine lv_aload_n hx hb dX5_lanesIn_29 rfl (lv_at hl 0 rfl) ?_
      refine g_getf hx hb hts in_X5 hown hw 17 0 (ci_17 (by decide)) (bi_17 (by decide) hn) rfl rfl 4 (by decide) kX5_16 rfl dX5_lanesIn_30 ?_
      refine lv_bipush (v := 7) hx hb dX5_lanesIn_33 (by decide) ?_
      refine lv_iload_n hx hb dX5_lanesIn_35 rfl (lv_at hl 3 rfl) ?_
      refine lv_imul hx hb dX5_lanesIn_36 ?_
      refine lv_iload_n hx hb dX5_lanesIn_37 rfl (lv_at hl 1 rfl) ?_
      refine lv_iadd hx hb dX5_lanesIn_38 ?_
      refine g_iald hx hb hw 20 0 (ci_20 (by decide)) (bi_20 (by decide) hn) rfl h dX5_lanesIn_39 ?_
      clear h; intro v9 h
      refine lv_iconst (v := 1) hx hb dX5_lanesIn_40 (by decide) ?_
      refine lv_iadd hx hb dX5_lanesIn_41 ?_
      refine lv_goto (tgt := 46) hx hb dX5_lanesIn_42 (by decide) ?_
      refine g_topi h ?_
      clear h; intro v10 h
      refine lv_istore_n (lv' := [(2, .int v10), (0, .ref (o.2.1 17 0)), (1, .int x1), (3, .int v2)]) hx hb dX5_lanesIn_46 rfl hl (by decide) rfl ?_
      clear hl; clear ls; intro ls hl
      refine g_iinc (k := 3) (v := (v2 + (1 : Int32))) (lv' := fun v11 => [(3, .int v11), (2, .int v10), (0, .ref (o.2.1 17 0)), (1, .int x1)]) hx hb dX5_lanesIn_47 hl rfl rfl (by decide) (fun _ => rfl) h ?_
      clear h hl; clear ls; intro v11 ls h hl
      refine lv_goto (tgt := 4) hx hb dX5_lanesIn_50 (by decide) ?_
      exact hR5 (v10, v11, M3) h _ _ _ hw (lv_sub hl [2, 3, 1, 0] rfl)
abbrev rm_X5_shortsIn : Room := { frames := 2, cells := 0, slots := 0, locals := 42 }
set_option maxHeartbeats 4000000 in
set_option maxRecDepth 100000 in
theorem c_X5_shortsIn {o : Om} {l : Launch} (hn : 122 ≤ o.2.2.2) {M : Mm} {x1 : Int32} {x2 : Int32} {Q : Int32 → Mm → Prop} (h : w_X5_shortsIn M x1 x2 Q) : CI o l yX5_shortsIn cX5_shortsIn 5 rm_X5_shortsIn [.ref (o.2.1 17 0), .int x1, .int x2] M Q := by
  refine g_start (by decide +kernel) (Nat.le_of_ble_eq_true rfl) ?_
  intro p e s m args below meth c hx hb hr hlocks hml hown hts hw ls hl
  replace hl : lv_has ls 5 [(0, .ref (o.2.1 17 0)), (1, .int x1), (2, .int x2)] := hl
  unfold w_X5_shortsIn at h
  refine lv_iconst (v := 0) hx hb dX5_shortsIn_0 (by decide) ?_
  refine lv_istore_n (lv' := [(3, .int (0 : Int32)), (0, .ref (o.2.1 17 0)), (1, .int x1), (2, .int x2)]) hx hb dX5_shortsIn_1 rfl hl (by decide) rfl ?_
  clear hl; clear ls; intro ls hl
  refine lv_iconst (v := 0) hx hb dX5_shortsIn_2 (by decide) ?_
  refine lv_istore (lv' := [(4, .int (0 : Int32)), (3, .int (0 : Int32)), (0, .ref (o.2.1 17 0)), (1, .int x1), (2, .int x2)]) hx hb dX5_shortsIn_3 hl (by decide) rfl ?_
  clear hl; clear ls; intro ls hl
  obtain ⟨n, h⟩ := h
  refine letK_W (body := fun K => w_X5_shortsIn_L5 x1 x2 K) (fun (x : Int32 × Int32 × Mm) => ∀ (H : Heap) (locs : List Loc) (ls : Array Slot), WO o (WA o) s s.heap H locs x.2.2 → lv_has ls 5 [(3, .int x.1)] → W p l e rm_X5_shortsIn s m args below meth c H locs 0 0 (MQ below (QI o Q) args s 0 0 (WA o)) (F0 m 53 ls [])) h ?_ ?_
  · clear h hw hl; clear ls; intro x h H locs ls hw hl
    obtain ⟨v19, v20, M21⟩ := x
    replace hl : lv_has ls 5 [(3, .int v19)] := hl
    dsimp only at h hw
    refine lv_iload_n hx hb dX5_shortsIn_53 rfl (lv_at hl 0 rfl) ?_
    exact g_iret hx hb hr hlocks hw h dX5_shortsIn_54
  clear h; intro K4 hK4 h
  refine loop_W (body := w_X5_shortsIn_L5 x1 x2 K4) (fun (x : Int32 × Int32 × Mm) => ∀ (H : Heap) (locs : List Loc) (ls : Array Slot), WO o (WA o) s s.heap H locs x.2.2 → lv_has ls 5 [(0, .ref (o.2.1 17 0)), (1, .int x1), (2, .int x2), (3, .int x.1), (4, .int x.2.1)] → W p l e rm_X5_shortsIn s m args below meth c H locs 0 0 (MQ below (QI o Q) args s 0 0 (WA o)) (F0 m 5 ls [])) ?_ n _ h _ _ _ hw (lv_sub hl [2, 3, 4, 1, 0] rfl)
  clear h hw hl; clear ls; intro R5 x hR5 h H locs ls hw hl
  obtain ⟨v1, v2, M3⟩ := x
  replace hl : lv_has ls 5 [(0, .ref (o.2.1 17 0)), (1, .int x1), (2, .int x2), (3, .int v1), (4, .int v2)] := hl
  dsimp only at hw
  unfold w_X5_shortsIn_L5 at h
  dsimp only at h
  refine lv_iload hx hb dX5_shortsIn_5 (lv_at hl 4 rfl) ?_
  refine lv_aload_n hx hb dX5_shortsIn_7 rfl (lv_at hl 0 rfl) ?_
  refine g_getf hx hb hts in_X5 hown hw 17 0 (ci_17 (by decide)) (bi_17 (by decide) hn) rfl rfl 0 (by decide) kX5_7 rfl dX5_shortsIn_8 ?_
  refine lv_iconst (v := 4) hx hb dX5_shortsIn_11 (by decide) ?_
  refine g_iald hx hb hw 18 0 (ci_18 (by decide)) (bi_18 (by decide) hn) rfl h dX5_shortsIn_12 ?_
  clear h; intro v6 h
  refine g_icmp_ge (tgt := 53) hx hb h dX5_shortsIn_13 (by decide) ?_ ?_
  · clear h; intro h
    exact hK4 (v1, v2, M3) h _ _ _ hw (lv_sub hl [3] rfl)
  · clear h; intro h
    refine lv_iload_n hx hb dX5_shortsIn_16 rfl (lv_at hl 3 rfl) ?_
    refine lv_aload_n hx hb dX5_shortsIn_17 rfl (lv_at hl 0 rfl) ?_
    refine lv_iload hx hb dX5_shortsIn_18 (lv_at hl 4 rfl) ?_
    refine g_cz hw (g_runV (As := [.int v2]) (rest := [.int v1]) hx hb hml hown hts mX5_isLong vX5_isLong kX5_73 hw 17 0 (ci_17 (by decide)) (bi_17 (by decide) hn) rfl rfl (c_X5_isLong hn h) rfl rfl ⟨Nat.le_of_ble_eq_true rfl, Nat.le_of_ble_eq_true rfl⟩ rfl hl.1 rfl (Nat.le_of_ble_eq_true rfl) dX5_shortsIn_20 ⟨Nat.zero_le _, Nat.zero_le _⟩) ?_
    clear h hw; intro v8 M7 H locs hw hz_v8 h
    refine g_if_ne (tgt := 44) hx hb h dX5_shortsIn_23 (by decide) ?_ ?_
    · clear h; intro h
      refine lv_iconst (v := 0) hx hb dX5_shortsIn_44 (by decide) ?_
      refine lv_iadd hx hb dX5_shortsIn_45 ?_
      refine g_topi h ?_
      clear h; intro v9 h
      refine lv_istore_n (lv' := [(3, .int v9), (0, .ref (o.2.1 17 0)), (1, .int x1), (2, .int x2), (4, .int v2)]) hx hb dX5_shortsIn_46 rfl hl (by decide) rfl ?_
      clear hl; clear ls; intro ls hl
      refine g_iinc (k := 4) (v := (v2 + (1 : Int32))) (lv' := fun v10 => [(4, .int v10), (3, .int v9), (0, .ref (o.2.1 17 0)), (1, .int x1), (2, .int x2)]) hx hb dX5_shortsIn_47 hl rfl rfl (by decide) (fun _ => rfl) h ?_
      clear h hl; clear ls; intro v10 ls h hl
      refine lv_goto (tgt := 5) hx hb dX5_shortsIn_50 (by decide) ?_
      exact hR5 (v9, v10, M7) h _ _ _ hw (lv_sub hl [2, 3, 4, 1, 0] rfl)
    · clear h; intro h
      refine lv_aload_n hx hb dX5_shortsIn_26 rfl (lv_at hl 0 rfl) ?_
      refine lv_iload hx hb dX5_shortsIn_27 (lv_at hl 4 rfl) ?_
      refine g_ci hw (g_runV (As := [.int v2]) (rest := [.int v1]) hx hb hml hown hts mX5_begins vX5_begins kX5_40 hw 17 0 (ci_17 (by decide)) (bi_17 (by decide) hn) rfl rfl (c_X5_begins hn h) rfl rfl ⟨Nat.le_of_ble_eq_true rfl, Nat.le_of_ble_eq_true rfl⟩ rfl hl.1 rfl (Nat.le_of_ble_eq_true rfl) dX5_shortsIn_29 ⟨Nat.zero_le _, Nat.zero_le _⟩) ?_
      clear h hw; intro v12 M11 H locs hw h
      refine lv_iload_n hx hb dX5_shortsIn_32 rfl (lv_at hl 1 rfl) ?_
      refine lv_iload_n hx hb dX5_shortsIn_33 rfl (lv_at hl 2 rfl) ?_
      refine g_cz hw (g_runS (As := [.int v12, .int x1, .int x2]) (rest := [.int v1]) hx hb hml hown hts mX5_in sX5_in kX5_32 hw (c_X5_in hn h) rfl rfl ⟨Nat.le_of_ble_eq_true rfl, Nat.le_of_ble_eq_true rfl⟩ rfl hl.1 rfl (Nat.le_of_ble_eq_true rfl) dX5_shortsIn_34 ⟨Nat.zero_le _, Nat.zero_le _⟩) ?_
      clear h hw; intro v14 M13 H locs hw hz_v14 h
      refine g_if_eq (tgt := 44) hx hb h dX5_shortsIn_37 (by decide) ?_ ?_
      · clear h; intro h
        refine lv_iconst (v := 0) hx hb dX5_shortsIn_44 (by decide) ?_
        refine lv_iadd hx hb dX5_shortsIn_45 ?_
        refine g_topi h ?_
        clear h; intro v15 h
        refine lv_istore_n (lv' := [(3, .int v15), (0, .ref (o.2.1 17 0)), (1, .int x1), (2, .int x2), (4, .int v2)]) hx hb dX5_shortsIn_46 rfl hl (by decide) rfl ?_
        clear hl; clear ls; intro ls hl
        refine g_iinc (k := 4) (v := (v2 + (1 : Int32))) (lv' := fun v16 => [(4, .int v16), (3, .int v15), (0, .ref (o.2.1 17 0)), (1, .int x1), (2, .int x2)]) hx hb dX5_shortsIn_47 hl rfl rfl (by decide) (fun _ => rfl) h ?_
        clear h hl; clear ls; intro v16 ls h hl
        refine lv_goto (tgt := 5) hx hb dX5_shortsIn_50 (by decide) ?_
        exact hR5 (v15, v16, M13) h _ _ _ hw (lv_sub hl [2, 3, 4, 1, 0] rfl)
      · clear h; intro h
        refine lv_iconst (v := 1) hx hb dX5_shortsIn_40 (by decide) ?_
        refine lv_goto (tgt := 45) hx hb dX5_shortsIn_41 (by decide) ?_
        refine lv_iadd hx hb dX5_shortsIn_45 ?_
        refine g_topi h ?_
        clear h; intro v17 h
        refine lv_istore_n (lv' := [(3, .int v17), (0, .ref (o.2.1 17 0)), (1, .int x1), (2, .int x2), (4, .int v2)]) hx hb dX5_shortsIn_46 rfl hl (by decide) rfl ?_
        clear hl; clear ls; intro ls hl
        refine g_iinc (k := 4) (v := (v2 + (1 : Int32))) (lv' := fun v18 => [(4, .int v18), (3, .int v17), (0, .ref (o.2.1 17 0)), (1, .int x1), (2, .int x2)]) hx hb dX5_shortsIn_47 hl rfl rfl (by decide) (fun _ => rfl) h ?_
        clear h hl; clear ls; intro v18 ls h hl
        refine lv_goto (tgt := 5) hx hb dX5_shortsIn_50 (by decide) ?_
        exact hR5 (v17, v18, M13) h _ _ _ hw (lv_sub hl [2, 3, 4, 1, 0] rfl)
abbrev rm_X5_weekOfAll : Room := { frames := 7, cells := 0, slots := 0, locals := 161 }
set_option maxHeartbeats 4000000 in
set_option maxRecDepth 100000 in
theorem c_X5_weekOfAll {o : Om} {l : Launch} (hn : 122 ≤ o.2.2.2) {M : Mm} {x1 : Int32} {x2 : Int32} {Q : Int32 → Mm → Prop} (h : w_X5_weekOfAll M x1 x2 Q) : CI o l yX5_weekOfAll cX5_weekOfAll 5 rm_X5_weekOfAll [.ref (o.2.1 17 0), .int x1, .int x2] M Q := by
  refine g_start (by decide +kernel) (Nat.le_of_ble_eq_true rfl) ?_
  intro p e s m args below meth c hx hb hr hlocks hml hown hts hw ls hl
  replace hl : lv_has ls 5 [(0, .ref (o.2.1 17 0)), (1, .int x1), (2, .int x2)] := hl
  unfold w_X5_weekOfAll at h
  refine lv_aload_n hx hb dX5_weekOfAll_0 rfl (lv_at hl 0 rfl) ?_
  refine lv_iload_n hx hb dX5_weekOfAll_1 rfl (lv_at hl 1 rfl) ?_
  refine g_ci hw (g_runV (As := [.int x1]) (rest := []) hx hb hml hown hts mX5_weekFirst vX5_weekFirst kX5_105 hw 17 0 (ci_17 (by decide)) (bi_17 (by decide) hn) rfl rfl (c_X5_weekFirst hn h) rfl rfl ⟨Nat.le_of_ble_eq_true rfl, Nat.le_of_ble_eq_true rfl⟩ rfl hl.1 rfl (Nat.le_of_ble_eq_true rfl) dX5_weekOfAll_2 ⟨Nat.zero_le _, Nat.zero_le _⟩) ?_
  clear h hw; intro v2 M1 H locs hw h
  refine lv_istore_n (lv' := [(3, .int v2), (0, .ref (o.2.1 17 0)), (1, .int x1), (2, .int x2)]) hx hb dX5_weekOfAll_5 rfl hl (by decide) rfl ?_
  clear hl; clear ls; intro ls hl
  refine lv_aload_n hx hb dX5_weekOfAll_6 rfl (lv_at hl 1 rfl) ?_
  refine lv_iload_n hx hb dX5_weekOfAll_7 rfl (lv_at hl 2 rfl) ?_
  refine g_ci hw (g_runV (As := [.int x1]) (rest := []) hx hb hml hown hts mX5_weekLast vX5_weekLast kX5_124 hw 17 0 (ci_17 (by decide)) (bi_17 (by decide) hn) rfl rfl (c_X5_weekLast hn h) rfl rfl ⟨Nat.le_of_ble_eq_true rfl, Nat.le_of_ble_eq_true rfl⟩ rfl hl.1 rfl (Nat.le_of_ble_eq_true rfl) dX5_weekOfAll_8 ⟨Nat.zero_le _, Nat.zero_le _⟩) ?_
  clear h hw; intro v4 M3 H locs hw h
  refine lv_istore (lv' := [(4, .int v4), (3, .int v2), (0, .ref (o.2.1 17 0)), (1, .int x1), (2, .int x2)]) hx hb dX5_weekOfAll_11 hl (by decide) rfl ?_
  clear hl; clear ls; intro ls hl
  refine lv_iload_n hx hb dX5_weekOfAll_13 rfl (lv_at hl 4 rfl) ?_
  by_cases c0 : x2 = (0 : Int32)
  · rw [if_pos c0] at h
    refine lv_tableIn (tgt := 48) hx hb dX5_weekOfAll_14 (by rw [c0]; decide) (by rw [c0]; decide) (by rw [c0]; rfl) (by decide) ?_
    clear c0
    refine lv_iload_n hx hb dX5_weekOfAll_48 rfl (lv_at hl 1 rfl) ?_
    exact g_iret hx hb hr hlocks hw h dX5_weekOfAll_49
  rw [if_neg c0] at h
  by_cases c1 : x2 = (1 : Int32)
  · rw [if_pos c1] at h
    refine lv_tableIn (tgt := 50) hx hb dX5_weekOfAll_14 (by rw [c1]; decide) (by rw [c1]; decide) (by rw [c1]; rfl) (by decide) ?_
    clear c1
    refine lv_iload hx hb dX5_weekOfAll_50 (lv_at hl 0 rfl) ?_
    exact g_iret hx hb hr hlocks hw h dX5_weekOfAll_52
  rw [if_neg c1] at h
  by_cases c2 : x2 = (2 : Int32)
  · rw [if_pos c2] at h
    refine lv_tableIn (tgt := 53) hx hb dX5_weekOfAll_14 (by rw [c2]; decide) (by rw [c2]; decide) (by rw [c2]; rfl) (by decide) ?_
    clear c2
    refine lv_aload_n hx hb dX5_weekOfAll_53 rfl (lv_at hl 2 rfl) ?_
    refine lv_iload_n hx hb dX5_weekOfAll_54 rfl (lv_at hl 3 rfl) ?_
    refine g_ci hw (g_runV (As := [.int x1]) (rest := []) hx hb hml hown hts mX5_barsIn vX5_barsIn kX5_127 hw 17 0 (ci_17 (by decide)) (bi_17 (by decide) hn) rfl rfl (c_X5_barsIn hn h) rfl rfl ⟨Nat.le_of_ble_eq_true rfl, Nat.le_of_ble_eq_true rfl⟩ rfl hl.1 rfl (Nat.le_of_ble_eq_true rfl) dX5_weekOfAll_55 ⟨Nat.zero_le _, Nat.zero_le _⟩) ?_
    clear h hw; intro v6 M5 H locs hw h
    exact g_iret hx hb hr hlocks hw h dX5_weekOfAll_58
  rw [if_neg c2] at h
  by_cases c3 : x2 = (3 : Int32)
  · rw [if_pos c3] at h
    refine lv_tableIn (tgt := 59) hx hb dX5_weekOfAll_14 (by rw [c3]; decide) (by rw [c3]; decide) (by rw [c3]; rfl) (by decide) ?_
    clear c3
    refine lv_aload_n hx hb dX5_weekOfAll_59 rfl (lv_at hl 2 rfl) ?_
    refine lv_iload_n hx hb dX5_weekOfAll_60 rfl (lv_at hl 3 rfl) ?_
    refine g_ci hw (g_runV (As := [.int x1]) (rest := []) hx hb hml hown hts mX5_lanesIn vX5_lanesIn kX5_130 hw 17 0 (ci_17 (by decide)) (bi_17 (by decide) hn) rfl rfl (c_X5_lanesIn hn h) rfl rfl ⟨Nat.le_of_ble_eq_true rfl, Nat.le_of_ble_eq_true rfl⟩ rfl hl.1 rfl (Nat.le_of_ble_eq_true rfl) dX5_weekOfAll_61 ⟨Nat.zero_le _, Nat.zero_le _⟩) ?_
    clear h hw; intro v8 M7 H locs hw h
    exact g_iret hx hb hr hlocks hw h dX5_weekOfAll_64
  rw [if_neg c3] at h
  by_cases c4 : x2 = (4 : Int32)
  · rw [if_pos c4] at h
    refine lv_tableIn (tgt := 65) hx hb dX5_weekOfAll_14 (by rw [c4]; decide) (by rw [c4]; decide) (by rw [c4]; rfl) (by decide) ?_
    clear c4
    refine lv_aload_n hx hb dX5_weekOfAll_65 rfl (lv_at hl 2 rfl) ?_
    refine lv_iload_n hx hb dX5_weekOfAll_66 rfl (lv_at hl 1 rfl) ?_
    refine lv_iload hx hb dX5_weekOfAll_67 (lv_at hl 0 rfl) ?_
    refine g_ci hw (g_runV (As := [.int v2, .int v4]) (rest := []) hx hb hml hown hts mX5_shortsIn vX5_shortsIn kX5_133 hw 17 0 (ci_17 (by decide)) (bi_17 (by decide) hn) rfl rfl (c_X5_shortsIn hn h) rfl rfl ⟨Nat.le_of_ble_eq_true rfl, Nat.le_of_ble_eq_true rfl⟩ rfl hl.1 rfl (Nat.le_of_ble_eq_true rfl) dX5_weekOfAll_69 ⟨Nat.zero_le _, Nat.zero_le _⟩) ?_
    clear h hw; intro v10 M9 H locs hw h
    exact g_iret hx hb hr hlocks hw h dX5_weekOfAll_72
  rw [if_neg c4] at h
  refine lv_tableOut (tgt := 73) hx hb dX5_weekOfAll_14 (tbl_out (fun k h1 => by rcases (show k = 0 ∨ k = 1 ∨ k = 2 ∨ k = 3 ∨ k = 4 by omega) with rfl | rfl | rfl | rfl | rfl <;> assumption)) (by decide) ?_
  clear c0 c1 c2 c3 c4
  refine lv_aload_n hx hb dX5_weekOfAll_73 rfl (lv_at hl 2 rfl) ?_
  refine lv_iload_n hx hb dX5_weekOfAll_74 rfl (lv_at hl 1 rfl) ?_
  refine lv_iload hx hb dX5_weekOfAll_75 (lv_at hl 0 rfl) ?_
  refine lv_aload_n hx hb dX5_weekOfAll_77 rfl (lv_at hl 2 rfl) ?_
  refine g_getf hx hb hts in_X5 hown hw 17 0 (ci_17 (by decide)) (bi_17 (by decide) hn) rfl rfl 0 (by decide) kX5_7 rfl dX5_weekOfAll_78 ?_
  refine lv_iconst (v := 3) hx hb dX5_weekOfAll_81 (by decide) ?_
  refine g_iald hx hb hw 18 0 (ci_18 (by decide)) (bi_18 (by decide) hn) rfl h dX5_weekOfAll_82 ?_
  clear h; intro v11 h
  refine g_ci hw (g_runV (As := [.int v2, .int v4, .int v11]) (rest := []) hx hb hml hown hts mX5_hidden vX5_hidden kX5_136 hw 17 0 (ci_17 (by decide)) (bi_17 (by decide) hn) rfl rfl (c_X5_hidden hn h) rfl rfl ⟨Nat.le_of_ble_eq_true rfl, Nat.le_of_ble_eq_true rfl⟩ rfl hl.1 rfl (Nat.le_of_ble_eq_true rfl) dX5_weekOfAll_83 ⟨Nat.zero_le _, Nat.zero_le _⟩) ?_
  clear h hw; intro v13 M12 H locs hw h
  exact g_iret hx hb hr hlocks hw h dX5_weekOfAll_86
abbrev rm_X5_week : Room := { frames := 8, cells := 0, slots := 0, locals := 185 }
set_option maxHeartbeats 4000000 in
set_option maxRecDepth 100000 in
theorem c_X5_week {o : Om} {l : Launch} (hn : 122 ≤ o.2.2.2) {M : Mm} {x1 : Int32} {x2 : Int32} {Q : Int32 → Mm → Prop} (h : w_X5_week M x1 x2 Q) : CI o l yX5_week cX5_week 3 rm_X5_week [.ref (o.2.1 17 0), .int x1, .int x2] M Q := by
  refine g_start (by decide +kernel) (Nat.le_of_ble_eq_true rfl) ?_
  intro p e s m args below meth c hx hb hr hlocks hml hown hts hw ls hl
  replace hl : lv_has ls 3 [(0, .ref (o.2.1 17 0)), (1, .int x1), (2, .int x2)] := hl
  unfold w_X5_week at h
  refine lv_iload_n hx hb dX5_week_0 rfl (lv_at hl 1 rfl) ?_
  refine g_if_lt (tgt := 13) hx hb h dX5_week_1 (by decide) ?_ ?_
  · clear h; intro h
    refine lv_iconst (v := (-1)) hx hb dX5_week_13 (by decide) ?_
    exact g_iret hx hb hr hlocks hw h dX5_week_14
  · clear h; intro h
    refine lv_iload_n hx hb dX5_week_4 rfl (lv_at hl 2 rfl) ?_
    refine lv_iconst (v := 0) hx hb dX5_week_5 (by decide) ?_
    refine lv_iconst (v := 5) hx hb dX5_week_6 (by decide) ?_
    refine g_cz hw (g_runS (As := [.int x2, .int (0 : Int32), .int (5 : Int32)]) (rest := []) hx hb hml hown hts mX5_in sX5_in kX5_32 hw (c_X5_in hn h) rfl rfl ⟨Nat.le_of_ble_eq_true rfl, Nat.le_of_ble_eq_true rfl⟩ rfl hl.1 rfl (Nat.le_of_ble_eq_true rfl) dX5_week_7 ⟨Nat.zero_le _, Nat.zero_le _⟩) ?_
    clear h hw; intro v2 M1 H locs hw hz_v2 h
    refine g_if_ne (tgt := 15) hx hb h dX5_week_10 (by decide) ?_ ?_
    · clear h; intro h
      refine lv_aload_n hx hb dX5_week_15 rfl (lv_at hl 0 rfl) ?_
      refine g_cv hw (g_runV (As := []) (rest := []) hx hb hml hown hts mX5_lays vX5_lays kX5_140 hw 17 0 (ci_17 (by decide)) (bi_17 (by decide) hn) rfl rfl (c_X5_lays hn h) rfl rfl ⟨Nat.le_of_ble_eq_true rfl, Nat.le_of_ble_eq_true rfl⟩ rfl hl.1 rfl (Nat.le_of_ble_eq_true rfl) dX5_week_16 ⟨Nat.zero_le _, Nat.zero_le _⟩) ?_
      clear h hw; intro M3 H locs hw h
      refine lv_iload_n hx hb dX5_week_19 rfl (lv_at hl 1 rfl) ?_
      refine lv_aload_n hx hb dX5_week_20 rfl (lv_at hl 0 rfl) ?_
      refine g_ci hw (g_runV (As := []) (rest := [.int x1]) hx hb hml hown hts mX5_weeks vX5_weeks kX5_56 hw 17 0 (ci_17 (by decide)) (bi_17 (by decide) hn) rfl rfl (c_X5_weeks hn h) rfl rfl ⟨Nat.le_of_ble_eq_true rfl, Nat.le_of_ble_eq_true rfl⟩ rfl hl.1 rfl (Nat.le_of_ble_eq_true rfl) dX5_week_21 ⟨Nat.zero_le _, Nat.zero_le _⟩) ?_
      clear h hw; intro v5 M4 H locs hw h
      refine g_icmp_ge (tgt := 36) hx hb h dX5_week_24 (by decide) ?_ ?_
      · clear h; intro h
        refine lv_bipush (v := (-9)) hx hb dX5_week_36 (by decide) ?_
        exact g_iret hx hb hr hlocks hw h dX5_week_38
      · clear h; intro h
        refine lv_aload_n hx hb dX5_week_27 rfl (lv_at hl 0 rfl) ?_
        refine lv_iload_n hx hb dX5_week_28 rfl (lv_at hl 1 rfl) ?_
        refine lv_iload_n hx hb dX5_week_29 rfl (lv_at hl 2 rfl) ?_
        refine g_ci hw (g_runV (As := [.int x1, .int x2]) (rest := []) hx hb hml hown hts mX5_weekOfAll vX5_weekOfAll kX5_143 hw 17 0 (ci_17 (by decide)) (bi_17 (by decide) hn) rfl rfl (c_X5_weekOfAll hn h) rfl rfl ⟨Nat.le_of_ble_eq_true rfl, Nat.le_of_ble_eq_true rfl⟩ rfl hl.1 rfl (Nat.le_of_ble_eq_true rfl) dX5_week_30 ⟨Nat.zero_le _, Nat.zero_le _⟩) ?_
        clear h hw; intro v7 M6 H locs hw h
        refine lv_goto (tgt := 38) hx hb dX5_week_33 (by decide) ?_
        exact g_iret hx hb hr hlocks hw h dX5_week_38
    · clear h; intro h
      refine lv_iconst (v := (-1)) hx hb dX5_week_13 (by decide) ?_
      exact g_iret hx hb hr hlocks hw h dX5_week_14
abbrev rm_X5_type : Room := { frames := 1, cells := 0, slots := 0, locals := 22 }
set_option maxHeartbeats 4000000 in
set_option maxRecDepth 100000 in
theorem c_X5_type {o : Om} {l : Launch} (hn : 122 ≤ o.2.2.2) {M : Mm} {x1 : Int32} {Q : Int32 → Mm → Prop} (h : w_X5_type M x1 Q) : CI o l yX5_type cX5_type 2 rm_X5_type [.ref (o.2.1 17 0), .int x1] M Q := by
  refine g_start (by decide +kernel) (Nat.le_of_ble_eq_true rfl) ?_
  intro p e s m args below meth c hx hb hr hlocks hml hown hts hw ls hl
  replace hl : lv_has ls 2 [(0, .ref (o.2.1 17 0)), (1, .int x1)] := hl
  unfold w_X5_type at h
  refine lv_iload_n hx hb dX5_type_0 rfl (lv_at hl 1 rfl) ?_
  refine lv_bipush (v := 33) hx hb dX5_type_1 (by decide) ?_
  refine lv_bipush (v := 126) hx hb dX5_type_3 (by decide) ?_
  refine g_cz hw (g_runS (As := [.int x1, .int (33 : Int32), .int (126 : Int32)]) (rest := []) hx hb hml hown hts mX5_in sX5_in kX5_32 hw (c_X5_in hn h) rfl rfl ⟨Nat.le_of_ble_eq_true rfl, Nat.le_of_ble_eq_true rfl⟩ rfl hl.1 rfl (Nat.le_of_ble_eq_true rfl) dX5_type_5 ⟨Nat.zero_le _, Nat.zero_le _⟩) ?_
  clear h hw; intro v2 M1 H locs hw hz_v2 h
  refine g_if_ne (tgt := 13) hx hb h dX5_type_8 (by decide) ?_ ?_
  · clear h; intro h
    refine lv_aload_n hx hb dX5_type_13 rfl (lv_at hl 0 rfl) ?_
    refine g_getf hx hb hts in_X5 hown hw 17 0 (ci_17 (by decide)) (bi_17 (by decide) hn) rfl rfl 3 (by decide) kX5_146 rfl dX5_type_14 ?_
    refine lv_bipush (v := 100) hx hb dX5_type_17 (by decide) ?_
    refine g_icmp_ne (tgt := 25) hx hb h dX5_type_19 (by decide) ?_ ?_
    · clear h; intro h
      refine lv_aload_n hx hb dX5_type_25 rfl (lv_at hl 0 rfl) ?_
      refine g_getf hx hb hts in_X5 hown hw 17 0 (ci_17 (by decide)) (bi_17 (by decide) hn) rfl rfl 2 (by decide) kX5_13 rfl dX5_type_26 ?_
      refine lv_aload_n hx hb dX5_type_29 rfl (lv_at hl 0 rfl) ?_
      refine g_getf hx hb hts in_X5 hown hw 17 0 (ci_17 (by decide)) (bi_17 (by decide) hn) rfl rfl 3 (by decide) kX5_146 rfl dX5_type_30 ?_
      refine lv_iload_n hx hb dX5_type_33 rfl (lv_at hl 1 rfl) ?_
      refine g_iast hx hb hw 19 0 (ci_19 (by decide)) (bi_19 (by decide) hn) (fun _ => rfl) h dX5_type_34 ?_
      clear h hw; intro M3 H locs hw h
      refine lv_aload_n hx hb dX5_type_35 rfl (lv_at hl 0 rfl) ?_
      refine lv_dup hx hb dX5_type_36 rfl ?_
      refine g_getf hx hb hts in_X5 hown hw 17 0 (ci_17 (by decide)) (bi_17 (by decide) hn) rfl rfl 3 (by decide) kX5_146 rfl dX5_type_37 ?_
      refine lv_iconst (v := 1) hx hb dX5_type_40 (by decide) ?_
      refine lv_iadd hx hb dX5_type_41 ?_
      refine g_putf hx hb hts in_X5 tyX5 tyX5_ok nmX5 hown hw 17 0 (ci_17 (by decide)) (bi_17 (by decide) hn) rfl 3 (by decide) rfl rfl kX5_146 (by decide +kernel) (by decide +kernel) (by simp) h dX5_type_42 ?_
      clear h hw; intro M4 H locs hw h
      refine lv_aload_n hx hb dX5_type_45 rfl (lv_at hl 0 rfl) ?_
      refine g_getf hx hb hts in_X5 hown hw 17 0 (ci_17 (by decide)) (bi_17 (by decide) hn) rfl rfl 3 (by decide) kX5_146 rfl dX5_type_46 ?_
      exact g_iret hx hb hr hlocks hw h dX5_type_49
    · clear h; intro h
      refine lv_bipush (v := (-3)) hx hb dX5_type_22 (by decide) ?_
      exact g_iret hx hb hr hlocks hw h dX5_type_24
  · clear h; intro h
    refine lv_iconst (v := (-1)) hx hb dX5_type_11 (by decide) ?_
    exact g_iret hx hb hr hlocks hw h dX5_type_12
abbrev rm_X5_clear : Room := { frames := 0, cells := 0, slots := 0, locals := 0 }
set_option maxHeartbeats 4000000 in
set_option maxRecDepth 100000 in
theorem c_X5_clear {o : Om} {l : Launch} (hn : 122 ≤ o.2.2.2) {M : Mm} {Q : Int32 → Mm → Prop} (h : w_X5_clear M Q) : CI o l yX5_clear cX5_clear 2 rm_X5_clear [.ref (o.2.1 17 0)] M Q := by
  refine g_start (by decide +kernel) (Nat.le_of_ble_eq_true rfl) ?_
  intro p e s m args below meth c hx hb hr hlocks hml hown hts hw ls hl
  replace hl : lv_has ls 2 [(0, .ref (o.2.1 17 0))] := hl
  unfold w_X5_clear at h
  refine lv_aload_n hx hb dX5_clear_0 rfl (lv_at hl 0 rfl) ?_
  refine g_getf hx hb hts in_X5 hown hw 17 0 (ci_17 (by decide)) (bi_17 (by decide) hn) rfl rfl 3 (by decide) kX5_146 rfl dX5_clear_1 ?_
  refine g_topi h ?_
  clear h; intro v1 h
  refine lv_istore_n (lv' := [(1, .int v1), (0, .ref (o.2.1 17 0))]) hx hb dX5_clear_4 rfl hl (by decide) rfl ?_
  clear hl; clear ls; intro ls hl
  refine lv_aload_n hx hb dX5_clear_5 rfl (lv_at hl 1 rfl) ?_
  refine lv_iconst (v := 0) hx hb dX5_clear_6 (by decide) ?_
  refine g_putf hx hb hts in_X5 tyX5 tyX5_ok nmX5 hown hw 17 0 (ci_17 (by decide)) (bi_17 (by decide) hn) rfl 3 (by decide) rfl rfl kX5_146 (by decide +kernel) (by decide +kernel) (by simp) h dX5_clear_7 ?_
  clear h hw; intro M2 H locs hw h
  refine lv_iload_n hx hb dX5_clear_10 rfl (lv_at hl 0 rfl) ?_
  exact g_iret hx hb hr hlocks hw h dX5_clear_11
abbrev rm_X5_here : Room := { frames := 0, cells := 0, slots := 0, locals := 0 }
set_option maxHeartbeats 4000000 in
set_option maxRecDepth 100000 in
theorem c_X5_here {o : Om} {l : Launch} (hn : 122 ≤ o.2.2.2) {M : Mm} {Q : Int32 → Mm → Prop} (h : w_X5_here M Q) : CI o l yX5_here cX5_here 1 rm_X5_here [.ref (o.2.1 17 0)] M Q := by
  refine g_start (by decide +kernel) (Nat.le_of_ble_eq_true rfl) ?_
  intro p e s m args below meth c hx hb hr hlocks hml hown hts hw ls hl
  replace hl : lv_has ls 1 [(0, .ref (o.2.1 17 0))] := hl
  unfold w_X5_here at h
  refine lv_aload_n hx hb dX5_here_0 rfl (lv_at hl 0 rfl) ?_
  refine g_getf hx hb hts in_X5 hown hw 17 0 (ci_17 (by decide)) (bi_17 (by decide) hn) rfl rfl 7 (by decide) kX5_149 rfl dX5_here_1 ?_
  refine lv_aload_n hx hb dX5_here_4 rfl (lv_at hl 0 rfl) ?_
  refine g_getf hx hb hts in_X5 hown hw 17 0 (ci_17 (by decide)) (bi_17 (by decide) hn) rfl rfl 3 (by decide) kX5_146 rfl dX5_here_5 ?_
  refine g_icmp_ge (tgt := 23) hx hb h dX5_here_8 (by decide) ?_ ?_
  · clear h; intro h
    refine lv_bipush (v := (-9)) hx hb dX5_here_23 (by decide) ?_
    exact g_iret hx hb hr hlocks hw h dX5_here_25
  · clear h; intro h
    refine lv_aload_n hx hb dX5_here_11 rfl (lv_at hl 0 rfl) ?_
    refine g_getf hx hb hts in_X5 hown hw 17 0 (ci_17 (by decide)) (bi_17 (by decide) hn) rfl rfl 2 (by decide) kX5_13 rfl dX5_here_12 ?_
    refine lv_aload_n hx hb dX5_here_15 rfl (lv_at hl 0 rfl) ?_
    refine g_getf hx hb hts in_X5 hown hw 17 0 (ci_17 (by decide)) (bi_17 (by decide) hn) rfl rfl 7 (by decide) kX5_149 rfl dX5_here_16 ?_
    refine g_iald hx hb hw 19 0 (ci_19 (by decide)) (bi_19 (by decide) hn) rfl h dX5_here_19 ?_
    clear h; intro v1 h
    refine lv_goto (tgt := 25) hx hb dX5_here_20 (by decide) ?_
    exact g_iret hx hb hr hlocks hw h dX5_here_25
abbrev rm_X5_takes : Room := { frames := 1, cells := 0, slots := 0, locals := 20 }
set_option maxHeartbeats 4000000 in
set_option maxRecDepth 100000 in
theorem c_X5_takes {o : Om} {l : Launch} (hn : 122 ≤ o.2.2.2) {M : Mm} {x1 : Int32} {Q : Int32 → Mm → Prop} (h : w_X5_takes M x1 Q) : CZ o l yX5_takes cX5_takes 3 rm_X5_takes [.ref (o.2.1 17 0), .int x1] M Q := by
  refine g_start (by decide +kernel) (Nat.le_of_ble_eq_true rfl) ?_
  intro p e s m args below meth c hx hb hr hlocks hml hown hts hw ls hl
  replace hl : lv_has ls 3 [(0, .ref (o.2.1 17 0)), (1, .int x1)] := hl
  unfold w_X5_takes at h
  refine lv_aload_n hx hb dX5_takes_0 rfl (lv_at hl 0 rfl) ?_
  refine g_ci hw (g_runV (As := []) (rest := []) hx hb hml hown hts mX5_here vX5_here kX5_152 hw 17 0 (ci_17 (by decide)) (bi_17 (by decide) hn) rfl rfl (c_X5_here hn h) rfl rfl ⟨Nat.le_of_ble_eq_true rfl, Nat.le_of_ble_eq_true rfl⟩ rfl hl.1 rfl (Nat.le_of_ble_eq_true rfl) dX5_takes_1 ⟨Nat.zero_le _, Nat.zero_le _⟩) ?_
  clear h hw; intro v2 M1 H locs hw h
  refine lv_iload_n hx hb dX5_takes_4 rfl (lv_at hl 1 rfl) ?_
  refine letJ_W (fun (x : Int32) => ∀ (H : Heap) (locs : List Loc) (ls : Array Slot), WO o (WA o) s s.heap H locs M1 → lv_has ls 3 [(0, .ref (o.2.1 17 0))] → W p l e rm_X5_takes s m args below meth c H locs 0 0 (MQ below (QZ o Q) args s 0 0 (WA o)) (F0 m 13 ls [.int x])) h ?_ ?_
  · clear h hw hl; clear ls; intro x h H locs ls hw hl
    obtain ⟨v3, rfl⟩ : ∃ z, z = x := ⟨_, rfl⟩
    replace hl : lv_has ls 3 [(0, .ref (o.2.1 17 0))] := hl
    refine lv_istore_n (lv' := [(2, .int v3), (0, .ref (o.2.1 17 0))]) hx hb dX5_takes_13 rfl hl (by decide) rfl ?_
    clear hl; clear ls; intro ls hl
    refine lv_aload_n hx hb dX5_takes_14 rfl (lv_at hl 1 rfl) ?_
    refine lv_dup hx hb dX5_takes_15 rfl ?_
    refine g_getf hx hb hts in_X5 hown hw 17 0 (ci_17 (by decide)) (bi_17 (by decide) hn) rfl rfl 7 (by decide) kX5_149 rfl dX5_takes_16 ?_
    refine lv_iload_n hx hb dX5_takes_19 rfl (lv_at hl 0 rfl) ?_
    refine letJ_W (fun (x : Int32) => ∀ (H : Heap) (locs : List Loc) (ls : Array Slot), WO o (WA o) s s.heap H locs M1 → lv_has ls 3 [(2, .int v3)] → W p l e rm_X5_takes s m args below meth c H locs 0 0 (MQ below (QZ o Q) args s 0 0 (WA o)) (F0 m 28 ls [.int x, .int (M1 17 0 7), .ref (o.2.1 17 0)])) h ?_ ?_
    · clear h hw hl; clear ls; intro x h H locs ls hw hl
      obtain ⟨v5, rfl⟩ : ∃ z, z = x := ⟨_, rfl⟩
      replace hl : lv_has ls 3 [(2, .int v3)] := hl
      refine lv_iadd hx hb dX5_takes_28 ?_
      refine g_putf hx hb hts in_X5 tyX5 tyX5_ok nmX5 hown hw 17 0 (ci_17 (by decide)) (bi_17 (by decide) hn) rfl 7 (by decide) rfl rfl kX5_149 (by decide +kernel) (by decide +kernel) (by simp) h dX5_takes_29 ?_
      clear h hw; intro M7 H locs hw h
      refine lv_iload_n hx hb dX5_takes_32 rfl (lv_at hl 0 rfl) ?_
      exact g_zret hx hb hr hlocks hw h.1 h.2 dX5_takes_33
    clear h; intro J6 hJ6 h
    refine g_if_eq (tgt := 27) hx hb h dX5_takes_20 (by decide) ?_ ?_
    · clear h; intro h
      refine lv_iconst (v := 0) hx hb dX5_takes_27 (by decide) ?_
      exact hJ6 (0 : Int32) h _ _ _ hw (lv_sub hl [0] rfl)
    · clear h; intro h
      refine lv_iconst (v := 1) hx hb dX5_takes_23 (by decide) ?_
      refine lv_goto (tgt := 28) hx hb dX5_takes_24 (by decide) ?_
      exact hJ6 (1 : Int32) h _ _ _ hw (lv_sub hl [0] rfl)
  clear h; intro J4 hJ4 h
  refine g_icmp_ne (tgt := 12) hx hb h dX5_takes_5 (by decide) ?_ ?_
  · clear h; intro h
    refine lv_iconst (v := 0) hx hb dX5_takes_12 (by decide) ?_
    exact hJ4 (0 : Int32) h _ _ _ hw (lv_sub hl [0] rfl)
  · clear h; intro h
    refine lv_iconst (v := 1) hx hb dX5_takes_8 (by decide) ?_
    refine lv_goto (tgt := 13) hx hb dX5_takes_9 (by decide) ?_
    exact hJ4 (1 : Int32) h _ _ _ hw (lv_sub hl [0] rfl)
abbrev rm_X5_isFigure : Room := { frames := 1, cells := 0, slots := 0, locals := 22 }
set_option maxHeartbeats 4000000 in
set_option maxRecDepth 100000 in
theorem c_X5_isFigure {o : Om} {l : Launch} (hn : 122 ≤ o.2.2.2) {M : Mm} {Q : Int32 → Mm → Prop} (h : w_X5_isFigure M Q) : CZ o l yX5_isFigure cX5_isFigure 1 rm_X5_isFigure [.ref (o.2.1 17 0)] M Q := by
  refine g_start (by decide +kernel) (Nat.le_of_ble_eq_true rfl) ?_
  intro p e s m args below meth c hx hb hr hlocks hml hown hts hw ls hl
  replace hl : lv_has ls 1 [(0, .ref (o.2.1 17 0))] := hl
  unfold w_X5_isFigure at h
  refine lv_aload_n hx hb dX5_isFigure_0 rfl (lv_at hl 0 rfl) ?_
  refine g_ci hw (g_runV (As := []) (rest := []) hx hb hml hown hts mX5_here vX5_here kX5_152 hw 17 0 (ci_17 (by decide)) (bi_17 (by decide) hn) rfl rfl (c_X5_here hn h) rfl rfl ⟨Nat.le_of_ble_eq_true rfl, Nat.le_of_ble_eq_true rfl⟩ rfl hl.1 rfl (Nat.le_of_ble_eq_true rfl) dX5_isFigure_1 ⟨Nat.zero_le _, Nat.zero_le _⟩) ?_
  clear h hw; intro v2 M1 H locs hw h
  refine lv_bipush (v := 48) hx hb dX5_isFigure_4 (by decide) ?_
  refine lv_bipush (v := 57) hx hb dX5_isFigure_6 (by decide) ?_
  refine g_cz hw (g_runS (As := [.int v2, .int (48 : Int32), .int (57 : Int32)]) (rest := []) hx hb hml hown hts mX5_in sX5_in kX5_32 hw (c_X5_in hn h) rfl rfl ⟨Nat.le_of_ble_eq_true rfl, Nat.le_of_ble_eq_true rfl⟩ rfl hl.1 rfl (Nat.le_of_ble_eq_true rfl) dX5_isFigure_8 ⟨Nat.zero_le _, Nat.zero_le _⟩) ?_
  clear h hw; intro v4 M3 H locs hw hz_v4 h
  exact g_zret hx hb hr hlocks hw hz_v4 h dX5_isFigure_11
abbrev rm_X5_readsNumber : Room := { frames := 2, cells := 0, slots := 0, locals := 42 }
set_option maxHeartbeats 4000000 in
set_option maxRecDepth 100000 in
theorem c_X5_readsNumber {o : Om} {l : Launch} (hn : 122 ≤ o.2.2.2) {M : Mm} {x1 : Int32} {x2 : Int32} {x3 : Int32} {Q : Int32 → Mm → Prop} (h : w_X5_readsNumber M x1 x2 x3 Q) : CZ o l yX5_readsNumber cX5_readsNumber 6 rm_X5_readsNumber [.ref (o.2.1 17 0), .int x1, .int x2, .int x3] M Q := by
  refine g_start (by decide +kernel) (Nat.le_of_ble_eq_true rfl) ?_
  intro p e s m args below meth c hx hb hr hlocks hml hown hts hw ls hl
  replace hl : lv_has ls 6 [(0, .ref (o.2.1 17 0)), (1, .int x1), (2, .int x2), (3, .int x3)] := hl
  unfold w_X5_readsNumber at h
  refine lv_iconst (v := 0) hx hb dX5_readsNumber_0 (by decide) ?_
  refine lv_istore (lv' := [(4, .int (0 : Int32)), (0, .ref (o.2.1 17 0)), (1, .int x1), (2, .int x2), (3, .int x3)]) hx hb dX5_readsNumber_1 hl (by decide) rfl ?_
  clear hl; clear ls; intro ls hl
  refine lv_aload_n hx hb dX5_readsNumber_3 rfl (lv_at hl 1 rfl) ?_
  refine lv_iconst (v := 0) hx hb dX5_readsNumber_4 (by decide) ?_
  refine g_putf hx hb hts in_X5 tyX5 tyX5_ok nmX5 hown hw 17 0 (ci_17 (by decide)) (bi_17 (by decide) hn) rfl 8 (by decide) rfl rfl kX5_155 (by decide +kernel) (by decide +kernel) (by simp) h dX5_readsNumber_5 ?_
  clear h hw; intro M1 H locs hw h
  obtain ⟨n, h⟩ := h
  refine letK_W (body := fun K => w_X5_readsNumber_L8 x1 x2 x3 K) (fun (x : Int32 × Mm) => ∀ (H : Heap) (locs : List Loc) (ls : Array Slot), WO o (WA o) s s.heap H locs x.2 → lv_has ls 6 [(0, .ref (o.2.1 17 0)), (2, .int x2), (3, .int x3), (4, .int x.1)] → W p l e rm_X5_readsNumber s m args below meth c H locs 0 0 (MQ below (QZ o Q) args s 0 0 (WA o)) (F0 m 56 ls [])) h ?_ ?_
  · clear h hw hl; clear ls; intro x h H locs ls hw hl
    obtain ⟨v13, M14⟩ := x
    replace hl : lv_has ls 6 [(0, .ref (o.2.1 17 0)), (2, .int x2), (3, .int x3), (4, .int v13)] := hl
    dsimp only at h hw
    refine lv_iload hx hb dX5_readsNumber_56 (lv_at hl 3 rfl) ?_
    refine g_if_eq (tgt := 68) hx hb h dX5_readsNumber_58 (by decide) ?_ ?_
    · clear h; intro h
      refine lv_iconst (v := 0) hx hb dX5_readsNumber_68 (by decide) ?_
      exact g_zret hx hb hr hlocks hw (Or.inl rfl) h dX5_readsNumber_69
    · clear h; intro h
      refine lv_aload_n hx hb dX5_readsNumber_61 rfl (lv_at hl 0 rfl) ?_
      refine g_cz hw (g_runV (As := []) (rest := []) hx hb hml hown hts mX5_isFigure vX5_isFigure kX5_158 hw 17 0 (ci_17 (by decide)) (bi_17 (by decide) hn) rfl rfl (c_X5_isFigure hn h) rfl rfl ⟨Nat.le_of_ble_eq_true rfl, Nat.le_of_ble_eq_true rfl⟩ rfl hl.1 rfl (Nat.le_of_ble_eq_true rfl) dX5_readsNumber_62 ⟨Nat.zero_le _, Nat.zero_le _⟩) ?_
      clear h hw; intro v16 M15 H locs hw hz_v16 h
      refine g_if_eq (tgt := 70) hx hb h dX5_readsNumber_65 (by decide) ?_ ?_
      · clear h; intro h
        refine lv_aload_n hx hb dX5_readsNumber_70 rfl (lv_at hl 0 rfl) ?_
        refine g_getf hx hb hts in_X5 hown hw 17 0 (ci_17 (by decide)) (bi_17 (by decide) hn) rfl rfl 8 (by decide) kX5_155 rfl dX5_readsNumber_71 ?_
        refine lv_iload_n hx hb dX5_readsNumber_74 rfl (lv_at hl 1 rfl) ?_
        refine lv_iload_n hx hb dX5_readsNumber_75 rfl (lv_at hl 2 rfl) ?_
        refine g_cz hw (g_runS (As := [.int (M15 17 0 8), .int x2, .int x3]) (rest := []) hx hb hml hown hts mX5_in sX5_in kX5_32 hw (c_X5_in hn h) rfl rfl ⟨Nat.le_of_ble_eq_true rfl, Nat.le_of_ble_eq_true rfl⟩ rfl hl.1 rfl (Nat.le_of_ble_eq_true rfl) dX5_readsNumber_76 ⟨Nat.zero_le _, Nat.zero_le _⟩) ?_
        clear h hw; intro v18 M17 H locs hw hz_v18 h
        refine lv_istore (lv' := [(5, .int v18), (0, .ref (o.2.1 17 0)), (2, .int x2), (3, .int x3), (4, .int v13)]) hx hb dX5_readsNumber_79 hl (by decide) rfl ?_
        clear hl; clear ls; intro ls hl
        refine lv_aload_n hx hb dX5_readsNumber_81 rfl (lv_at hl 1 rfl) ?_
        refine lv_dup hx hb dX5_readsNumber_82 rfl ?_
        refine g_getf hx hb hts in_X5 hown hw 17 0 (ci_17 (by decide)) (bi_17 (by decide) hn) rfl rfl 7 (by decide) kX5_149 rfl dX5_readsNumber_83 ?_
        refine lv_iload hx hb dX5_readsNumber_86 (lv_at hl 0 rfl) ?_
        refine letJ_W (fun (x : Int32) => ∀ (H : Heap) (locs : List Loc) (ls : Array Slot), WO o (WA o) s s.heap H locs M17 → lv_has ls 6 [(5, .int v18)] → W p l e rm_X5_readsNumber s m args below meth c H locs 0 0 (MQ below (QZ o Q) args s 0 0 (WA o)) (F0 m 96 ls [.int x, .int (M17 17 0 7), .ref (o.2.1 17 0)])) h ?_ ?_
        · clear h hw hl; clear ls; intro x h H locs ls hw hl
          obtain ⟨v19, rfl⟩ : ∃ z, z = x := ⟨_, rfl⟩
          replace hl : lv_has ls 6 [(5, .int v18)] := hl
          refine lv_isub hx hb dX5_readsNumber_96 ?_
          refine g_putf hx hb hts in_X5 tyX5 tyX5_ok nmX5 hown hw 17 0 (ci_17 (by decide)) (bi_17 (by decide) hn) rfl 7 (by decide) rfl rfl kX5_149 (by decide +kernel) (by decide +kernel) (by simp) h dX5_readsNumber_97 ?_
          clear h hw; intro M21 H locs hw h
          refine lv_iload hx hb dX5_readsNumber_100 (lv_at hl 0 rfl) ?_
          exact g_zret hx hb hr hlocks hw hz_v18 h dX5_readsNumber_102
        clear h; intro J20 hJ20 h
        refine g_if_eq (tgt := 95) hx hb h dX5_readsNumber_88 (by decide) ?_ ?_
        · clear h; intro h
          refine lv_iconst (v := 1) hx hb dX5_readsNumber_95 (by decide) ?_
          exact hJ20 (1 : Int32) h _ _ _ hw (lv_sub hl [0] rfl)
        · clear h; intro h
          refine lv_iconst (v := 0) hx hb dX5_readsNumber_91 (by decide) ?_
          refine lv_goto (tgt := 96) hx hb dX5_readsNumber_92 (by decide) ?_
          exact hJ20 (0 : Int32) h _ _ _ hw (lv_sub hl [0] rfl)
      · clear h; intro h
        refine lv_iconst (v := 0) hx hb dX5_readsNumber_68 (by decide) ?_
        exact g_zret hx hb hr hlocks hw (Or.inl rfl) h dX5_readsNumber_69
  clear h; intro K4 hK4 h
  refine loop_W (body := w_X5_readsNumber_L8 x1 x2 x3 K4) (fun (x : Int32 × Mm) => ∀ (H : Heap) (locs : List Loc) (ls : Array Slot), WO o (WA o) s s.heap H locs x.2 → lv_has ls 6 [(0, .ref (o.2.1 17 0)), (1, .int x1), (2, .int x2), (3, .int x3), (4, .int x.1)] → W p l e rm_X5_readsNumber s m args below meth c H locs 0 0 (MQ below (QZ o Q) args s 0 0 (WA o)) (F0 m 8 ls [])) ?_ n _ h _ _ _ hw (lv_sub hl [1, 2, 3, 4, 0] rfl)
  clear h hw hl; clear ls; intro R5 x hR5 h H locs ls hw hl
  obtain ⟨v2, M3⟩ := x
  replace hl : lv_has ls 6 [(0, .ref (o.2.1 17 0)), (1, .int x1), (2, .int x2), (3, .int x3), (4, .int v2)] := hl
  dsimp only at hw
  unfold w_X5_readsNumber_L8 at h
  dsimp only at h
  refine lv_aload_n hx hb dX5_readsNumber_8 rfl (lv_at hl 0 rfl) ?_
  refine g_cz hw (g_runV (As := []) (rest := []) hx hb hml hown hts mX5_isFigure vX5_isFigure kX5_158 hw 17 0 (ci_17 (by decide)) (bi_17 (by decide) hn) rfl rfl (c_X5_isFigure hn h) rfl rfl ⟨Nat.le_of_ble_eq_true rfl, Nat.le_of_ble_eq_true rfl⟩ rfl hl.1 rfl (Nat.le_of_ble_eq_true rfl) dX5_readsNumber_9 ⟨Nat.zero_le _, Nat.zero_le _⟩) ?_
  clear h hw; intro v7 M6 H locs hw hz_v7 h
  refine g_if_eq (tgt := 56) hx hb h dX5_readsNumber_12 (by decide) ?_ ?_
  · clear h; intro h
    exact hK4 (v2, M6) h _ _ _ hw (lv_sub hl [0, 2, 3, 4] rfl)
  · clear h; intro h
    refine lv_iload hx hb dX5_readsNumber_15 (lv_at hl 4 rfl) ?_
    refine lv_iload_n hx hb dX5_readsNumber_17 rfl (lv_at hl 1 rfl) ?_
    refine g_icmp_ge (tgt := 56) hx hb h dX5_readsNumber_18 (by decide) ?_ ?_
    · clear h; intro h
      exact hK4 (v2, M6) h _ _ _ hw (lv_sub hl [0, 2, 3, 4] rfl)
    · clear h; intro h
      refine lv_aload_n hx hb dX5_readsNumber_21 rfl (lv_at hl 0 rfl) ?_
      refine lv_bipush (v := 10) hx hb dX5_readsNumber_22 (by decide) ?_
      refine lv_aload_n hx hb dX5_readsNumber_24 rfl (lv_at hl 0 rfl) ?_
      refine g_getf hx hb hts in_X5 hown hw 17 0 (ci_17 (by decide)) (bi_17 (by decide) hn) rfl rfl 8 (by decide) kX5_155 rfl dX5_readsNumber_25 ?_
      refine lv_imul hx hb dX5_readsNumber_28 ?_
      refine lv_aload_n hx hb dX5_readsNumber_29 rfl (lv_at hl 0 rfl) ?_
      refine g_ci hw (g_runV (As := []) (rest := [.int ((10 : Int32) * (M6 17 0 8)), .ref (o.2.1 17 0)]) hx hb hml hown hts mX5_here vX5_here kX5_152 hw 17 0 (ci_17 (by decide)) (bi_17 (by decide) hn) rfl rfl (c_X5_here hn h) rfl rfl ⟨Nat.le_of_ble_eq_true rfl, Nat.le_of_ble_eq_true rfl⟩ rfl hl.1 rfl (Nat.le_of_ble_eq_true rfl) dX5_readsNumber_30 ⟨Nat.zero_le _, Nat.zero_le _⟩) ?_
      clear h hw; intro v9 M8 H locs hw h
      refine lv_iadd hx hb dX5_readsNumber_33 ?_
      refine lv_bipush (v := 48) hx hb dX5_readsNumber_34 (by decide) ?_
      refine lv_isub hx hb dX5_readsNumber_36 ?_
      refine g_putf hx hb hts in_X5 tyX5 tyX5_ok nmX5 hown hw 17 0 (ci_17 (by decide)) (bi_17 (by decide) hn) rfl 8 (by decide) rfl rfl kX5_155 (by decide +kernel) (by decide +kernel) (by simp) h dX5_readsNumber_37 ?_
      clear h hw; intro M10 H locs hw h
      refine lv_aload_n hx hb dX5_readsNumber_40 rfl (lv_at hl 0 rfl) ?_
      refine lv_dup hx hb dX5_readsNumber_41 rfl ?_
      refine g_getf hx hb hts in_X5 hown hw 17 0 (ci_17 (by decide)) (bi_17 (by decide) hn) rfl rfl 7 (by decide) kX5_149 rfl dX5_readsNumber_42 ?_
      refine lv_iconst (v := 1) hx hb dX5_readsNumber_45 (by decide) ?_
      refine lv_iadd hx hb dX5_readsNumber_46 ?_
      refine g_putf hx hb hts in_X5 tyX5 tyX5_ok nmX5 hown hw 17 0 (ci_17 (by decide)) (bi_17 (by decide) hn) rfl 7 (by decide) rfl rfl kX5_149 (by decide +kernel) (by decide +kernel) (by simp) h dX5_readsNumber_47 ?_
      clear h hw; intro M11 H locs hw h
      refine g_iinc (k := 4) (v := (v2 + (1 : Int32))) (lv' := fun v12 => [(4, .int v12), (0, .ref (o.2.1 17 0)), (1, .int x1), (2, .int x2), (3, .int x3)]) hx hb dX5_readsNumber_50 hl rfl rfl (by decide) (fun _ => rfl) h ?_
      clear h hl; clear ls; intro v12 ls h hl
      refine lv_goto (tgt := 8) hx hb dX5_readsNumber_53 (by decide) ?_
      exact hR5 (v12, M11) h _ _ _ hw (lv_sub hl [1, 2, 3, 4, 0] rfl)
abbrev rm_X5_readsTwo : Room := { frames := 2, cells := 0, slots := 0, locals := 42 }
set_option maxHeartbeats 4000000 in
set_option maxRecDepth 100000 in
theorem c_X5_readsTwo {o : Om} {l : Launch} (hn : 122 ≤ o.2.2.2) {M : Mm} {x1 : Int32} {Q : Int32 → Mm → Prop} (h : w_X5_readsTwo M x1 Q) : CZ o l yX5_readsTwo cX5_readsTwo 3 rm_X5_readsTwo [.ref (o.2.1 17 0), .int x1] M Q := by
  refine g_start (by decide +kernel) (Nat.le_of_ble_eq_true rfl) ?_
  intro p e s m args below meth c hx hb hr hlocks hml hown hts hw ls hl
  replace hl : lv_has ls 3 [(0, .ref (o.2.1 17 0)), (1, .int x1)] := hl
  unfold w_X5_readsTwo at h
  refine lv_aload_n hx hb dX5_readsTwo_0 rfl (lv_at hl 0 rfl) ?_
  refine lv_iconst (v := 0) hx hb dX5_readsTwo_1 (by decide) ?_
  refine g_putf hx hb hts in_X5 tyX5 tyX5_ok nmX5 hown hw 17 0 (ci_17 (by decide)) (bi_17 (by decide) hn) rfl 8 (by decide) rfl rfl kX5_155 (by decide +kernel) (by decide +kernel) (by simp) h dX5_readsTwo_2 ?_
  clear h hw; intro M1 H locs hw h
  refine lv_iconst (v := 0) hx hb dX5_readsTwo_5 (by decide) ?_
  refine lv_istore_n (lv' := [(2, .int (0 : Int32)), (0, .ref (o.2.1 17 0)), (1, .int x1)]) hx hb dX5_readsTwo_6 rfl hl (by decide) rfl ?_
  clear hl; clear ls; intro ls hl
  obtain ⟨n, h⟩ := h
  refine letK_W (body := fun K => w_X5_readsTwo_L7 x1 Q K) (fun (x : Int32 × Mm) => ∀ (H : Heap) (locs : List Loc) (ls : Array Slot), WO o (WA o) s s.heap H locs x.2 → lv_has ls 3 [(0, .ref (o.2.1 17 0)), (1, .int x1)] → W p l e rm_X5_readsTwo s m args below meth c H locs 0 0 (MQ below (QZ o Q) args s 0 0 (WA o)) (F0 m 56 ls [])) h ?_ ?_
  · clear h hw hl; clear ls; intro x h H locs ls hw hl
    obtain ⟨v13, M14⟩ := x
    replace hl : lv_has ls 3 [(0, .ref (o.2.1 17 0)), (1, .int x1)] := hl
    dsimp only at h hw
    refine lv_aload_n hx hb dX5_readsTwo_56 rfl (lv_at hl 0 rfl) ?_
    refine lv_dup hx hb dX5_readsTwo_57 rfl ?_
    refine g_getf hx hb hts in_X5 hown hw 17 0 (ci_17 (by decide)) (bi_17 (by decide) hn) rfl rfl 7 (by decide) kX5_149 rfl dX5_readsTwo_58 ?_
    refine lv_aload_n hx hb dX5_readsTwo_61 rfl (lv_at hl 0 rfl) ?_
    refine g_getf hx hb hts in_X5 hown hw 17 0 (ci_17 (by decide)) (bi_17 (by decide) hn) rfl rfl 8 (by decide) kX5_155 rfl dX5_readsTwo_62 ?_
    refine lv_iload_n hx hb dX5_readsTwo_65 rfl (lv_at hl 1 rfl) ?_
    refine letJ_W (fun (x : Int32) => ∀ (H : Heap) (locs : List Loc) (ls : Array Slot), WO o (WA o) s s.heap H locs M14 → lv_has ls 3 [(0, .ref (o.2.1 17 0)), (1, .int x1)] → W p l e rm_X5_readsTwo s m args below meth c H locs 0 0 (MQ below (QZ o Q) args s 0 0 (WA o)) (F0 m 74 ls [.int x, .int (M14 17 0 7), .ref (o.2.1 17 0)])) h ?_ ?_
    · clear h hw hl; clear ls; intro x h H locs ls hw hl
      obtain ⟨v15, rfl⟩ : ∃ z, z = x := ⟨_, rfl⟩
      replace hl : lv_has ls 3 [(0, .ref (o.2.1 17 0)), (1, .int x1)] := hl
      refine lv_isub hx hb dX5_readsTwo_74 ?_
      refine g_putf hx hb hts in_X5 tyX5 tyX5_ok nmX5 hown hw 17 0 (ci_17 (by decide)) (bi_17 (by decide) hn) rfl 7 (by decide) rfl rfl kX5_149 (by decide +kernel) (by decide +kernel) (by simp) h dX5_readsTwo_75 ?_
      clear h hw; intro M17 H locs hw h
      refine lv_aload_n hx hb dX5_readsTwo_78 rfl (lv_at hl 0 rfl) ?_
      refine g_getf hx hb hts in_X5 hown hw 17 0 (ci_17 (by decide)) (bi_17 (by decide) hn) rfl rfl 8 (by decide) kX5_155 rfl dX5_readsTwo_79 ?_
      refine lv_iload_n hx hb dX5_readsTwo_82 rfl (lv_at hl 1 rfl) ?_
      refine g_icmp_gt (tgt := 90) hx hb h dX5_readsTwo_83 (by decide) ?_ ?_
      · clear h; intro h
        refine lv_iconst (v := 0) hx hb dX5_readsTwo_90 (by decide) ?_
        exact g_zret hx hb hr hlocks hw (Or.inl rfl) h dX5_readsTwo_91
      · clear h; intro h
        refine lv_iconst (v := 1) hx hb dX5_readsTwo_86 (by decide) ?_
        refine lv_goto (tgt := 91) hx hb dX5_readsTwo_87 (by decide) ?_
        exact g_zret hx hb hr hlocks hw (Or.inr rfl) h dX5_readsTwo_91
    clear h; intro J16 hJ16 h
    refine g_icmp_le (tgt := 73) hx hb h dX5_readsTwo_66 (by decide) ?_ ?_
    · clear h; intro h
      refine lv_iconst (v := 0) hx hb dX5_readsTwo_73 (by decide) ?_
      exact hJ16 (0 : Int32) h _ _ _ hw (lv_sub hl [0, 1] rfl)
    · clear h; intro h
      refine lv_iconst (v := 1) hx hb dX5_readsTwo_69 (by decide) ?_
      refine lv_goto (tgt := 74) hx hb dX5_readsTwo_70 (by decide) ?_
      exact hJ16 (1 : Int32) h _ _ _ hw (lv_sub hl [0, 1] rfl)
  clear h; intro K4 hK4 h
  refine loop_W (body := w_X5_readsTwo_L7 x1 Q K4) (fun (x : Int32 × Mm) => ∀ (H : Heap) (locs : List Loc) (ls : Array Slot), WO o (WA o) s s.heap H locs x.2 → lv_has ls 3 [(0, .ref (o.2.1 17 0)), (1, .int x1), (2, .int x.1)] → W p l e rm_X5_readsTwo s m args below meth c H locs 0 0 (MQ below (QZ o Q) args s 0 0 (WA o)) (F0 m 7 ls [])) ?_ n _ h _ _ _ hw (lv_sub hl [1, 2, 0] rfl)
  clear h hw hl; clear ls; intro R5 x hR5 h H locs ls hw hl
  obtain ⟨v2, M3⟩ := x
  replace hl : lv_has ls 3 [(0, .ref (o.2.1 17 0)), (1, .int x1), (2, .int v2)] := hl
  dsimp only at hw
  unfold w_X5_readsTwo_L7 at h
  dsimp only at h
  refine lv_iload_n hx hb dX5_readsTwo_7 rfl (lv_at hl 2 rfl) ?_
  refine lv_iconst (v := 2) hx hb dX5_readsTwo_8 (by decide) ?_
  refine g_icmp_ge (tgt := 56) hx hb h dX5_readsTwo_9 (by decide) ?_ ?_
  · clear h; intro h
    exact hK4 (v2, M3) h _ _ _ hw (lv_sub hl [0, 1] rfl)
  · clear h; intro h
    refine lv_aload_n hx hb dX5_readsTwo_12 rfl (lv_at hl 0 rfl) ?_
    refine g_cz hw (g_runV (As := []) (rest := []) hx hb hml hown hts mX5_isFigure vX5_isFigure kX5_158 hw 17 0 (ci_17 (by decide)) (bi_17 (by decide) hn) rfl rfl (c_X5_isFigure hn h) rfl rfl ⟨Nat.le_of_ble_eq_true rfl, Nat.le_of_ble_eq_true rfl⟩ rfl hl.1 rfl (Nat.le_of_ble_eq_true rfl) dX5_readsTwo_13 ⟨Nat.zero_le _, Nat.zero_le _⟩) ?_
    clear h hw; intro v7 M6 H locs hw hz_v7 h
    refine g_if_ne (tgt := 21) hx hb h dX5_readsTwo_16 (by decide) ?_ ?_
    · clear h; intro h
      refine lv_aload_n hx hb dX5_readsTwo_21 rfl (lv_at hl 0 rfl) ?_
      refine lv_bipush (v := 10) hx hb dX5_readsTwo_22 (by decide) ?_
      refine lv_aload_n hx hb dX5_readsTwo_24 rfl (lv_at hl 0 rfl) ?_
      refine g_getf hx hb hts in_X5 hown hw 17 0 (ci_17 (by decide)) (bi_17 (by decide) hn) rfl rfl 8 (by decide) kX5_155 rfl dX5_readsTwo_25 ?_
      refine lv_imul hx hb dX5_readsTwo_28 ?_
      refine lv_aload_n hx hb dX5_readsTwo_29 rfl (lv_at hl 0 rfl) ?_
      refine g_ci hw (g_runV (As := []) (rest := [.int ((10 : Int32) * (M6 17 0 8)), .ref (o.2.1 17 0)]) hx hb hml hown hts mX5_here vX5_here kX5_152 hw 17 0 (ci_17 (by decide)) (bi_17 (by decide) hn) rfl rfl (c_X5_here hn h) rfl rfl ⟨Nat.le_of_ble_eq_true rfl, Nat.le_of_ble_eq_true rfl⟩ rfl hl.1 rfl (Nat.le_of_ble_eq_true rfl) dX5_readsTwo_30 ⟨Nat.zero_le _, Nat.zero_le _⟩) ?_
      clear h hw; intro v9 M8 H locs hw h
      refine lv_iadd hx hb dX5_readsTwo_33 ?_
      refine lv_bipush (v := 48) hx hb dX5_readsTwo_34 (by decide) ?_
      refine lv_isub hx hb dX5_readsTwo_36 ?_
      refine g_putf hx hb hts in_X5 tyX5 tyX5_ok nmX5 hown hw 17 0 (ci_17 (by decide)) (bi_17 (by decide) hn) rfl 8 (by decide) rfl rfl kX5_155 (by decide +kernel) (by decide +kernel) (by simp) h dX5_readsTwo_37 ?_
      clear h hw; intro M10 H locs hw h
      refine lv_aload_n hx hb dX5_readsTwo_40 rfl (lv_at hl 0 rfl) ?_
      refine lv_dup hx hb dX5_readsTwo_41 rfl ?_
      refine g_getf hx hb hts in_X5 hown hw 17 0 (ci_17 (by decide)) (bi_17 (by decide) hn) rfl rfl 7 (by decide) kX5_149 rfl dX5_readsTwo_42 ?_
      refine lv_iconst (v := 1) hx hb dX5_readsTwo_45 (by decide) ?_
      refine lv_iadd hx hb dX5_readsTwo_46 ?_
      refine g_putf hx hb hts in_X5 tyX5 tyX5_ok nmX5 hown hw 17 0 (ci_17 (by decide)) (bi_17 (by decide) hn) rfl 7 (by decide) rfl rfl kX5_149 (by decide +kernel) (by decide +kernel) (by simp) h dX5_readsTwo_47 ?_
      clear h hw; intro M11 H locs hw h
      refine g_iinc (k := 2) (v := (v2 + (1 : Int32))) (lv' := fun v12 => [(2, .int v12), (0, .ref (o.2.1 17 0)), (1, .int x1)]) hx hb dX5_readsTwo_50 hl rfl rfl (by decide) (fun _ => rfl) h ?_
      clear h hl; clear ls; intro v12 ls h hl
      refine lv_goto (tgt := 7) hx hb dX5_readsTwo_53 (by decide) ?_
      exact hR5 (v12, M11) h _ _ _ hw (lv_sub hl [1, 2, 0] rfl)
    · clear h; intro h
      refine lv_iconst (v := 0) hx hb dX5_readsTwo_19 (by decide) ?_
      exact g_zret hx hb hr hlocks hw (Or.inl rfl) h dX5_readsTwo_20
abbrev rm_X5_readsTime : Room := { frames := 3, cells := 0, slots := 0, locals := 64 }
set_option maxHeartbeats 4000000 in
set_option maxRecDepth 100000 in
theorem c_X5_readsTime {o : Om} {l : Launch} (hn : 122 ≤ o.2.2.2) {M : Mm} {x1 : Int32} {Q : Int32 → Mm → Prop} (h : w_X5_readsTime M x1 Q) : CZ o l yX5_readsTime cX5_readsTime 3 rm_X5_readsTime [.ref (o.2.1 17 0), .int x1] M Q := by
  refine g_start (by decide +kernel) (Nat.le_of_ble_eq_true rfl) ?_
  intro p e s m args below meth c hx hb hr hlocks hml hown hts hw ls hl
  replace hl : lv_has ls 3 [(0, .ref (o.2.1 17 0)), (1, .int x1)] := hl
  unfold w_X5_readsTime at h
  refine lv_aload_n hx hb dX5_readsTime_0 rfl (lv_at hl 0 rfl) ?_
  refine lv_bipush (v := 23) hx hb dX5_readsTime_1 (by decide) ?_
  refine g_cz hw (g_runV (As := [.int (23 : Int32)]) (rest := []) hx hb hml hown hts mX5_readsTwo vX5_readsTwo kX5_162 hw 17 0 (ci_17 (by decide)) (bi_17 (by decide) hn) rfl rfl (c_X5_readsTwo hn h) rfl rfl ⟨Nat.le_of_ble_eq_true rfl, Nat.le_of_ble_eq_true rfl⟩ rfl hl.1 rfl (Nat.le_of_ble_eq_true rfl) dX5_readsTime_3 ⟨Nat.zero_le _, Nat.zero_le _⟩) ?_
  clear h hw; intro v2 M1 H locs hw hz_v2 h
  refine g_if_ne (tgt := 11) hx hb h dX5_readsTime_6 (by decide) ?_ ?_
  · clear h; intro h
    refine lv_aload_n hx hb dX5_readsTime_11 rfl (lv_at hl 0 rfl) ?_
    refine g_getf hx hb hts in_X5 hown hw 17 0 (ci_17 (by decide)) (bi_17 (by decide) hn) rfl rfl 8 (by decide) kX5_155 rfl dX5_readsTime_12 ?_
    refine g_topi h ?_
    clear h; intro v3 h
    refine lv_istore_n (lv' := [(2, .int v3), (0, .ref (o.2.1 17 0)), (1, .int x1)]) hx hb dX5_readsTime_15 rfl hl (by decide) rfl ?_
    clear hl; clear ls; intro ls hl
    refine lv_aload_n hx hb dX5_readsTime_16 rfl (lv_at hl 1 rfl) ?_
    refine lv_bipush (v := 58) hx hb dX5_readsTime_17 (by decide) ?_
    refine g_cz hw (g_runV (As := [.int (58 : Int32)]) (rest := []) hx hb hml hown hts mX5_takes vX5_takes kX5_165 hw 17 0 (ci_17 (by decide)) (bi_17 (by decide) hn) rfl rfl (c_X5_takes hn h) rfl rfl ⟨Nat.le_of_ble_eq_true rfl, Nat.le_of_ble_eq_true rfl⟩ rfl hl.1 rfl (Nat.le_of_ble_eq_true rfl) dX5_readsTime_19 ⟨Nat.zero_le _, Nat.zero_le _⟩) ?_
    clear h hw; intro v5 M4 H locs hw hz_v5 h
    refine g_if_eq (tgt := 34) hx hb h dX5_readsTime_22 (by decide) ?_ ?_
    · clear h; intro h
      refine lv_iconst (v := 0) hx hb dX5_readsTime_34 (by decide) ?_
      exact g_zret hx hb hr hlocks hw (Or.inl rfl) h dX5_readsTime_35
    · clear h; intro h
      refine lv_aload_n hx hb dX5_readsTime_25 rfl (lv_at hl 1 rfl) ?_
      refine lv_bipush (v := 59) hx hb dX5_readsTime_26 (by decide) ?_
      refine g_cz hw (g_runV (As := [.int (59 : Int32)]) (rest := []) hx hb hml hown hts mX5_readsTwo vX5_readsTwo kX5_162 hw 17 0 (ci_17 (by decide)) (bi_17 (by decide) hn) rfl rfl (c_X5_readsTwo hn h) rfl rfl ⟨Nat.le_of_ble_eq_true rfl, Nat.le_of_ble_eq_true rfl⟩ rfl hl.1 rfl (Nat.le_of_ble_eq_true rfl) dX5_readsTime_28 ⟨Nat.zero_le _, Nat.zero_le _⟩) ?_
      clear h hw; intro v7 M6 H locs hw hz_v7 h
      refine g_if_ne (tgt := 36) hx hb h dX5_readsTime_31 (by decide) ?_ ?_
      · clear h; intro h
        refine lv_aload_n hx hb dX5_readsTime_36 rfl (lv_at hl 1 rfl) ?_
        refine g_getf hx hb hts in_X5 hown hw 17 0 (ci_17 (by decide)) (bi_17 (by decide) hn) rfl rfl 9 (by decide) kX5_25 rfl dX5_readsTime_37 ?_
        refine lv_iload_n hx hb dX5_readsTime_40 rfl (lv_at hl 2 rfl) ?_
        refine lv_iconst (v := 2) hx hb dX5_readsTime_41 (by decide) ?_
        refine lv_iadd hx hb dX5_readsTime_42 ?_
        refine lv_bipush (v := 60) hx hb dX5_readsTime_43 (by decide) ?_
        refine lv_iload_n hx hb dX5_readsTime_45 rfl (lv_at hl 0 rfl) ?_
        refine lv_imul hx hb dX5_readsTime_46 ?_
        refine lv_aload_n hx hb dX5_readsTime_47 rfl (lv_at hl 1 rfl) ?_
        refine g_getf hx hb hts in_X5 hown hw 17 0 (ci_17 (by decide)) (bi_17 (by decide) hn) rfl rfl 8 (by decide) kX5_155 rfl dX5_readsTime_48 ?_
        refine lv_iadd hx hb dX5_readsTime_51 ?_
        refine g_iast hx hb hw 23 0 (ci_23 (by decide)) (bi_23 (by decide) hn) (fun _ => rfl) h dX5_readsTime_52 ?_
        clear h hw; intro M8 H locs hw h
        refine lv_iconst (v := 1) hx hb dX5_readsTime_53 (by decide) ?_
        exact g_zret hx hb hr hlocks hw (Or.inr rfl) h dX5_readsTime_54
      · clear h; intro h
        refine lv_iconst (v := 0) hx hb dX5_readsTime_34 (by decide) ?_
        exact g_zret hx hb hr hlocks hw (Or.inl rfl) h dX5_readsTime_35
  · clear h; intro h
    refine lv_iconst (v := 0) hx hb dX5_readsTime_9 (by decide) ?_
    exact g_zret hx hb hr hlocks hw (Or.inl rfl) h dX5_readsTime_10
