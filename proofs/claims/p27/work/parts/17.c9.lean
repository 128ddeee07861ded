abbrev rm_L_frees : Room := { frames := 5, cells := 0, slots := 0, locals := 110 }
set_option maxHeartbeats 4000000 in
set_option maxRecDepth 100000 in
theorem c_L_frees {o : Om} {l : Launch} (hn : 115 ≤ o.2.2.2) {M : Mm} {x1 : Int32} {x2 : Int32} {Q : Int32 → Mm → Prop} (h : w_L_frees M x1 x2 Q) : CZ o l yL_frees cL_frees 7 rm_L_frees [.ref (o.2.1 0 0), .int x1, .int x2] M Q := by
  refine g_start (by decide +kernel) (Nat.le_of_ble_eq_true rfl) ?_
  intro p e s m args below meth c hx hb hr hlocks hml hown hts hw ls hl
  replace hl : lv_has ls 7 [(0, .ref (o.2.1 0 0)), (1, .int x1), (2, .int x2)] := hl
  unfold w_L_frees at h
  refine lv_bipush (v := (-9)) hx hb dL_frees_0 (by decide) ?_
  refine lv_istore_n (lv' := [(3, .int (-9 : Int32)), (0, .ref (o.2.1 0 0)), (1, .int x1), (2, .int x2)]) hx hb dL_frees_2 rfl hl (by decide) rfl ?_
  clear hl; clear ls; intro ls hl
  refine lv_aload_n hx hb dL_frees_3 rfl (lv_at hl 1 rfl) ?_
  refine lv_iconst (v := 1) hx hb dL_frees_4 (by decide) ?_
  refine g_ci hw (g_runV (As := [.int (1 : Int32)]) (rest := []) hx hb hml hown hts mX4_told vX4_told kL_32 hw 0 0 (ci_0 (by decide)) (bi_0 (by decide) hn) rfl rfl (c_X4_told hn h) rfl rfl ⟨Nat.le_of_ble_eq_true rfl, Nat.le_of_ble_eq_true rfl⟩ rfl hl.1 rfl (Nat.le_of_ble_eq_true rfl) dL_frees_5 ⟨Nat.zero_le _, Nat.zero_le _⟩) ?_
  clear h hw; intro v2 M1 H locs hw h
  refine lv_iload_n hx hb dL_frees_8 rfl (lv_at hl 2 rfl) ?_
  refine lv_isub hx hb dL_frees_9 ?_
  refine lv_iconst (v := 1) hx hb dL_frees_10 (by decide) ?_
  refine lv_iadd hx hb dL_frees_11 ?_
  refine g_topi h ?_
  clear h; intro v3 h
  refine lv_istore (lv' := [(4, .int v3), (3, .int (-9 : Int32)), (0, .ref (o.2.1 0 0)), (1, .int x1), (2, .int x2)]) hx hb dL_frees_12 hl (by decide) rfl ?_
  clear hl; clear ls; intro ls hl
  obtain ⟨n, h⟩ := h
  refine letK_W (body := fun K => w_L_frees_L14 x1 x2 K) (fun (x : Int32 × Int32 × Mm) => ∀ (H : Heap) (locs : List Loc) (ls : Array Slot), WO o (WA o) s s.heap H locs x.2.2 → lv_has ls 7 [(0, .ref (o.2.1 0 0)), (1, .int x1), (2, .int x2), (3, .int x.1)] → W p l e rm_L_frees s m args below meth c H locs 0 0 (MQ below (QZ o Q) args s 0 0 (WA o)) (F0 m 115 ls [])) h ?_ ?_
  · clear h hw hl; clear ls; intro x h H locs ls hw hl
    obtain ⟨v35, v36, M37⟩ := x
    replace hl : lv_has ls 7 [(0, .ref (o.2.1 0 0)), (1, .int x1), (2, .int x2), (3, .int v35)] := hl
    dsimp only at h hw
    refine lv_aload_n hx hb dL_frees_115 rfl (lv_at hl 0 rfl) ?_
    refine lv_iload_n hx hb dL_frees_116 rfl (lv_at hl 1 rfl) ?_
    refine lv_iload_n hx hb dL_frees_117 rfl (lv_at hl 2 rfl) ?_
    refine g_ci hw (g_runV (As := [.int x1, .int x2]) (rest := []) hx hb hml hown hts mX4_free vX4_free kL_54 hw 0 0 (ci_0 (by decide)) (bi_0 (by decide) hn) rfl rfl (c_X4_free hn h) rfl rfl ⟨Nat.le_of_ble_eq_true rfl, Nat.le_of_ble_eq_true rfl⟩ rfl hl.1 rfl (Nat.le_of_ble_eq_true rfl) dL_frees_118 ⟨Nat.zero_le _, Nat.zero_le _⟩) ?_
    clear h hw; intro v39 M38 H locs hw h
    refine lv_iload_n hx hb dL_frees_121 rfl (lv_at hl 3 rfl) ?_
    refine g_icmp_ne (tgt := 129) hx hb h dL_frees_122 (by decide) ?_ ?_
    · clear h; intro h
      refine lv_iconst (v := 0) hx hb dL_frees_129 (by decide) ?_
      exact g_zret hx hb hr hlocks hw (Or.inl rfl) h dL_frees_130
    · clear h; intro h
      refine lv_iconst (v := 1) hx hb dL_frees_125 (by decide) ?_
      refine lv_goto (tgt := 130) hx hb dL_frees_126 (by decide) ?_
      exact g_zret hx hb hr hlocks hw (Or.inr rfl) h dL_frees_130
  clear h; intro K7 hK7 h
  refine loop_W (body := w_L_frees_L14 x1 x2 K7) (fun (x : Int32 × Int32 × Mm) => ∀ (H : Heap) (locs : List Loc) (ls : Array Slot), WO o (WA o) s s.heap H locs x.2.2 → lv_has ls 7 [(0, .ref (o.2.1 0 0)), (1, .int x1), (2, .int x2), (3, .int x.1), (4, .int x.2.1)] → W p l e rm_L_frees s m args below meth c H locs 0 0 (MQ below (QZ o Q) args s 0 0 (WA o)) (F0 m 14 ls [])) ?_ n _ h _ _ _ hw (lv_sub hl [2, 3, 4, 1, 0] rfl)
  clear h hw hl; clear ls; intro R8 x hR8 h H locs ls hw hl
  obtain ⟨v4, v5, M6⟩ := x
  replace hl : lv_has ls 7 [(0, .ref (o.2.1 0 0)), (1, .int x1), (2, .int x2), (3, .int v4), (4, .int v5)] := hl
  dsimp only at hw
  unfold w_L_frees_L14 at h
  dsimp only at h
  refine lv_iload hx hb dL_frees_14 (lv_at hl 4 rfl) ?_
  refine lv_aload_n hx hb dL_frees_16 rfl (lv_at hl 0 rfl) ?_
  refine lv_iconst (v := 0) hx hb dL_frees_17 (by decide) ?_
  refine g_ci hw (g_runV (As := [.int (0 : Int32)]) (rest := [.int v5]) hx hb hml hown hts mX4_told vX4_told kL_32 hw 0 0 (ci_0 (by decide)) (bi_0 (by decide) hn) rfl rfl (c_X4_told hn h) rfl rfl ⟨Nat.le_of_ble_eq_true rfl, Nat.le_of_ble_eq_true rfl⟩ rfl hl.1 rfl (Nat.le_of_ble_eq_true rfl) dL_frees_18 ⟨Nat.zero_le _, Nat.zero_le _⟩) ?_
  clear h hw; intro v10 M9 H locs hw h
  refine g_icmp_lt (tgt := 115) hx hb h dL_frees_21 (by decide) ?_ ?_
  · clear h; intro h
    exact hK7 (v4, v5, M9) h _ _ _ hw (lv_sub hl [0, 1, 2, 3] rfl)
  · clear h; intro h
    refine lv_iload_n hx hb dL_frees_24 rfl (lv_at hl 2 rfl) ?_
    refine letJ_W (fun (x : Int32 × Mm) => ∀ (H : Heap) (locs : List Loc) (ls : Array Slot), WO o (WA o) s s.heap H locs x.2 → lv_has ls 7 [(0, .ref (o.2.1 0 0)), (1, .int x1), (2, .int x2), (3, .int v4), (4, .int v5)] → W p l e rm_L_frees s m args below meth c H locs 0 0 (MQ below (QZ o Q) args s 0 0 (WA o)) (F0 m 54 ls [.int x.1])) h ?_ ?_
    · clear h hw hl; clear ls; intro x h H locs ls hw hl
      obtain ⟨v11, M13⟩ := x
      replace hl : lv_has ls 7 [(0, .ref (o.2.1 0 0)), (1, .int x1), (2, .int x2), (3, .int v4), (4, .int v5)] := hl
      dsimp only at h
      dsimp only at hw
      refine lv_istore (lv' := [(5, .int v11), (0, .ref (o.2.1 0 0)), (1, .int x1), (2, .int x2), (3, .int v4), (4, .int v5)]) hx hb dL_frees_54 hl (by decide) rfl ?_
      clear hl; clear ls; intro ls hl
      refine lv_iload hx hb dL_frees_56 (lv_at hl 5 rfl) ?_
      refine lv_istore (lv' := [(6, .int v5), (5, .int v11), (0, .ref (o.2.1 0 0)), (1, .int x1), (2, .int x2), (3, .int v4), (4, .int v5)]) hx hb dL_frees_58 hl (by decide) rfl ?_
      clear hl; clear ls; intro ls hl
      obtain ⟨n, h⟩ := h
      refine letK_W (body := fun K => w_L_frees_L60 x1 x2 v4 v5 K) (fun (x : Int32 × Int32 × Mm) => ∀ (H : Heap) (locs : List Loc) (ls : Array Slot), WO o (WA o) s s.heap H locs x.2.2 → lv_has ls 7 [(0, .ref (o.2.1 0 0)), (1, .int x1), (2, .int x2), (3, .int v4), (4, .int v5), (5, .int x.1)] → W p l e rm_L_frees s m args below meth c H locs 0 0 (MQ below (QZ o Q) args s 0 0 (WA o)) (F0 m 97 ls [])) h ?_ ?_
      · clear h hw hl; clear ls; intro x h H locs ls hw hl
        obtain ⟨v24, v25, M26⟩ := x
        replace hl : lv_has ls 7 [(0, .ref (o.2.1 0 0)), (1, .int x1), (2, .int x2), (3, .int v4), (4, .int v5), (5, .int v24)] := hl
        dsimp only at h hw
        refine lv_iload hx hb dL_frees_97 (lv_at hl 5 rfl) ?_
        refine g_if_eq (tgt := 107) hx hb h dL_frees_99 (by decide) ?_ ?_
        · clear h; intro h
          refine lv_iload_n hx hb dL_frees_107 rfl (lv_at hl 3 rfl) ?_
          refine lv_istore_n (lv' := [(3, .int v4), (0, .ref (o.2.1 0 0)), (1, .int x1), (2, .int x2), (4, .int v5), (5, .int v24)]) hx hb dL_frees_108 rfl hl (by decide) rfl ?_
          clear hl; clear ls; intro ls hl
          refine g_iinc (k := 4) (v := (v5 + (-1 : Int32))) (lv' := fun v27 => [(4, .int v27), (3, .int v4), (0, .ref (o.2.1 0 0)), (1, .int x1), (2, .int x2), (5, .int v24)]) hx hb dL_frees_109 hl rfl rfl (by decide) (fun _ => rfl) h ?_
          clear h hl; clear ls; intro v27 ls h hl
          refine lv_goto (tgt := 14) hx hb dL_frees_112 (by decide) ?_
          exact hR8 (v4, v27, M26) h _ _ _ hw (lv_sub hl [2, 3, 4, 1, 0] rfl)
        · clear h; intro h
          refine lv_iload hx hb dL_frees_102 (lv_at hl 4 rfl) ?_
          refine lv_goto (tgt := 108) hx hb dL_frees_104 (by decide) ?_
          refine lv_istore_n (lv' := [(3, .int v5), (0, .ref (o.2.1 0 0)), (1, .int x1), (2, .int x2), (4, .int v5), (5, .int v24)]) hx hb dL_frees_108 rfl hl (by decide) rfl ?_
          clear hl; clear ls; intro ls hl
          refine g_iinc (k := 4) (v := (v5 + (-1 : Int32))) (lv' := fun v28 => [(4, .int v28), (3, .int v5), (0, .ref (o.2.1 0 0)), (1, .int x1), (2, .int x2), (5, .int v24)]) hx hb dL_frees_109 hl rfl rfl (by decide) (fun _ => rfl) h ?_
          clear h hl; clear ls; intro v28 ls h hl
          refine lv_goto (tgt := 14) hx hb dL_frees_112 (by decide) ?_
          exact hR8 (v5, v28, M26) h _ _ _ hw (lv_sub hl [2, 3, 4, 1, 0] rfl)
      clear h; intro K17 hK17 h
      refine loop_W (body := w_L_frees_L60 x1 x2 v4 v5 K17) (fun (x : Int32 × Int32 × Mm) => ∀ (H : Heap) (locs : List Loc) (ls : Array Slot), WO o (WA o) s s.heap H locs x.2.2 → lv_has ls 7 [(0, .ref (o.2.1 0 0)), (1, .int x1), (2, .int x2), (3, .int v4), (4, .int v5), (5, .int x.1), (6, .int x.2.1)] → W p l e rm_L_frees s m args below meth c H locs 0 0 (MQ below (QZ o Q) args s 0 0 (WA o)) (F0 m 60 ls [])) ?_ n _ h _ _ _ hw (lv_sub hl [2, 3, 4, 5, 6, 1, 0] rfl)
      clear h hw hl; clear ls; intro R18 x hR18 h H locs ls hw hl
      obtain ⟨v14, v15, M16⟩ := x
      replace hl : lv_has ls 7 [(0, .ref (o.2.1 0 0)), (1, .int x1), (2, .int x2), (3, .int v4), (4, .int v5), (5, .int v14), (6, .int v15)] := hl
      dsimp only at hw
      unfold w_L_frees_L60 at h
      dsimp only at h
      refine lv_iload hx hb dL_frees_60 (lv_at hl 6 rfl) ?_
      refine lv_iload hx hb dL_frees_62 (lv_at hl 4 rfl) ?_
      refine lv_iload_n hx hb dL_frees_64 rfl (lv_at hl 1 rfl) ?_
      refine lv_iadd hx hb dL_frees_65 ?_
      refine g_icmp_ge (tgt := 97) hx hb h dL_frees_66 (by decide) ?_ ?_
      · clear h; intro h
        exact hK17 (v14, v15, M16) h _ _ _ hw (lv_sub hl [0, 1, 2, 3, 4, 5] rfl)
      · clear h; intro h
        refine lv_iload hx hb dL_frees_69 (lv_at hl 5 rfl) ?_
        refine g_if_eq (tgt := 88) hx hb h dL_frees_71 (by decide) ?_ ?_
        · clear h; intro h
          refine lv_iconst (v := 0) hx hb dL_frees_88 (by decide) ?_
          refine lv_istore (lv' := [(5, .int (0 : Int32)), (0, .ref (o.2.1 0 0)), (1, .int x1), (2, .int x2), (3, .int v4), (4, .int v5), (6, .int v15)]) hx hb dL_frees_89 hl (by decide) rfl ?_
          clear hl; clear ls; intro ls hl
          refine g_iinc (k := 6) (v := (v15 + (1 : Int32))) (lv' := fun v19 => [(6, .int v19), (5, .int (0 : Int32)), (0, .ref (o.2.1 0 0)), (1, .int x1), (2, .int x2), (3, .int v4), (4, .int v5)]) hx hb dL_frees_91 hl rfl rfl (by decide) (fun _ => rfl) h ?_
          clear h hl; clear ls; intro v19 ls h hl
          refine lv_goto (tgt := 60) hx hb dL_frees_94 (by decide) ?_
          exact hR18 ((0 : Int32), v19, M16) h _ _ _ hw (lv_sub hl [2, 3, 4, 5, 6, 1, 0] rfl)
        · clear h; intro h
          refine lv_aload_n hx hb dL_frees_74 rfl (lv_at hl 0 rfl) ?_
          refine lv_iload hx hb dL_frees_75 (lv_at hl 6 rfl) ?_
          refine lv_iconst (v := 5) hx hb dL_frees_77 (by decide) ?_
          refine g_ci hw (g_runV (As := [.int v15, .int (5 : Int32)]) (rest := []) hx hb hml hown hts mX4_day vX4_day kL_38 hw 0 0 (ci_0 (by decide)) (bi_0 (by decide) hn) rfl rfl (c_X4_day hn h) rfl rfl ⟨Nat.le_of_ble_eq_true rfl, Nat.le_of_ble_eq_true rfl⟩ rfl hl.1 rfl (Nat.le_of_ble_eq_true rfl) dL_frees_78 ⟨Nat.zero_le _, Nat.zero_le _⟩) ?_
          clear h hw; intro v21 M20 H locs hw h
          refine g_if_ne (tgt := 88) hx hb h dL_frees_81 (by decide) ?_ ?_
          · clear h; intro h
            refine lv_iconst (v := 0) hx hb dL_frees_88 (by decide) ?_
            refine lv_istore (lv' := [(5, .int (0 : Int32)), (0, .ref (o.2.1 0 0)), (1, .int x1), (2, .int x2), (3, .int v4), (4, .int v5), (6, .int v15)]) hx hb dL_frees_89 hl (by decide) rfl ?_
            clear hl; clear ls; intro ls hl
            refine g_iinc (k := 6) (v := (v15 + (1 : Int32))) (lv' := fun v22 => [(6, .int v22), (5, .int (0 : Int32)), (0, .ref (o.2.1 0 0)), (1, .int x1), (2, .int x2), (3, .int v4), (4, .int v5)]) hx hb dL_frees_91 hl rfl rfl (by decide) (fun _ => rfl) h ?_
            clear h hl; clear ls; intro v22 ls h hl
            refine lv_goto (tgt := 60) hx hb dL_frees_94 (by decide) ?_
            exact hR18 ((0 : Int32), v22, M20) h _ _ _ hw (lv_sub hl [2, 3, 4, 5, 6, 1, 0] rfl)
          · clear h; intro h
            refine lv_iconst (v := 1) hx hb dL_frees_84 (by decide) ?_
            refine lv_goto (tgt := 89) hx hb dL_frees_85 (by decide) ?_
            refine lv_istore (lv' := [(5, .int (1 : Int32)), (0, .ref (o.2.1 0 0)), (1, .int x1), (2, .int x2), (3, .int v4), (4, .int v5), (6, .int v15)]) hx hb dL_frees_89 hl (by decide) rfl ?_
            clear hl; clear ls; intro ls hl
            refine g_iinc (k := 6) (v := (v15 + (1 : Int32))) (lv' := fun v23 => [(6, .int v23), (5, .int (1 : Int32)), (0, .ref (o.2.1 0 0)), (1, .int x1), (2, .int x2), (3, .int v4), (4, .int v5)]) hx hb dL_frees_91 hl rfl rfl (by decide) (fun _ => rfl) h ?_
            clear h hl; clear ls; intro v23 ls h hl
            refine lv_goto (tgt := 60) hx hb dL_frees_94 (by decide) ?_
            exact hR18 ((1 : Int32), v23, M20) h _ _ _ hw (lv_sub hl [2, 3, 4, 5, 6, 1, 0] rfl)
    clear h; intro J12 hJ12 h
    refine letJ_W (fun (x : Mm) => ∀ (H : Heap) (locs : List Loc) (ls : Array Slot), WO o (WA o) s s.heap H locs x → lv_has ls 7 [(0, .ref (o.2.1 0 0)), (1, .int x1), (2, .int x2), (3, .int v4), (4, .int v5)] → W p l e rm_L_frees s m args below meth c H locs 0 0 (MQ below (QZ o Q) args s 0 0 (WA o)) (F0 m 49 ls [])) h ?_ ?_
    · clear h hw hl; clear ls; intro x h H locs ls hw hl
      obtain ⟨M30, rfl⟩ : ∃ z, z = x := ⟨_, rfl⟩
      replace hl : lv_has ls 7 [(0, .ref (o.2.1 0 0)), (1, .int x1), (2, .int x2), (3, .int v4), (4, .int v5)] := hl
      refine lv_iconst (v := 1) hx hb dL_frees_49 (by decide) ?_
      refine lv_goto (tgt := 54) hx hb dL_frees_50 (by decide) ?_
      exact hJ12 ((1 : Int32), M30) h _ _ _ hw (lv_sub hl [0, 1, 2, 3, 4] rfl)
    clear h; intro J29 hJ29 h
    refine g_if_eq (tgt := 49) hx hb h dL_frees_25 (by decide) ?_ ?_
    · clear h; intro h
      exact hJ29 M9 h _ _ _ hw (lv_sub hl [0, 1, 2, 3, 4] rfl)
    · clear h; intro h
      refine lv_aload_n hx hb dL_frees_28 rfl (lv_at hl 0 rfl) ?_
      refine lv_iload hx hb dL_frees_29 (lv_at hl 4 rfl) ?_
      refine lv_iconst (v := 0) hx hb dL_frees_31 (by decide) ?_
      refine g_ci hw (g_runV (As := [.int v5, .int (0 : Int32)]) (rest := []) hx hb hml hown hts mX4_day vX4_day kL_38 hw 0 0 (ci_0 (by decide)) (bi_0 (by decide) hn) rfl rfl (c_X4_day hn h) rfl rfl ⟨Nat.le_of_ble_eq_true rfl, Nat.le_of_ble_eq_true rfl⟩ rfl hl.1 rfl (Nat.le_of_ble_eq_true rfl) dL_frees_32 ⟨Nat.zero_le _, Nat.zero_le _⟩) ?_
      clear h hw; intro v32 M31 H locs hw h
      refine lv_aload_n hx hb dL_frees_35 rfl (lv_at hl 0 rfl) ?_
      refine lv_iload hx hb dL_frees_36 (lv_at hl 4 rfl) ?_
      refine lv_iload_n hx hb dL_frees_38 rfl (lv_at hl 1 rfl) ?_
      refine lv_iadd hx hb dL_frees_39 ?_
      refine lv_iconst (v := 1) hx hb dL_frees_40 (by decide) ?_
      refine lv_isub hx hb dL_frees_41 ?_
      refine lv_iconst (v := 0) hx hb dL_frees_42 (by decide) ?_
      refine g_ci hw (g_runV (As := [.int ((v5 + x1) - (1 : Int32)), .int (0 : Int32)]) (rest := [.int v32]) hx hb hml hown hts mX4_day vX4_day kL_38 hw 0 0 (ci_0 (by decide)) (bi_0 (by decide) hn) rfl rfl (c_X4_day hn h) rfl rfl ⟨Nat.le_of_ble_eq_true rfl, Nat.le_of_ble_eq_true rfl⟩ rfl hl.1 rfl (Nat.le_of_ble_eq_true rfl) dL_frees_43 ⟨Nat.zero_le _, Nat.zero_le _⟩) ?_
      clear h hw; intro v34 M33 H locs hw h
      refine g_icmp_ne (tgt := 53) hx hb h dL_frees_46 (by decide) ?_ ?_
      · clear h; intro h
        refine lv_iconst (v := 0) hx hb dL_frees_53 (by decide) ?_
        exact hJ12 ((0 : Int32), M33) h _ _ _ hw (lv_sub hl [0, 1, 2, 3, 4] rfl)
      · clear h; intro h
        exact hJ29 M33 h _ _ _ hw (lv_sub hl [0, 1, 2, 3, 4] rfl)
