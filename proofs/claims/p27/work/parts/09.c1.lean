abbrev rm_X0_layBar : Room := { frames := 1, cells := 0, slots := 0, locals := 21 }
set_option maxHeartbeats 4000000 in
set_option maxRecDepth 100000 in
theorem c_X0_layBar {o : Om} {l : Launch} (hn : 115 ≤ o.2.2.2) {p : Nat} (hp : p < 2) {M : Mm} {x1 : Int32} {x2 : Int32} {Q : Mm → Prop} (h : w_X0_layBar p M x1 x2 Q) : CV o l yX0_layBar cX0_layBar 10 rm_X0_layBar [.ref (o.2.1 5 p), .int x1, .int x2] M Q := by
  refine g_start (by decide +kernel) (Nat.le_of_ble_eq_true rfl) ?_
  intro p' e s m args below meth c hx hb hr hlocks hml hown hts hw ls hl
  replace hl : lv_has ls 10 [(0, .ref (o.2.1 5 p)), (1, .int x1), (2, .int x2)] := hl
  unfold w_X0_layBar at h
  refine lv_aload_n hx hb dX0_layBar_0 rfl (lv_at hl 0 rfl) ?_
  refine g_getf hx hb hts in_X0 hown hw 5 p (ci_5 hp) (bi_5 hp hn) rfl rfl 0 (by decide) kX0_12 rfl dX0_layBar_1 ?_
  refine g_getf hx hb hts in_X2 hown hw 11 p (ci_11 (Nat.lt_of_lt_of_le hp (by decide))) (bi_11 (Nat.lt_of_lt_of_le hp (by decide)) hn) rfl rfl 5 (by decide) kX0_93 rfl dX0_layBar_4 ?_
  refine lv_iload_n hx hb dX0_layBar_7 rfl (lv_at hl 1 rfl) ?_
  refine g_iald hx hb hw 13 p (ci_13 (Nat.lt_of_lt_of_le hp (by decide))) (bi_13 (Nat.lt_of_lt_of_le hp (by decide)) hn) rfl h dX0_layBar_8 ?_
  clear h; intro v1 h
  refine lv_aload_n hx hb dX0_layBar_9 rfl (lv_at hl 0 rfl) ?_
  refine lv_iload_n hx hb dX0_layBar_10 rfl (lv_at hl 2 rfl) ?_
  refine g_ci hw (g_runV (As := [.int x2]) (rest := [.int v1]) hx hb hml hown hts mX0_firstOfWeek vX0_firstOfWeek kX0_79 hw 5 p (ci_5 hp) (bi_5 hp hn) rfl rfl (c_X0_firstOfWeek hn hp h) rfl rfl ⟨Nat.le_of_ble_eq_true rfl, Nat.le_of_ble_eq_true rfl⟩ rfl hl.1 rfl (Nat.le_of_ble_eq_true rfl) dX0_layBar_11 ⟨Nat.zero_le _, Nat.zero_le _⟩) ?_
  clear h hw; intro v3 M2 H locs hw h
  refine g_max hx hb hml hl.1 hown hts kX0_102 (Nat.le_of_ble_eq_true rfl) (Nat.le_of_ble_eq_true rfl) (Nat.zero_le _) (Nat.zero_le _) dX0_layBar_14 ?_
  refine lv_aload_n hx hb dX0_layBar_17 rfl (lv_at hl 0 rfl) ?_
  refine g_getf hx hb hts in_X0 hown hw 5 p (ci_5 hp) (bi_5 hp hn) rfl rfl 0 (by decide) kX0_12 rfl dX0_layBar_18 ?_
  refine g_getf hx hb hts in_X2 hown hw 11 p (ci_11 (Nat.lt_of_lt_of_le hp (by decide))) (bi_11 (Nat.lt_of_lt_of_le hp (by decide)) hn) rfl rfl 0 (by decide) kX0_63 rfl dX0_layBar_21 ?_
  refine lv_isub hx hb dX0_layBar_24 ?_
  refine g_topi h ?_
  clear h; intro v4 h
  refine lv_istore_n (lv' := [(3, .int v4), (0, .ref (o.2.1 5 p)), (1, .int x1), (2, .int x2)]) hx hb dX0_layBar_25 rfl hl (by decide) rfl ?_
  clear hl; clear ls; intro ls hl
  refine lv_aload_n hx hb dX0_layBar_26 rfl (lv_at hl 1 rfl) ?_
  refine g_getf hx hb hts in_X0 hown hw 5 p (ci_5 hp) (bi_5 hp hn) rfl rfl 0 (by decide) kX0_12 rfl dX0_layBar_27 ?_
  refine g_getf hx hb hts in_X2 hown hw 11 p (ci_11 (Nat.lt_of_lt_of_le hp (by decide))) (bi_11 (Nat.lt_of_lt_of_le hp (by decide)) hn) rfl rfl 6 (by decide) kX0_96 rfl dX0_layBar_30 ?_
  refine lv_iload_n hx hb dX0_layBar_33 rfl (lv_at hl 2 rfl) ?_
  refine g_iald hx hb hw 14 p (ci_14 (Nat.lt_of_lt_of_le hp (by decide))) (bi_14 (Nat.lt_of_lt_of_le hp (by decide)) hn) rfl h dX0_layBar_34 ?_
  clear h; intro v5 h
  refine lv_aload_n hx hb dX0_layBar_35 rfl (lv_at hl 1 rfl) ?_
  refine lv_iload_n hx hb dX0_layBar_36 rfl (lv_at hl 3 rfl) ?_
  refine g_ci hw (g_runV (As := [.int x2]) (rest := [.int v5]) hx hb hml hown hts mX0_lastOfWeek vX0_lastOfWeek kX0_83 hw 5 p (ci_5 hp) (bi_5 hp hn) rfl rfl (c_X0_lastOfWeek hn hp h) rfl rfl ⟨Nat.le_of_ble_eq_true rfl, Nat.le_of_ble_eq_true rfl⟩ rfl hl.1 rfl (Nat.le_of_ble_eq_true rfl) dX0_layBar_37 ⟨Nat.zero_le _, Nat.zero_le _⟩) ?_
  clear h hw; intro v7 M6 H locs hw h
  refine g_min hx hb hml hl.1 hown hts kX0_108 (Nat.le_of_ble_eq_true rfl) (Nat.le_of_ble_eq_true rfl) (Nat.zero_le _) (Nat.zero_le _) dX0_layBar_40 ?_
  refine lv_aload_n hx hb dX0_layBar_43 rfl (lv_at hl 1 rfl) ?_
  refine g_getf hx hb hts in_X0 hown hw 5 p (ci_5 hp) (bi_5 hp hn) rfl rfl 0 (by decide) kX0_12 rfl dX0_layBar_44 ?_
  refine g_getf hx hb hts in_X2 hown hw 11 p (ci_11 (Nat.lt_of_lt_of_le hp (by decide))) (bi_11 (Nat.lt_of_lt_of_le hp (by decide)) hn) rfl rfl 0 (by decide) kX0_63 rfl dX0_layBar_47 ?_
  refine lv_isub hx hb dX0_layBar_50 ?_
  refine g_topi h ?_
  clear h; intro v8 h
  refine lv_istore (lv' := [(4, .int v8), (3, .int v4), (0, .ref (o.2.1 5 p)), (1, .int x1), (2, .int x2)]) hx hb dX0_layBar_51 hl (by decide) rfl ?_
  clear hl; clear ls; intro ls hl
  refine lv_iconst (v := 0) hx hb dX0_layBar_53 (by decide) ?_
  refine lv_istore (lv' := [(5, .int (0 : Int32)), (4, .int v8), (3, .int v4), (0, .ref (o.2.1 5 p)), (1, .int x1), (2, .int x2)]) hx hb dX0_layBar_54 hl (by decide) rfl ?_
  clear hl; clear ls; intro ls hl
  refine lv_iload_n hx hb dX0_layBar_56 rfl (lv_at hl 2 rfl) ?_
  refine lv_istore (lv' := [(6, .int v4), (5, .int (0 : Int32)), (4, .int v8), (3, .int v4), (0, .ref (o.2.1 5 p)), (1, .int x1), (2, .int x2)]) hx hb dX0_layBar_57 hl (by decide) rfl ?_
  clear hl; clear ls; intro ls hl
  obtain ⟨n, h⟩ := h
  refine letK_W (body := fun K => w_X0_layBar_L59 p x1 x2 v4 v8 K) (fun (x : Int32 × Int32 × Mm) => ∀ (H : Heap) (locs : List Loc) (ls : Array Slot), WO o (WA o) s s.heap H locs x.2.2 → lv_has ls 10 [(0, .ref (o.2.1 5 p)), (1, .int x1), (2, .int x2), (3, .int v4), (4, .int v8), (5, .int x.1)] → W p' l e rm_X0_layBar s m args below meth c H locs 0 0 (MQ below (QV o Q) args s 0 0 (WA o)) (F0 m 84 ls [])) h ?_ ?_
  · clear h hw hl; clear ls; intro x h H locs ls hw hl
    obtain ⟨v17, v18, M19⟩ := x
    replace hl : lv_has ls 10 [(0, .ref (o.2.1 5 p)), (1, .int x1), (2, .int x2), (3, .int v4), (4, .int v8), (5, .int v17)] := hl
    dsimp only at h hw
    refine lv_iload_n hx hb dX0_layBar_84 rfl (lv_at hl 2 rfl) ?_
    refine letJ_W (fun (x : Int32) => ∀ (H : Heap) (locs : List Loc) (ls : Array Slot), WO o (WA o) s s.heap H locs M19 → lv_has ls 10 [(0, .ref (o.2.1 5 p)), (1, .int x1), (2, .int x2), (3, .int v4), (4, .int v8), (5, .int v17)] → W p' l e rm_X0_layBar s m args below meth c H locs 0 0 (MQ below (QV o Q) args s 0 0 (WA o)) (F0 m 103 ls [.int x])) h ?_ ?_
    · clear h hw hl; clear ls; intro x h H locs ls hw hl
      obtain ⟨v20, rfl⟩ : ∃ z, z = x := ⟨_, rfl⟩
      replace hl : lv_has ls 10 [(0, .ref (o.2.1 5 p)), (1, .int x1), (2, .int x2), (3, .int v4), (4, .int v8), (5, .int v17)] := hl
      refine lv_istore (lv' := [(6, .int v20), (0, .ref (o.2.1 5 p)), (1, .int x1), (2, .int x2), (3, .int v4), (4, .int v8), (5, .int v17)]) hx hb dX0_layBar_103 hl (by decide) rfl ?_
      clear hl; clear ls; intro ls hl
      refine lv_iload hx hb dX0_layBar_105 (lv_at hl 0 rfl) ?_
      refine lv_bipush (v := (-9)) hx hb dX0_layBar_107 (by decide) ?_
      refine letJ_W (fun (x : Int32) => ∀ (H : Heap) (locs : List Loc) (ls : Array Slot), WO o (WA o) s s.heap H locs M19 → lv_has ls 10 [(0, .ref (o.2.1 5 p)), (1, .int x1), (2, .int x2), (3, .int v4), (4, .int v8), (5, .int v17), (6, .int v20)] → W p' l e rm_X0_layBar s m args below meth c H locs 0 0 (MQ below (QV o Q) args s 0 0 (WA o)) (F0 m 127 ls [.int x])) h ?_ ?_
      · clear h hw hl; clear ls; intro x h H locs ls hw hl
        obtain ⟨v22, rfl⟩ : ∃ z, z = x := ⟨_, rfl⟩
        replace hl : lv_has ls 10 [(0, .ref (o.2.1 5 p)), (1, .int x1), (2, .int x2), (3, .int v4), (4, .int v8), (5, .int v17), (6, .int v20)] := hl
        refine lv_istore (lv' := [(7, .int v22), (0, .ref (o.2.1 5 p)), (1, .int x1), (2, .int x2), (3, .int v4), (4, .int v8), (5, .int v17), (6, .int v20)]) hx hb dX0_layBar_127 hl (by decide) rfl ?_
        clear hl; clear ls; intro ls hl
        refine lv_iload hx hb dX0_layBar_129 (lv_at hl 0 rfl) ?_
        refine letJ_W (fun (x : Int32 × Mm) => ∀ (H : Heap) (locs : List Loc) (ls : Array Slot), WO o (WA o) s s.heap H locs x.2 → lv_has ls 10 [(0, .ref (o.2.1 5 p)), (1, .int x1), (2, .int x2), (3, .int v4), (4, .int v8)] → W p' l e rm_X0_layBar s m args below meth c H locs 0 0 (MQ below (QV o Q) args s 0 0 (WA o)) (F0 m 144 ls [.int x.1])) h ?_ ?_
        · clear h hw hl; clear ls; intro x h H locs ls hw hl
          obtain ⟨v24, M26⟩ := x
          replace hl : lv_has ls 10 [(0, .ref (o.2.1 5 p)), (1, .int x1), (2, .int x2), (3, .int v4), (4, .int v8)] := hl
          dsimp only at h
          dsimp only at hw
          refine lv_istore (lv' := [(8, .int v24), (0, .ref (o.2.1 5 p)), (1, .int x1), (2, .int x2), (3, .int v4), (4, .int v8)]) hx hb dX0_layBar_144 hl (by decide) rfl ?_
          clear hl; clear ls; intro ls hl
          refine lv_aload_n hx hb dX0_layBar_146 rfl (lv_at hl 1 rfl) ?_
          refine g_getf hx hb hts in_X0 hown hw 5 p (ci_5 hp) (bi_5 hp hn) rfl rfl 3 (by decide) kX0_28 rfl dX0_layBar_147 ?_
          refine lv_iload_n hx hb dX0_layBar_150 rfl (lv_at hl 2 rfl) ?_
          refine g_aldR hx hb hw hp hn h dX0_layBar_151 ?_
          clear h; intro k27 hk27 h
          refine lv_iload_n hx hb dX0_layBar_152 rfl (lv_at hl 3 rfl) ?_
          refine lv_iload hx hb dX0_layBar_153 (lv_at hl 0 rfl) ?_
          refine g_iast hx hb hw 12 (24 * p + k27) (ci_12 (r_48 hp hk27)) (bi_12 (r_48 hp hk27) hn) (fun _ => rfl) h dX0_layBar_155 ?_
          clear h hw; intro M28 H locs hw h
          refine lv_iload_n hx hb dX0_layBar_156 rfl (lv_at hl 4 rfl) ?_
          refine lv_istore (lv' := [(9, .int v4), (8, .int v24), (0, .ref (o.2.1 5 p)), (1, .int x1), (2, .int x2), (3, .int v4), (4, .int v8)]) hx hb dX0_layBar_157 hl (by decide) rfl ?_
          clear hl; clear ls; intro ls hl
          obtain ⟨n, h⟩ := h
          refine letK_W (body := fun K => w_X0_layBar_L159 p v8 v24 K) (fun (x : Int32 × Mm) => ∀ (H : Heap) (locs : List Loc) (ls : Array Slot), WO o (WA o) s s.heap H locs x.2 → lv_has ls 10 [] → W p' l e rm_X0_layBar s m args below meth c H locs 0 0 (MQ below (QV o Q) args s 0 0 (WA o)) (F0 m 186 ls [])) h ?_ ?_
          · clear h hw hl; clear ls; intro x h H locs ls hw hl
            obtain ⟨v36, M37⟩ := x
            replace hl : lv_has ls 10 [] := hl
            dsimp only at h hw
            exact g_vret hx hb hr hlocks hw h dX0_layBar_186
          clear h; intro K31 hK31 h
          refine loop_W (body := w_X0_layBar_L159 p v8 v24 K31) (fun (x : Int32 × Mm) => ∀ (H : Heap) (locs : List Loc) (ls : Array Slot), WO o (WA o) s s.heap H locs x.2 → lv_has ls 10 [(0, .ref (o.2.1 5 p)), (4, .int v8), (8, .int v24), (9, .int x.1)] → W p' l e rm_X0_layBar s m args below meth c H locs 0 0 (MQ below (QV o Q) args s 0 0 (WA o)) (F0 m 159 ls [])) ?_ n _ h _ _ _ hw (lv_sub hl [2, 6, 1, 0] rfl)
          clear h hw hl; clear ls; intro R32 x hR32 h H locs ls hw hl
          obtain ⟨v29, M30⟩ := x
          replace hl : lv_has ls 10 [(0, .ref (o.2.1 5 p)), (4, .int v8), (8, .int v24), (9, .int v29)] := hl
          dsimp only at hw
          unfold w_X0_layBar_L159 at h
          dsimp only at h
          refine lv_iload hx hb dX0_layBar_159 (lv_at hl 3 rfl) ?_
          refine lv_iload hx hb dX0_layBar_161 (lv_at hl 1 rfl) ?_
          refine g_icmp_gt (tgt := 186) hx hb h dX0_layBar_163 (by decide) ?_ ?_
          · clear h; intro h
            exact hK31 (v29, M30) h _ _ _ hw (lv_sub hl [] rfl)
          · clear h; intro h
            refine lv_aload_n hx hb dX0_layBar_166 rfl (lv_at hl 0 rfl) ?_
            refine g_getf hx hb hts in_X0 hown hw 5 p (ci_5 hp) (bi_5 hp hn) rfl rfl 5 (by decide) kX0_34 rfl dX0_layBar_167 ?_
            refine lv_iload hx hb dX0_layBar_170 (lv_at hl 3 rfl) ?_
            refine lv_dup2_11 hx hb dX0_layBar_172 rfl rfl ?_
            refine g_iald hx hb hw 9 p (ci_9 hp) (bi_9 hp hn) rfl h dX0_layBar_173 ?_
            clear h; intro v33 h
            refine lv_iconst (v := 1) hx hb dX0_layBar_174 (by decide) ?_
            refine lv_iload hx hb dX0_layBar_175 (lv_at hl 2 rfl) ?_
            refine lv_ishl hx hb dX0_layBar_177 ?_
            refine lv_ior hx hb dX0_layBar_178 ?_
            refine g_iast hx hb hw 9 p (ci_9 hp) (bi_9 hp hn) (fun _ => rfl) h dX0_layBar_179 ?_
            clear h hw; intro M34 H locs hw h
            refine g_iinc (k := 3) (v := (v29 + (1 : Int32))) (lv' := fun v35 => [(9, .int v35), (0, .ref (o.2.1 5 p)), (4, .int v8), (8, .int v24)]) hx hb dX0_layBar_180 hl rfl rfl (by decide) (fun _ => rfl) h ?_
            clear h hl; clear ls; intro v35 ls h hl
            refine lv_goto (tgt := 159) hx hb dX0_layBar_183 (by decide) ?_
            exact hR32 (v35, M34) h _ _ _ hw (lv_sub hl [1, 2, 3, 0] rfl)
        clear h; intro J25 hJ25 h
        refine g_if_eq (tgt := 139) hx hb h dX0_layBar_131 (by decide) ?_ ?_
        · clear h; intro h
          refine lv_iload hx hb dX0_layBar_139 (lv_at hl 6 rfl) ?_
          refine g_ci hw (g_runS (As := [.int v17]) (rest := []) hx hb hml hown hts mX0_smallestFree sX0_smallestFree kX0_111 hw (c_X0_smallestFree hn h) rfl rfl ⟨Nat.le_of_ble_eq_true rfl, Nat.le_of_ble_eq_true rfl⟩ rfl hl.1 rfl (Nat.le_of_ble_eq_true rfl) dX0_layBar_141 ⟨Nat.zero_le _, Nat.zero_le _⟩) ?_
          clear h hw; intro v39 M38 H locs hw h
          exact hJ25 (v39, M38) h _ _ _ hw (lv_sub hl [1, 2, 3, 4, 5] rfl)
        · clear h; intro h
          refine lv_iload hx hb dX0_layBar_134 (lv_at hl 7 rfl) ?_
          refine lv_goto (tgt := 144) hx hb dX0_layBar_136 (by decide) ?_
          exact hJ25 (v20, M19) h _ _ _ hw (lv_sub hl [1, 2, 3, 4, 5] rfl)
      clear h; intro J23 hJ23 h
      refine letJ_W (fun (x : Unit) => ∀ (H : Heap) (locs : List Loc) (ls : Array Slot), WO o (WA o) s s.heap H locs M19 → lv_has ls 10 [(0, .ref (o.2.1 5 p)), (1, .int x1), (2, .int x2), (3, .int v4), (4, .int v8), (5, .int v17), (6, .int v20)] → W p' l e rm_X0_layBar s m args below meth c H locs 0 0 (MQ below (QV o Q) args s 0 0 (WA o)) (F0 m 126 ls [])) h ?_ ?_
      · clear h hw hl; clear ls; intro x h H locs ls hw hl
        replace hl : lv_has ls 10 [(0, .ref (o.2.1 5 p)), (1, .int x1), (2, .int x2), (3, .int v4), (4, .int v8), (5, .int v17), (6, .int v20)] := hl
        refine lv_iconst (v := 0) hx hb dX0_layBar_126 (by decide) ?_
        exact hJ23 (0 : Int32) h _ _ _ hw (lv_sub hl [0, 1, 2, 3, 4, 5, 6] rfl)
      clear h; intro J40 hJ40 h
      refine g_icmp_eq (tgt := 126) hx hb h dX0_layBar_109 (by decide) ?_ ?_
      · clear h; intro h
        exact hJ40 () h _ _ _ hw (lv_sub hl [1, 2, 3, 4, 5, 6, 0] rfl)
      · clear h; intro h
        refine lv_iload hx hb dX0_layBar_112 (lv_at hl 6 rfl) ?_
        refine lv_iload hx hb dX0_layBar_114 (lv_at hl 0 rfl) ?_
        refine lv_ishr hx hb dX0_layBar_116 ?_
        refine lv_iconst (v := 1) hx hb dX0_layBar_117 (by decide) ?_
        refine lv_iand hx hb dX0_layBar_118 ?_
        refine g_if_ne (tgt := 126) hx hb h dX0_layBar_119 (by decide) ?_ ?_
        · clear h; intro h
          exact hJ40 () h _ _ _ hw (lv_sub hl [1, 2, 3, 4, 5, 6, 0] rfl)
        · clear h; intro h
          refine lv_iconst (v := 1) hx hb dX0_layBar_122 (by decide) ?_
          refine lv_goto (tgt := 127) hx hb dX0_layBar_123 (by decide) ?_
          exact hJ23 (1 : Int32) h _ _ _ hw (lv_sub hl [1, 2, 3, 4, 5, 6, 0] rfl)
    clear h; intro J21 hJ21 h
    refine g_if_le (tgt := 101) hx hb h dX0_layBar_85 (by decide) ?_ ?_
    · clear h; intro h
      refine lv_bipush (v := (-9)) hx hb dX0_layBar_101 (by decide) ?_
      exact hJ21 (-9 : Int32) h _ _ _ hw (lv_sub hl [0, 1, 2, 3, 4, 5] rfl)
    · clear h; intro h
      refine lv_aload_n hx hb dX0_layBar_88 rfl (lv_at hl 0 rfl) ?_
      refine g_getf hx hb hts in_X0 hown hw 5 p (ci_5 hp) (bi_5 hp hn) rfl rfl 3 (by decide) kX0_28 rfl dX0_layBar_89 ?_
      refine lv_iload_n hx hb dX0_layBar_92 rfl (lv_at hl 1 rfl) ?_
      refine g_aldR hx hb hw hp hn h dX0_layBar_93 ?_
      clear h; intro k41 hk41 h
      refine lv_iload_n hx hb dX0_layBar_94 rfl (lv_at hl 2 rfl) ?_
      refine lv_iconst (v := 1) hx hb dX0_layBar_95 (by decide) ?_
      refine lv_isub hx hb dX0_layBar_96 ?_
      refine g_iald hx hb hw 12 (24 * p + k41) (ci_12 (r_48 hp hk41)) (bi_12 (r_48 hp hk41) hn) rfl h dX0_layBar_97 ?_
      clear h; intro v42 h
      refine lv_goto (tgt := 103) hx hb dX0_layBar_98 (by decide) ?_
      exact hJ21 v42 h _ _ _ hw (lv_sub hl [0, 1, 2, 3, 4, 5] rfl)
  clear h; intro K12 hK12 h
  refine loop_W (body := w_X0_layBar_L59 p x1 x2 v4 v8 K12) (fun (x : Int32 × Int32 × Mm) => ∀ (H : Heap) (locs : List Loc) (ls : Array Slot), WO o (WA o) s s.heap H locs x.2.2 → lv_has ls 10 [(0, .ref (o.2.1 5 p)), (1, .int x1), (2, .int x2), (3, .int v4), (4, .int v8), (5, .int x.1), (6, .int x.2.1)] → W p' l e rm_X0_layBar s m args below meth c H locs 0 0 (MQ below (QV o Q) args s 0 0 (WA o)) (F0 m 59 ls [])) ?_ n _ h _ _ _ hw (lv_sub hl [4, 5, 6, 3, 2, 1, 0] rfl)
  clear h hw hl; clear ls; intro R13 x hR13 h H locs ls hw hl
  obtain ⟨v9, v10, M11⟩ := x
  replace hl : lv_has ls 10 [(0, .ref (o.2.1 5 p)), (1, .int x1), (2, .int x2), (3, .int v4), (4, .int v8), (5, .int v9), (6, .int v10)] := hl
  dsimp only at hw
  unfold w_X0_layBar_L59 at h
  dsimp only at h
  refine lv_iload hx hb dX0_layBar_59 (lv_at hl 6 rfl) ?_
  refine lv_iload hx hb dX0_layBar_61 (lv_at hl 4 rfl) ?_
  refine g_icmp_gt (tgt := 84) hx hb h dX0_layBar_63 (by decide) ?_ ?_
  · clear h; intro h
    exact hK12 (v9, v10, M11) h _ _ _ hw (lv_sub hl [0, 1, 2, 3, 4, 5] rfl)
  · clear h; intro h
    refine lv_iload hx hb dX0_layBar_66 (lv_at hl 5 rfl) ?_
    refine lv_aload_n hx hb dX0_layBar_68 rfl (lv_at hl 0 rfl) ?_
    refine g_getf hx hb hts in_X0 hown hw 5 p (ci_5 hp) (bi_5 hp hn) rfl rfl 5 (by decide) kX0_34 rfl dX0_layBar_69 ?_
    refine lv_iload hx hb dX0_layBar_72 (lv_at hl 6 rfl) ?_
    refine g_iald hx hb hw 9 p (ci_9 hp) (bi_9 hp hn) rfl h dX0_layBar_74 ?_
    clear h; intro v14 h
    refine lv_ior hx hb dX0_layBar_75 ?_
    refine g_topi h ?_
    clear h; intro v15 h
    refine lv_istore (lv' := [(5, .int v15), (0, .ref (o.2.1 5 p)), (1, .int x1), (2, .int x2), (3, .int v4), (4, .int v8), (6, .int v10)]) hx hb dX0_layBar_76 hl (by decide) rfl ?_
    clear hl; clear ls; intro ls hl
    refine g_iinc (k := 6) (v := (v10 + (1 : Int32))) (lv' := fun v16 => [(6, .int v16), (5, .int v15), (0, .ref (o.2.1 5 p)), (1, .int x1), (2, .int x2), (3, .int v4), (4, .int v8)]) hx hb dX0_layBar_78 hl rfl rfl (by decide) (fun _ => rfl) h ?_
    clear h hl; clear ls; intro v16 ls h hl
    refine lv_goto (tgt := 59) hx hb dX0_layBar_81 (by decide) ?_
    exact hR13 (v15, v16, M11) h _ _ _ hw (lv_sub hl [2, 3, 4, 5, 6, 1, 0] rfl)
abbrev rm_X0_isStackedBefore : Room := { frames := 0, cells := 0, slots := 0, locals := 0 }
set_option maxHeartbeats 4000000 in
set_option maxRecDepth 100000 in
theorem c_X0_isStackedBefore {o : Om} {l : Launch} (hn : 115 ≤ o.2.2.2) {p : Nat} (hp : p < 2) {M : Mm} {x1 : Int32} {x2 : Int32} {Q : Int32 → Mm → Prop} (h : w_X0_isStackedBefore p M x1 x2 Q) : CZ o l yX0_isStackedBefore cX0_isStackedBefore 3 rm_X0_isStackedBefore [.ref (o.2.1 5 p), .int x1, .int x2] M Q := by
  refine g_start (by decide +kernel) (Nat.le_of_ble_eq_true rfl) ?_
  intro p' e s m args below meth c hx hb hr hlocks hml hown hts hw ls hl
  replace hl : lv_has ls 3 [(0, .ref (o.2.1 5 p)), (1, .int x1), (2, .int x2)] := hl
  unfold w_X0_isStackedBefore at h
  refine lv_aload_n hx hb dX0_isStackedBefore_0 rfl (lv_at hl 0 rfl) ?_
  refine g_getf hx hb hts in_X0 hown hw 5 p (ci_5 hp) (bi_5 hp hn) rfl rfl 0 (by decide) kX0_12 rfl dX0_isStackedBefore_1 ?_
  refine g_getf hx hb hts in_X2 hown hw 11 p (ci_11 (Nat.lt_of_lt_of_le hp (by decide))) (bi_11 (Nat.lt_of_lt_of_le hp (by decide)) hn) rfl rfl 8 (by decide) kX0_99 rfl dX0_isStackedBefore_4 ?_
  refine lv_iload_n hx hb dX0_isStackedBefore_7 rfl (lv_at hl 1 rfl) ?_
  refine g_iald hx hb hw 16 p (ci_16 (Nat.lt_of_lt_of_le hp (by decide))) (bi_16 (Nat.lt_of_lt_of_le hp (by decide)) hn) rfl h dX0_isStackedBefore_8 ?_
  clear h; intro v1 h
  refine lv_aload_n hx hb dX0_isStackedBefore_9 rfl (lv_at hl 0 rfl) ?_
  refine g_getf hx hb hts in_X0 hown hw 5 p (ci_5 hp) (bi_5 hp hn) rfl rfl 0 (by decide) kX0_12 rfl dX0_isStackedBefore_10 ?_
  refine g_getf hx hb hts in_X2 hown hw 11 p (ci_11 (Nat.lt_of_lt_of_le hp (by decide))) (bi_11 (Nat.lt_of_lt_of_le hp (by decide)) hn) rfl rfl 8 (by decide) kX0_99 rfl dX0_isStackedBefore_13 ?_
  refine lv_iload_n hx hb dX0_isStackedBefore_16 rfl (lv_at hl 2 rfl) ?_
  refine g_iald hx hb hw 16 p (ci_16 (Nat.lt_of_lt_of_le hp (by decide))) (bi_16 (Nat.lt_of_lt_of_le hp (by decide)) hn) rfl h dX0_isStackedBefore_17 ?_
  clear h; intro v2 h
  refine g_icmp_eq (tgt := 48) hx hb h dX0_isStackedBefore_18 (by decide) ?_ ?_
  · clear h; intro h
    refine lv_aload_n hx hb dX0_isStackedBefore_48 rfl (lv_at hl 0 rfl) ?_
    refine g_getf hx hb hts in_X0 hown hw 5 p (ci_5 hp) (bi_5 hp hn) rfl rfl 0 (by decide) kX0_12 rfl dX0_isStackedBefore_49 ?_
    refine g_getf hx hb hts in_X2 hown hw 11 p (ci_11 (Nat.lt_of_lt_of_le hp (by decide))) (bi_11 (Nat.lt_of_lt_of_le hp (by decide)) hn) rfl rfl 7 (by decide) kX0_118 rfl dX0_isStackedBefore_52 ?_
    refine lv_iload_n hx hb dX0_isStackedBefore_55 rfl (lv_at hl 1 rfl) ?_
    refine g_iald hx hb hw 15 p (ci_15 (Nat.lt_of_lt_of_le hp (by decide))) (bi_15 (Nat.lt_of_lt_of_le hp (by decide)) hn) rfl h dX0_isStackedBefore_56 ?_
    clear h; intro v3 h
    refine lv_aload_n hx hb dX0_isStackedBefore_57 rfl (lv_at hl 0 rfl) ?_
    refine g_getf hx hb hts in_X0 hown hw 5 p (ci_5 hp) (bi_5 hp hn) rfl rfl 0 (by decide) kX0_12 rfl dX0_isStackedBefore_58 ?_
    refine g_getf hx hb hts in_X2 hown hw 11 p (ci_11 (Nat.lt_of_lt_of_le hp (by decide))) (bi_11 (Nat.lt_of_lt_of_le hp (by decide)) hn) rfl rfl 7 (by decide) kX0_118 rfl dX0_isStackedBefore_61 ?_
    refine lv_iload_n hx hb dX0_isStackedBefore_64 rfl (lv_at hl 2 rfl) ?_
    refine g_iald hx hb hw 15 p (ci_15 (Nat.lt_of_lt_of_le hp (by decide))) (bi_15 (Nat.lt_of_lt_of_le hp (by decide)) hn) rfl h dX0_isStackedBefore_65 ?_
    clear h; intro v4 h
    refine g_icmp_ge (tgt := 73) hx hb h dX0_isStackedBefore_66 (by decide) ?_ ?_
    · clear h; intro h
      refine lv_iconst (v := 0) hx hb dX0_isStackedBefore_73 (by decide) ?_
      exact g_zret hx hb hr hlocks hw (Or.inl rfl) h dX0_isStackedBefore_74
    · clear h; intro h
      refine lv_iconst (v := 1) hx hb dX0_isStackedBefore_69 (by decide) ?_
      refine lv_goto (tgt := 74) hx hb dX0_isStackedBefore_70 (by decide) ?_
      exact g_zret hx hb hr hlocks hw (Or.inr rfl) h dX0_isStackedBefore_74
  · clear h; intro h
    refine lv_aload_n hx hb dX0_isStackedBefore_21 rfl (lv_at hl 0 rfl) ?_
    refine g_getf hx hb hts in_X0 hown hw 5 p (ci_5 hp) (bi_5 hp hn) rfl rfl 0 (by decide) kX0_12 rfl dX0_isStackedBefore_22 ?_
    refine g_getf hx hb hts in_X2 hown hw 11 p (ci_11 (Nat.lt_of_lt_of_le hp (by decide))) (bi_11 (Nat.lt_of_lt_of_le hp (by decide)) hn) rfl rfl 8 (by decide) kX0_99 rfl dX0_isStackedBefore_25 ?_
    refine lv_iload_n hx hb dX0_isStackedBefore_28 rfl (lv_at hl 1 rfl) ?_
    refine g_iald hx hb hw 16 p (ci_16 (Nat.lt_of_lt_of_le hp (by decide))) (bi_16 (Nat.lt_of_lt_of_le hp (by decide)) hn) rfl h dX0_isStackedBefore_29 ?_
    clear h; intro v5 h
    refine lv_aload_n hx hb dX0_isStackedBefore_30 rfl (lv_at hl 0 rfl) ?_
    refine g_getf hx hb hts in_X0 hown hw 5 p (ci_5 hp) (bi_5 hp hn) rfl rfl 0 (by decide) kX0_12 rfl dX0_isStackedBefore_31 ?_
    refine g_getf hx hb hts in_X2 hown hw 11 p (ci_11 (Nat.lt_of_lt_of_le hp (by decide))) (bi_11 (Nat.lt_of_lt_of_le hp (by decide)) hn) rfl rfl 8 (by decide) kX0_99 rfl dX0_isStackedBefore_34 ?_
    refine lv_iload_n hx hb dX0_isStackedBefore_37 rfl (lv_at hl 2 rfl) ?_
    refine g_iald hx hb hw 16 p (ci_16 (Nat.lt_of_lt_of_le hp (by decide))) (bi_16 (Nat.lt_of_lt_of_le hp (by decide)) hn) rfl h dX0_isStackedBefore_38 ?_
    clear h; intro v6 h
    refine g_icmp_le (tgt := 46) hx hb h dX0_isStackedBefore_39 (by decide) ?_ ?_
    · clear h; intro h
      refine lv_iconst (v := 0) hx hb dX0_isStackedBefore_46 (by decide) ?_
      exact g_zret hx hb hr hlocks hw (Or.inl rfl) h dX0_isStackedBefore_47
    · clear h; intro h
      refine lv_iconst (v := 1) hx hb dX0_isStackedBefore_42 (by decide) ?_
      refine lv_goto (tgt := 47) hx hb dX0_isStackedBefore_43 (by decide) ?_
      exact g_zret hx hb hr hlocks hw (Or.inr rfl) h dX0_isStackedBefore_47
abbrev rm_X0_orderShortOnes : Room := { frames := 1, cells := 0, slots := 0, locals := 23 }
set_option maxHeartbeats 4000000 in
set_option maxRecDepth 100000 in
theorem c_X0_orderShortOnes {o : Om} {l : Launch} (hn : 115 ≤ o.2.2.2) {p : Nat} (hp : p < 2) {M : Mm} {Q : Mm → Prop} (h : w_X0_orderShortOnes p M Q) : CV o l yX0_orderShortOnes cX0_orderShortOnes 3 rm_X0_orderShortOnes [.ref (o.2.1 5 p)] M Q := by
  refine g_start (by decide +kernel) (Nat.le_of_ble_eq_true rfl) ?_
  intro p' e s m args below meth c hx hb hr hlocks hml hown hts hw ls hl
  replace hl : lv_has ls 3 [(0, .ref (o.2.1 5 p))] := hl
  unfold w_X0_orderShortOnes at h
  refine lv_aload_n hx hb dX0_orderShortOnes_0 rfl (lv_at hl 0 rfl) ?_
  refine lv_iconst (v := 0) hx hb dX0_orderShortOnes_1 (by decide) ?_
  refine g_putf hx hb hts in_X0 tyX0 tyX0_ok nmX0 hown hw 5 p (ci_5 hp) (bi_5 hp hn) rfl 7 (by decide) rfl rfl kX0_40 (by decide +kernel) (by decide +kernel) (by simp) h dX0_orderShortOnes_2 ?_
  clear h hw; intro M1 H locs hw h
  refine lv_iconst (v := 0) hx hb dX0_orderShortOnes_5 (by decide) ?_
  refine lv_istore_n (lv' := [(1, .int (0 : Int32)), (0, .ref (o.2.1 5 p))]) hx hb dX0_orderShortOnes_6 rfl hl (by decide) rfl ?_
  clear hl; clear ls; intro ls hl
  obtain ⟨n, h⟩ := h
  refine letK_W (body := fun K => w_X0_orderShortOnes_L7 p K) (fun (x : Int32 × Mm) => ∀ (H : Heap) (locs : List Loc) (ls : Array Slot), WO o (WA o) s s.heap H locs x.2 → lv_has ls 3 [] → W p' l e rm_X0_orderShortOnes s m args below meth c H locs 0 0 (MQ below (QV o Q) args s 0 0 (WA o)) (F0 m 122 ls [])) h ?_ ?_
  · clear h hw hl; clear ls; intro x h H locs ls hw hl
    obtain ⟨v28, M29⟩ := x
    replace hl : lv_has ls 3 [] := hl
    dsimp only at h hw
    exact g_vret hx hb hr hlocks hw h dX0_orderShortOnes_122
  clear h; intro K4 hK4 h
  refine loop_W (body := w_X0_orderShortOnes_L7 p K4) (fun (x : Int32 × Mm) => ∀ (H : Heap) (locs : List Loc) (ls : Array Slot), WO o (WA o) s s.heap H locs x.2 → lv_has ls 3 [(0, .ref (o.2.1 5 p)), (1, .int x.1)] → W p' l e rm_X0_orderShortOnes s m args below meth c H locs 0 0 (MQ below (QV o Q) args s 0 0 (WA o)) (F0 m 7 ls [])) ?_ n _ h _ _ _ hw (lv_sub hl [1, 0] rfl)
  clear h hw hl; clear ls; intro R5 x hR5 h H locs ls hw hl
  obtain ⟨v2, M3⟩ := x
  replace hl : lv_has ls 3 [(0, .ref (o.2.1 5 p)), (1, .int v2)] := hl
  dsimp only at hw
  unfold w_X0_orderShortOnes_L7 at h
  dsimp only at h
  refine lv_iload_n hx hb dX0_orderShortOnes_7 rfl (lv_at hl 1 rfl) ?_
  refine lv_aload_n hx hb dX0_orderShortOnes_8 rfl (lv_at hl 0 rfl) ?_
  refine g_getf hx hb hts in_X0 hown hw 5 p (ci_5 hp) (bi_5 hp hn) rfl rfl 0 (by decide) kX0_12 rfl dX0_orderShortOnes_9 ?_
  refine g_getf hx hb hts in_X2 hown hw 11 p (ci_11 (Nat.lt_of_lt_of_le hp (by decide))) (bi_11 (Nat.lt_of_lt_of_le hp (by decide)) hn) rfl rfl 4 (by decide) kX0_72 rfl dX0_orderShortOnes_12 ?_
  refine g_icmp_ge (tgt := 122) hx hb h dX0_orderShortOnes_15 (by decide) ?_ ?_
  · clear h; intro h
    exact hK4 (v2, M3) h _ _ _ hw (lv_sub hl [] rfl)
  · clear h; intro h
    refine lv_aload_n hx hb dX0_orderShortOnes_18 rfl (lv_at hl 0 rfl) ?_
    refine g_getf hx hb hts in_X0 hown hw 5 p (ci_5 hp) (bi_5 hp hn) rfl rfl 0 (by decide) kX0_12 rfl dX0_orderShortOnes_19 ?_
    refine lv_iload_n hx hb dX0_orderShortOnes_22 rfl (lv_at hl 1 rfl) ?_
    refine g_cz hw (g_runV (As := [.int v2]) (rest := []) hx hb hml hown hts mX2_isLong vX2_isLong kX0_75 hw 11 p (ci_11 (Nat.lt_of_lt_of_le hp (by decide))) (bi_11 (Nat.lt_of_lt_of_le hp (by decide)) hn) rfl rfl (c_X2_isLong hn (Nat.lt_of_lt_of_le hp (by decide)) h) rfl rfl ⟨Nat.le_of_ble_eq_true rfl, Nat.le_of_ble_eq_true rfl⟩ rfl hl.1 rfl (Nat.le_of_ble_eq_true rfl) dX0_orderShortOnes_23 ⟨Nat.zero_le _, Nat.zero_le _⟩) ?_
    clear h hw; intro v7 M6 H locs hw hz_v7 h
    refine g_if_ne (tgt := 116) hx hb h dX0_orderShortOnes_26 (by decide) ?_ ?_
    · clear h; intro h
      refine g_iinc (k := 1) (v := (v2 + (1 : Int32))) (lv' := fun v8 => [(1, .int v8), (0, .ref (o.2.1 5 p))]) hx hb dX0_orderShortOnes_116 hl rfl rfl (by decide) (fun _ => rfl) h ?_
      clear h hl; clear ls; intro v8 ls h hl
      refine lv_goto (tgt := 7) hx hb dX0_orderShortOnes_119 (by decide) ?_
      exact hR5 (v8, M6) h _ _ _ hw (lv_sub hl [1, 0] rfl)
    · clear h; intro h
      refine lv_aload_n hx hb dX0_orderShortOnes_29 rfl (lv_at hl 0 rfl) ?_
      refine g_getf hx hb hts in_X0 hown hw 5 p (ci_5 hp) (bi_5 hp hn) rfl rfl 0 (by decide) kX0_12 rfl dX0_orderShortOnes_30 ?_
      refine lv_iload_n hx hb dX0_orderShortOnes_33 rfl (lv_at hl 1 rfl) ?_
      refine lv_aload_n hx hb dX0_orderShortOnes_34 rfl (lv_at hl 0 rfl) ?_
      refine g_getf hx hb hts in_X0 hown hw 5 p (ci_5 hp) (bi_5 hp hn) rfl rfl 0 (by decide) kX0_12 rfl dX0_orderShortOnes_35 ?_
      refine g_getf hx hb hts in_X2 hown hw 11 p (ci_11 (Nat.lt_of_lt_of_le hp (by decide))) (bi_11 (Nat.lt_of_lt_of_le hp (by decide)) hn) rfl rfl 0 (by decide) kX0_63 rfl dX0_orderShortOnes_38 ?_
      refine lv_aload_n hx hb dX0_orderShortOnes_41 rfl (lv_at hl 0 rfl) ?_
      refine g_getf hx hb hts in_X0 hown hw 5 p (ci_5 hp) (bi_5 hp hn) rfl rfl 0 (by decide) kX0_12 rfl dX0_orderShortOnes_42 ?_
      refine g_getf hx hb hts in_X2 hown hw 11 p (ci_11 (Nat.lt_of_lt_of_le hp (by decide))) (bi_11 (Nat.lt_of_lt_of_le hp (by decide)) hn) rfl rfl 1 (by decide) kX0_66 rfl dX0_orderShortOnes_45 ?_
      refine g_cz hw (g_runV (As := [.int v2, .int (M6 11 p 0), .int (M6 11 p 1)]) (rest := []) hx hb hml hown hts mX2_meets vX2_meets kX0_86 hw 11 p (ci_11 (Nat.lt_of_lt_of_le hp (by decide))) (bi_11 (Nat.lt_of_lt_of_le hp (by decide)) hn) rfl rfl (c_X2_meets hn (Nat.lt_of_lt_of_le hp (by decide)) h) rfl rfl ⟨Nat.le_of_ble_eq_true rfl, Nat.le_of_ble_eq_true rfl⟩ rfl hl.1 rfl (Nat.le_of_ble_eq_true rfl) dX0_orderShortOnes_48 ⟨Nat.zero_le _, Nat.zero_le _⟩) ?_
      clear h hw; intro v10 M9 H locs hw hz_v10 h
      refine g_if_eq (tgt := 116) hx hb h dX0_orderShortOnes_51 (by decide) ?_ ?_
      · clear h; intro h
        refine g_iinc (k := 1) (v := (v2 + (1 : Int32))) (lv' := fun v11 => [(1, .int v11), (0, .ref (o.2.1 5 p))]) hx hb dX0_orderShortOnes_116 hl rfl rfl (by decide) (fun _ => rfl) h ?_
        clear h hl; clear ls; intro v11 ls h hl
        refine lv_goto (tgt := 7) hx hb dX0_orderShortOnes_119 (by decide) ?_
        exact hR5 (v11, M9) h _ _ _ hw (lv_sub hl [1, 0] rfl)
      · clear h; intro h
        refine lv_aload_n hx hb dX0_orderShortOnes_54 rfl (lv_at hl 0 rfl) ?_
        refine g_getf hx hb hts in_X0 hown hw 5 p (ci_5 hp) (bi_5 hp hn) rfl rfl 7 (by decide) kX0_40 rfl dX0_orderShortOnes_55 ?_
        refine g_topi h ?_
        clear h; intro v12 h
        refine lv_istore_n (lv' := [(2, .int v12), (0, .ref (o.2.1 5 p)), (1, .int v2)]) hx hb dX0_orderShortOnes_58 rfl hl (by decide) rfl ?_
        clear hl; clear ls; intro ls hl
        obtain ⟨n, h⟩ := h
        refine letK_W (body := fun K => w_X0_orderShortOnes_L59 p v2 K) (fun (x : Int32 × Mm) => ∀ (H : Heap) (locs : List Loc) (ls : Array Slot), WO o (WA o) s s.heap H locs x.2 → lv_has ls 3 [(0, .ref (o.2.1 5 p)), (1, .int v2), (2, .int x.1)] → W p' l e rm_X0_orderShortOnes s m args below meth c H locs 0 0 (MQ below (QV o Q) args s 0 0 (WA o)) (F0 m 99 ls [])) h ?_ ?_
        · clear h hw hl; clear ls; intro x h H locs ls hw hl
          obtain ⟨v23, M24⟩ := x
          replace hl : lv_has ls 3 [(0, .ref (o.2.1 5 p)), (1, .int v2), (2, .int v23)] := hl
          dsimp only at h hw
          refine lv_aload_n hx hb dX0_orderShortOnes_99 rfl (lv_at hl 0 rfl) ?_
          refine g_getf hx hb hts in_X0 hown hw 5 p (ci_5 hp) (bi_5 hp hn) rfl rfl 6 (by decide) kX0_37 rfl dX0_orderShortOnes_100 ?_
          refine lv_iload_n hx hb dX0_orderShortOnes_103 rfl (lv_at hl 2 rfl) ?_
          refine lv_iload_n hx hb dX0_orderShortOnes_104 rfl (lv_at hl 1 rfl) ?_
          refine g_iast hx hb hw 10 p (ci_10 hp) (bi_10 hp hn) (fun _ => rfl) h dX0_orderShortOnes_105 ?_
          clear h hw; intro M25 H locs hw h
          refine lv_aload_n hx hb dX0_orderShortOnes_106 rfl (lv_at hl 0 rfl) ?_
          refine lv_dup hx hb dX0_orderShortOnes_107 rfl ?_
          refine g_getf hx hb hts in_X0 hown hw 5 p (ci_5 hp) (bi_5 hp hn) rfl rfl 7 (by decide) kX0_40 rfl dX0_orderShortOnes_108 ?_
          refine lv_iconst (v := 1) hx hb dX0_orderShortOnes_111 (by decide) ?_
          refine lv_iadd hx hb dX0_orderShortOnes_112 ?_
          refine g_putf hx hb hts in_X0 tyX0 tyX0_ok nmX0 hown hw 5 p (ci_5 hp) (bi_5 hp hn) rfl 7 (by decide) rfl rfl kX0_40 (by decide +kernel) (by decide +kernel) (by simp) h dX0_orderShortOnes_113 ?_
          clear h hw; intro M26 H locs hw h
          refine g_iinc (k := 1) (v := (v2 + (1 : Int32))) (lv' := fun v27 => [(1, .int v27), (0, .ref (o.2.1 5 p)), (2, .int v23)]) hx hb dX0_orderShortOnes_116 hl rfl rfl (by decide) (fun _ => rfl) h ?_
          clear h hl; clear ls; intro v27 ls h hl
          refine lv_goto (tgt := 7) hx hb dX0_orderShortOnes_119 (by decide) ?_
          exact hR5 (v27, M26) h _ _ _ hw (lv_sub hl [1, 0] rfl)
        clear h; intro K15 hK15 h
        refine loop_W (body := w_X0_orderShortOnes_L59 p v2 K15) (fun (x : Int32 × Mm) => ∀ (H : Heap) (locs : List Loc) (ls : Array Slot), WO o (WA o) s s.heap H locs x.2 → lv_has ls 3 [(0, .ref (o.2.1 5 p)), (1, .int v2), (2, .int x.1)] → W p' l e rm_X0_orderShortOnes s m args below meth c H locs 0 0 (MQ below (QV o Q) args s 0 0 (WA o)) (F0 m 59 ls [])) ?_ n _ h _ _ _ hw (lv_sub hl [1, 2, 0] rfl)
        clear h hw hl; clear ls; intro R16 x hR16 h H locs ls hw hl
        obtain ⟨v13, M14⟩ := x
        replace hl : lv_has ls 3 [(0, .ref (o.2.1 5 p)), (1, .int v2), (2, .int v13)] := hl
        dsimp only at hw
        unfold w_X0_orderShortOnes_L59 at h
        dsimp only at h
        refine lv_iload_n hx hb dX0_orderShortOnes_59 rfl (lv_at hl 2 rfl) ?_
        refine g_if_le (tgt := 99) hx hb h dX0_orderShortOnes_60 (by decide) ?_ ?_
        · clear h; intro h
          exact hK15 (v13, M14) h _ _ _ hw (lv_sub hl [0, 1, 2] rfl)
        · clear h; intro h
          refine lv_aload_n hx hb dX0_orderShortOnes_63 rfl (lv_at hl 0 rfl) ?_
          refine lv_iload_n hx hb dX0_orderShortOnes_64 rfl (lv_at hl 1 rfl) ?_
          refine lv_aload_n hx hb dX0_orderShortOnes_65 rfl (lv_at hl 0 rfl) ?_
          refine g_getf hx hb hts in_X0 hown hw 5 p (ci_5 hp) (bi_5 hp hn) rfl rfl 6 (by decide) kX0_37 rfl dX0_orderShortOnes_66 ?_
          refine lv_iload_n hx hb dX0_orderShortOnes_69 rfl (lv_at hl 2 rfl) ?_
          refine lv_iconst (v := 1) hx hb dX0_orderShortOnes_70 (by decide) ?_
          refine lv_isub hx hb dX0_orderShortOnes_71 ?_
          refine g_iald hx hb hw 10 p (ci_10 hp) (bi_10 hp hn) rfl h dX0_orderShortOnes_72 ?_
          clear h; intro v17 h
          refine g_cz hw (g_runV (As := [.int v2, .int v17]) (rest := []) hx hb hml hown hts mX0_isStackedBefore vX0_isStackedBefore kX0_114 hw 5 p (ci_5 hp) (bi_5 hp hn) rfl rfl (c_X0_isStackedBefore hn hp h) rfl rfl ⟨Nat.le_of_ble_eq_true rfl, Nat.le_of_ble_eq_true rfl⟩ rfl hl.1 rfl (Nat.le_of_ble_eq_true rfl) dX0_orderShortOnes_73 ⟨Nat.zero_le _, Nat.zero_le _⟩) ?_
          clear h hw; intro v19 M18 H locs hw hz_v19 h
          refine g_if_eq (tgt := 99) hx hb h dX0_orderShortOnes_76 (by decide) ?_ ?_
          · clear h; intro h
            exact hK15 (v13, M18) h _ _ _ hw (lv_sub hl [0, 1, 2] rfl)
          · clear h; intro h
            refine lv_aload_n hx hb dX0_orderShortOnes_79 rfl (lv_at hl 0 rfl) ?_
            refine g_getf hx hb hts in_X0 hown hw 5 p (ci_5 hp) (bi_5 hp hn) rfl rfl 6 (by decide) kX0_37 rfl dX0_orderShortOnes_80 ?_
            refine lv_iload_n hx hb dX0_orderShortOnes_83 rfl (lv_at hl 2 rfl) ?_
            refine lv_aload_n hx hb dX0_orderShortOnes_84 rfl (lv_at hl 0 rfl) ?_
            refine g_getf hx hb hts in_X0 hown hw 5 p (ci_5 hp) (bi_5 hp hn) rfl rfl 6 (by decide) kX0_37 rfl dX0_orderShortOnes_85 ?_
            refine lv_iload_n hx hb dX0_orderShortOnes_88 rfl (lv_at hl 2 rfl) ?_
            refine lv_iconst (v := 1) hx hb dX0_orderShortOnes_89 (by decide) ?_
            refine lv_isub hx hb dX0_orderShortOnes_90 ?_
            refine g_iald hx hb hw 10 p (ci_10 hp) (bi_10 hp hn) rfl h dX0_orderShortOnes_91 ?_
            clear h; intro v20 h
            refine g_iast hx hb hw 10 p (ci_10 hp) (bi_10 hp hn) (fun _ => rfl) h dX0_orderShortOnes_92 ?_
            clear h hw; intro M21 H locs hw h
            refine g_iinc (k := 2) (v := (v13 + (-1 : Int32))) (lv' := fun v22 => [(2, .int v22), (0, .ref (o.2.1 5 p)), (1, .int v2)]) hx hb dX0_orderShortOnes_93 hl rfl rfl (by decide) (fun _ => rfl) h ?_
            clear h hl; clear ls; intro v22 ls h hl
            refine lv_goto (tgt := 59) hx hb dX0_orderShortOnes_96 (by decide) ?_
            exact hR16 (v22, M21) h _ _ _ hw (lv_sub hl [1, 2, 0] rfl)
abbrev rm_X0_stack : Room := { frames := 1, cells := 0, slots := 0, locals := 21 }
set_option maxHeartbeats 4000000 in
set_option maxRecDepth 100000 in
theorem c_X0_stack {o : Om} {l : Launch} (hn : 115 ≤ o.2.2.2) {p : Nat} (hp : p < 2) {M : Mm} {x1 : Int32} {Q : Mm → Prop} (h : w_X0_stack p M x1 Q) : CV o l yX0_stack cX0_stack 4 rm_X0_stack [.ref (o.2.1 5 p), .int x1] M Q := by
  refine g_start (by decide +kernel) (Nat.le_of_ble_eq_true rfl) ?_
  intro p' e s m args below meth c hx hb hr hlocks hml hown hts hw ls hl
  replace hl : lv_has ls 4 [(0, .ref (o.2.1 5 p)), (1, .int x1)] := hl
  unfold w_X0_stack at h
  refine lv_aload_n hx hb dX0_stack_0 rfl (lv_at hl 0 rfl) ?_
  refine g_getf hx hb hts in_X0 hown hw 5 p (ci_5 hp) (bi_5 hp hn) rfl rfl 0 (by decide) kX0_12 rfl dX0_stack_1 ?_
  refine g_getf hx hb hts in_X2 hown hw 11 p (ci_11 (Nat.lt_of_lt_of_le hp (by decide))) (bi_11 (Nat.lt_of_lt_of_le hp (by decide)) hn) rfl rfl 5 (by decide) kX0_93 rfl dX0_stack_4 ?_
  refine lv_iload_n hx hb dX0_stack_7 rfl (lv_at hl 1 rfl) ?_
  refine g_iald hx hb hw 13 p (ci_13 (Nat.lt_of_lt_of_le hp (by decide))) (bi_13 (Nat.lt_of_lt_of_le hp (by decide)) hn) rfl h dX0_stack_8 ?_
  clear h; intro v1 h
  refine lv_aload_n hx hb dX0_stack_9 rfl (lv_at hl 0 rfl) ?_
  refine g_getf hx hb hts in_X0 hown hw 5 p (ci_5 hp) (bi_5 hp hn) rfl rfl 0 (by decide) kX0_12 rfl dX0_stack_10 ?_
  refine g_getf hx hb hts in_X2 hown hw 11 p (ci_11 (Nat.lt_of_lt_of_le hp (by decide))) (bi_11 (Nat.lt_of_lt_of_le hp (by decide)) hn) rfl rfl 0 (by decide) kX0_63 rfl dX0_stack_13 ?_
  refine lv_isub hx hb dX0_stack_16 ?_
  refine g_topi h ?_
  clear h; intro v2 h
  refine lv_istore_n (lv' := [(2, .int v2), (0, .ref (o.2.1 5 p)), (1, .int x1)]) hx hb dX0_stack_17 rfl hl (by decide) rfl ?_
  clear hl; clear ls; intro ls hl
  refine lv_aload_n hx hb dX0_stack_18 rfl (lv_at hl 1 rfl) ?_
  refine g_getf hx hb hts in_X0 hown hw 5 p (ci_5 hp) (bi_5 hp hn) rfl rfl 5 (by decide) kX0_34 rfl dX0_stack_19 ?_
  refine lv_iload_n hx hb dX0_stack_22 rfl (lv_at hl 0 rfl) ?_
  refine g_iald hx hb hw 9 p (ci_9 hp) (bi_9 hp hn) rfl h dX0_stack_23 ?_
  clear h; intro v3 h
  refine g_ci hw (g_runS (As := [.int v3]) (rest := []) hx hb hml hown hts mX0_smallestFree sX0_smallestFree kX0_111 hw (c_X0_smallestFree hn h) rfl rfl ⟨Nat.le_of_ble_eq_true rfl, Nat.le_of_ble_eq_true rfl⟩ rfl hl.1 rfl (Nat.le_of_ble_eq_true rfl) dX0_stack_24 ⟨Nat.zero_le _, Nat.zero_le _⟩) ?_
  clear h hw; intro v5 M4 H locs hw h
  refine lv_istore_n (lv' := [(3, .int v5), (2, .int v2), (0, .ref (o.2.1 5 p)), (1, .int x1)]) hx hb dX0_stack_27 rfl hl (by decide) rfl ?_
  clear hl; clear ls; intro ls hl
  refine lv_aload_n hx hb dX0_stack_28 rfl (lv_at hl 2 rfl) ?_
  refine g_getf hx hb hts in_X0 hown hw 5 p (ci_5 hp) (bi_5 hp hn) rfl rfl 4 (by decide) kX0_31 rfl dX0_stack_29 ?_
  refine lv_iload_n hx hb dX0_stack_32 rfl (lv_at hl 3 rfl) ?_
  refine lv_iload_n hx hb dX0_stack_33 rfl (lv_at hl 0 rfl) ?_
  refine g_iast hx hb hw 8 p (ci_8 hp) (bi_8 hp hn) (fun _ => rfl) h dX0_stack_34 ?_
  clear h hw; intro M6 H locs hw h
  refine lv_aload_n hx hb dX0_stack_35 rfl (lv_at hl 2 rfl) ?_
  refine g_getf hx hb hts in_X0 hown hw 5 p (ci_5 hp) (bi_5 hp hn) rfl rfl 5 (by decide) kX0_34 rfl dX0_stack_36 ?_
  refine lv_iload_n hx hb dX0_stack_39 rfl (lv_at hl 1 rfl) ?_
  refine lv_dup2_11 hx hb dX0_stack_40 rfl rfl ?_
  refine g_iald hx hb hw 9 p (ci_9 hp) (bi_9 hp hn) rfl h dX0_stack_41 ?_
  clear h; intro v7 h
  refine lv_iconst (v := 1) hx hb dX0_stack_42 (by decide) ?_
  refine lv_iload_n hx hb dX0_stack_43 rfl (lv_at hl 0 rfl) ?_
  refine lv_ishl hx hb dX0_stack_44 ?_
  refine lv_ior hx hb dX0_stack_45 ?_
  refine g_iast hx hb hw 9 p (ci_9 hp) (bi_9 hp hn) (fun _ => rfl) h dX0_stack_46 ?_
  clear h hw; intro M8 H locs hw h
  exact g_vret hx hb hr hlocks hw h dX0_stack_47
abbrev rm_X0_lay : Room := { frames := 3, cells := 0, slots := 0, locals := 69 }
set_option maxHeartbeats 4000000 in
set_option maxRecDepth 100000 in
theorem c_X0_lay {o : Om} {l : Launch} (hn : 115 ≤ o.2.2.2) {p : Nat} (hp : p < 2) {M : Mm} {Q : Mm → Prop} (h : w_X0_lay p M Q) : CV o l yX0_lay cX0_lay 3 rm_X0_lay [.ref (o.2.1 5 p)] M Q := by
  refine g_start (by decide +kernel) (Nat.le_of_ble_eq_true rfl) ?_
  intro p' e s m args below meth c hx hb hr hlocks hml hown hts hw ls hl
  replace hl : lv_has ls 3 [(0, .ref (o.2.1 5 p))] := hl
  unfold w_X0_lay at h
  refine lv_aload_n hx hb dX0_lay_0 rfl (lv_at hl 0 rfl) ?_
  refine g_cv hw (g_runV (As := []) (rest := []) hx hb hml hown hts mX0_cutWeeks vX0_cutWeeks kX0_43 hw 5 p (ci_5 hp) (bi_5 hp hn) rfl rfl (c_X0_cutWeeks hn hp h) rfl rfl ⟨Nat.le_of_ble_eq_true rfl, Nat.le_of_ble_eq_true rfl⟩ rfl hl.1 rfl (Nat.le_of_ble_eq_true rfl) dX0_lay_1 ⟨Nat.zero_le _, Nat.zero_le _⟩) ?_
  clear h hw; intro M1 H locs hw h
  refine lv_aload_n hx hb dX0_lay_4 rfl (lv_at hl 0 rfl) ?_
  refine g_cv hw (g_runV (As := []) (rest := []) hx hb hml hown hts mX0_wipe vX0_wipe kX0_46 hw 5 p (ci_5 hp) (bi_5 hp hn) rfl rfl (c_X0_wipe hn hp h) rfl rfl ⟨Nat.le_of_ble_eq_true rfl, Nat.le_of_ble_eq_true rfl⟩ rfl hl.1 rfl (Nat.le_of_ble_eq_true rfl) dX0_lay_5 ⟨Nat.zero_le _, Nat.zero_le _⟩) ?_
  clear h hw; intro M2 H locs hw h
  refine lv_iconst (v := 0) hx hb dX0_lay_8 (by decide) ?_
  refine lv_istore_n (lv' := [(1, .int (0 : Int32)), (0, .ref (o.2.1 5 p))]) hx hb dX0_lay_9 rfl hl (by decide) rfl ?_
  clear hl; clear ls; intro ls hl
  obtain ⟨n, h⟩ := h
  refine letK_W (body := fun K => w_X0_lay_L10 p K) (fun (x : Int32 × Mm) => ∀ (H : Heap) (locs : List Loc) (ls : Array Slot), WO o (WA o) s s.heap H locs x.2 → lv_has ls 3 [(0, .ref (o.2.1 5 p))] → W p' l e rm_X0_lay s m args below meth c H locs 0 0 (MQ below (QV o Q) args s 0 0 (WA o)) (F0 m 56 ls [])) h ?_ ?_
  · clear h hw hl; clear ls; intro x h H locs ls hw hl
    obtain ⟨v18, M19⟩ := x
    replace hl : lv_has ls 3 [(0, .ref (o.2.1 5 p))] := hl
    dsimp only at h hw
    refine lv_aload_n hx hb dX0_lay_56 rfl (lv_at hl 0 rfl) ?_
    refine g_cv hw (g_runV (As := []) (rest := []) hx hb hml hown hts mX0_orderShortOnes vX0_orderShortOnes kX0_57 hw 5 p (ci_5 hp) (bi_5 hp hn) rfl rfl (c_X0_orderShortOnes hn hp h) rfl rfl ⟨Nat.le_of_ble_eq_true rfl, Nat.le_of_ble_eq_true rfl⟩ rfl hl.1 rfl (Nat.le_of_ble_eq_true rfl) dX0_lay_57 ⟨Nat.zero_le _, Nat.zero_le _⟩) ?_
    clear h hw; intro M20 H locs hw h
    refine lv_iconst (v := 0) hx hb dX0_lay_60 (by decide) ?_
    refine lv_istore_n (lv' := [(1, .int (0 : Int32)), (0, .ref (o.2.1 5 p))]) hx hb dX0_lay_61 rfl hl (by decide) rfl ?_
    clear hl; clear ls; intro ls hl
    obtain ⟨n, h⟩ := h
    refine letK_W (body := fun K => w_X0_lay_L62 p K) (fun (x : Int32 × Mm) => ∀ (H : Heap) (locs : List Loc) (ls : Array Slot), WO o (WA o) s s.heap H locs x.2 → lv_has ls 3 [] → W p' l e rm_X0_lay s m args below meth c H locs 0 0 (MQ below (QV o Q) args s 0 0 (WA o)) (F0 m 86 ls [])) h ?_ ?_
    · clear h hw hl; clear ls; intro x h H locs ls hw hl
      obtain ⟨v28, M29⟩ := x
      replace hl : lv_has ls 3 [] := hl
      dsimp only at h hw
      exact g_vret hx hb hr hlocks hw h dX0_lay_86
    clear h; intro K23 hK23 h
    refine loop_W (body := w_X0_lay_L62 p K23) (fun (x : Int32 × Mm) => ∀ (H : Heap) (locs : List Loc) (ls : Array Slot), WO o (WA o) s s.heap H locs x.2 → lv_has ls 3 [(0, .ref (o.2.1 5 p)), (1, .int x.1)] → W p' l e rm_X0_lay s m args below meth c H locs 0 0 (MQ below (QV o Q) args s 0 0 (WA o)) (F0 m 62 ls [])) ?_ n _ h _ _ _ hw (lv_sub hl [1, 0] rfl)
    clear h hw hl; clear ls; intro R24 x hR24 h H locs ls hw hl
    obtain ⟨v21, M22⟩ := x
    replace hl : lv_has ls 3 [(0, .ref (o.2.1 5 p)), (1, .int v21)] := hl
    dsimp only at hw
    unfold w_X0_lay_L62 at h
    dsimp only at h
    refine lv_iload_n hx hb dX0_lay_62 rfl (lv_at hl 1 rfl) ?_
    refine lv_aload_n hx hb dX0_lay_63 rfl (lv_at hl 0 rfl) ?_
    refine g_getf hx hb hts in_X0 hown hw 5 p (ci_5 hp) (bi_5 hp hn) rfl rfl 7 (by decide) kX0_40 rfl dX0_lay_64 ?_
    refine g_icmp_ge (tgt := 86) hx hb h dX0_lay_67 (by decide) ?_ ?_
    · clear h; intro h
      exact hK23 (v21, M22) h _ _ _ hw (lv_sub hl [] rfl)
    · clear h; intro h
      refine lv_aload_n hx hb dX0_lay_70 rfl (lv_at hl 0 rfl) ?_
      refine lv_aload_n hx hb dX0_lay_71 rfl (lv_at hl 0 rfl) ?_
      refine g_getf hx hb hts in_X0 hown hw 5 p (ci_5 hp) (bi_5 hp hn) rfl rfl 6 (by decide) kX0_37 rfl dX0_lay_72 ?_
      refine lv_iload_n hx hb dX0_lay_75 rfl (lv_at hl 1 rfl) ?_
      refine g_iald hx hb hw 10 p (ci_10 hp) (bi_10 hp hn) rfl h dX0_lay_76 ?_
      clear h; intro v25 h
      refine g_cv hw (g_runV (As := [.int v25]) (rest := []) hx hb hml hown hts mX0_stack vX0_stack kX0_60 hw 5 p (ci_5 hp) (bi_5 hp hn) rfl rfl (c_X0_stack hn hp h) rfl rfl ⟨Nat.le_of_ble_eq_true rfl, Nat.le_of_ble_eq_true rfl⟩ rfl hl.1 rfl (Nat.le_of_ble_eq_true rfl) dX0_lay_77 ⟨Nat.zero_le _, Nat.zero_le _⟩) ?_
      clear h hw; intro M26 H locs hw h
      refine g_iinc (k := 1) (v := (v21 + (1 : Int32))) (lv' := fun v27 => [(1, .int v27), (0, .ref (o.2.1 5 p))]) hx hb dX0_lay_80 hl rfl rfl (by decide) (fun _ => rfl) h ?_
      clear h hl; clear ls; intro v27 ls h hl
      refine lv_goto (tgt := 62) hx hb dX0_lay_83 (by decide) ?_
      exact hR24 (v27, M26) h _ _ _ hw (lv_sub hl [1, 0] rfl)
  clear h; intro K5 hK5 h
  refine loop_W (body := w_X0_lay_L10 p K5) (fun (x : Int32 × Mm) => ∀ (H : Heap) (locs : List Loc) (ls : Array Slot), WO o (WA o) s s.heap H locs x.2 → lv_has ls 3 [(0, .ref (o.2.1 5 p)), (1, .int x.1)] → W p' l e rm_X0_lay s m args below meth c H locs 0 0 (MQ below (QV o Q) args s 0 0 (WA o)) (F0 m 10 ls [])) ?_ n _ h _ _ _ hw (lv_sub hl [1, 0] rfl)
  clear h hw hl; clear ls; intro R6 x hR6 h H locs ls hw hl
  obtain ⟨v3, M4⟩ := x
  replace hl : lv_has ls 3 [(0, .ref (o.2.1 5 p)), (1, .int v3)] := hl
  dsimp only at hw
  unfold w_X0_lay_L10 at h
  dsimp only at h
  refine lv_iload_n hx hb dX0_lay_10 rfl (lv_at hl 1 rfl) ?_
  refine lv_aload_n hx hb dX0_lay_11 rfl (lv_at hl 0 rfl) ?_
  refine g_getf hx hb hts in_X0 hown hw 5 p (ci_5 hp) (bi_5 hp hn) rfl rfl 1 (by decide) kX0_18 rfl dX0_lay_12 ?_
  refine g_icmp_ge (tgt := 56) hx hb h dX0_lay_15 (by decide) ?_ ?_
  · clear h; intro h
    exact hK5 (v3, M4) h _ _ _ hw (lv_sub hl [0] rfl)
  · clear h; intro h
    refine lv_aload_n hx hb dX0_lay_18 rfl (lv_at hl 0 rfl) ?_
    refine lv_iload_n hx hb dX0_lay_19 rfl (lv_at hl 1 rfl) ?_
    refine g_cv hw (g_runV (As := [.int v3]) (rest := []) hx hb hml hown hts mX0_orderBars vX0_orderBars kX0_49 hw 5 p (ci_5 hp) (bi_5 hp hn) rfl rfl (c_X0_orderBars hn hp h) rfl rfl ⟨Nat.le_of_ble_eq_true rfl, Nat.le_of_ble_eq_true rfl⟩ rfl hl.1 rfl (Nat.le_of_ble_eq_true rfl) dX0_lay_20 ⟨Nat.zero_le _, Nat.zero_le _⟩) ?_
    clear h hw; intro M7 H locs hw h
    refine lv_iconst (v := 0) hx hb dX0_lay_23 (by decide) ?_
    refine lv_istore_n (lv' := [(2, .int (0 : Int32)), (0, .ref (o.2.1 5 p)), (1, .int v3)]) hx hb dX0_lay_24 rfl hl (by decide) rfl ?_
    clear hl; clear ls; intro ls hl
    obtain ⟨n, h⟩ := h
    refine letK_W (body := fun K => w_X0_lay_L25 p v3 K) (fun (x : Int32 × Mm) => ∀ (H : Heap) (locs : List Loc) (ls : Array Slot), WO o (WA o) s s.heap H locs x.2 → lv_has ls 3 [(0, .ref (o.2.1 5 p)), (1, .int v3)] → W p' l e rm_X0_lay s m args below meth c H locs 0 0 (MQ below (QV o Q) args s 0 0 (WA o)) (F0 m 50 ls [])) h ?_ ?_
    · clear h hw hl; clear ls; intro x h H locs ls hw hl
      obtain ⟨v15, M16⟩ := x
      replace hl : lv_has ls 3 [(0, .ref (o.2.1 5 p)), (1, .int v3)] := hl
      dsimp only at h hw
      refine g_iinc (k := 1) (v := (v3 + (1 : Int32))) (lv' := fun v17 => [(1, .int v17), (0, .ref (o.2.1 5 p))]) hx hb dX0_lay_50 hl rfl rfl (by decide) (fun _ => rfl) h ?_
      clear h hl; clear ls; intro v17 ls h hl
      refine lv_goto (tgt := 10) hx hb dX0_lay_53 (by decide) ?_
      exact hR6 (v17, M16) h _ _ _ hw (lv_sub hl [1, 0] rfl)
    clear h; intro K10 hK10 h
    refine loop_W (body := w_X0_lay_L25 p v3 K10) (fun (x : Int32 × Mm) => ∀ (H : Heap) (locs : List Loc) (ls : Array Slot), WO o (WA o) s s.heap H locs x.2 → lv_has ls 3 [(0, .ref (o.2.1 5 p)), (1, .int v3), (2, .int x.1)] → W p' l e rm_X0_lay s m args below meth c H locs 0 0 (MQ below (QV o Q) args s 0 0 (WA o)) (F0 m 25 ls [])) ?_ n _ h _ _ _ hw (lv_sub hl [1, 2, 0] rfl)
    clear h hw hl; clear ls; intro R11 x hR11 h H locs ls hw hl
    obtain ⟨v8, M9⟩ := x
    replace hl : lv_has ls 3 [(0, .ref (o.2.1 5 p)), (1, .int v3), (2, .int v8)] := hl
    dsimp only at hw
    unfold w_X0_lay_L25 at h
    dsimp only at h
    refine lv_iload_n hx hb dX0_lay_25 rfl (lv_at hl 2 rfl) ?_
    refine lv_aload_n hx hb dX0_lay_26 rfl (lv_at hl 0 rfl) ?_
    refine g_getf hx hb hts in_X0 hown hw 5 p (ci_5 hp) (bi_5 hp hn) rfl rfl 7 (by decide) kX0_40 rfl dX0_lay_27 ?_
    refine g_icmp_ge (tgt := 50) hx hb h dX0_lay_30 (by decide) ?_ ?_
    · clear h; intro h
      exact hK10 (v8, M9) h _ _ _ hw (lv_sub hl [0, 1] rfl)
    · clear h; intro h
      refine lv_aload_n hx hb dX0_lay_33 rfl (lv_at hl 0 rfl) ?_
      refine lv_aload_n hx hb dX0_lay_34 rfl (lv_at hl 0 rfl) ?_
      refine g_getf hx hb hts in_X0 hown hw 5 p (ci_5 hp) (bi_5 hp hn) rfl rfl 6 (by decide) kX0_37 rfl dX0_lay_35 ?_
      refine lv_iload_n hx hb dX0_lay_38 rfl (lv_at hl 2 rfl) ?_
      refine g_iald hx hb hw 10 p (ci_10 hp) (bi_10 hp hn) rfl h dX0_lay_39 ?_
      clear h; intro v12 h
      refine lv_iload_n hx hb dX0_lay_40 rfl (lv_at hl 1 rfl) ?_
      refine g_cv hw (g_runV (As := [.int v12, .int v3]) (rest := []) hx hb hml hown hts mX0_layBar vX0_layBar kX0_53 hw 5 p (ci_5 hp) (bi_5 hp hn) rfl rfl (c_X0_layBar hn hp h) rfl rfl ⟨Nat.le_of_ble_eq_true rfl, Nat.le_of_ble_eq_true rfl⟩ rfl hl.1 rfl (Nat.le_of_ble_eq_true rfl) dX0_lay_41 ⟨Nat.zero_le _, Nat.zero_le _⟩) ?_
      clear h hw; intro M13 H locs hw h
      refine g_iinc (k := 2) (v := (v8 + (1 : Int32))) (lv' := fun v14 => [(2, .int v14), (0, .ref (o.2.1 5 p)), (1, .int v3)]) hx hb dX0_lay_44 hl rfl rfl (by decide) (fun _ => rfl) h ?_
      clear h hl; clear ls; intro v14 ls h hl
      refine lv_goto (tgt := 25) hx hb dX0_lay_47 (by decide) ?_
      exact hR11 (v14, M13) h _ _ _ hw (lv_sub hl [1, 2, 0] rfl)
abbrev rm_X0_weekOfDay : Room := { frames := 0, cells := 0, slots := 0, locals := 0 }
set_option maxHeartbeats 4000000 in
set_option maxRecDepth 100000 in
theorem c_X0_weekOfDay {o : Om} {l : Launch} (hn : 115 ≤ o.2.2.2) {p : Nat} (hp : p < 2) {M : Mm} {x1 : Int32} {Q : Int32 → Mm → Prop} (h : w_X0_weekOfDay p M x1 Q) : CI o l yX0_weekOfDay cX0_weekOfDay 3 rm_X0_weekOfDay [.ref (o.2.1 5 p), .int x1] M Q := by
  refine g_start (by decide +kernel) (Nat.le_of_ble_eq_true rfl) ?_
  intro p' e s m args below meth c hx hb hr hlocks hml hown hts hw ls hl
  replace hl : lv_has ls 3 [(0, .ref (o.2.1 5 p)), (1, .int x1)] := hl
  unfold w_X0_weekOfDay at h
  refine lv_iconst (v := 0) hx hb dX0_weekOfDay_0 (by decide) ?_
  refine lv_istore_n (lv' := [(2, .int (0 : Int32)), (0, .ref (o.2.1 5 p)), (1, .int x1)]) hx hb dX0_weekOfDay_1 rfl hl (by decide) rfl ?_
  clear hl; clear ls; intro ls hl
  obtain ⟨n, h⟩ := h
  refine letK_W (body := fun K => w_X0_weekOfDay_L2 p x1 K) (fun (x : Int32 × Mm) => ∀ (H : Heap) (locs : List Loc) (ls : Array Slot), WO o (WA o) s s.heap H locs x.2 → lv_has ls 3 [(2, .int x.1)] → W p' l e rm_X0_weekOfDay s m args below meth c H locs 0 0 (MQ below (QI o Q) args s 0 0 (WA o)) (F0 m 30 ls [])) h ?_ ?_
  · clear h hw hl; clear ls; intro x h H locs ls hw hl
    obtain ⟨v7, M8⟩ := x
    replace hl : lv_has ls 3 [(2, .int v7)] := hl
    dsimp only at h hw
    refine lv_iload_n hx hb dX0_weekOfDay_30 rfl (lv_at hl 0 rfl) ?_
    exact g_iret hx hb hr hlocks hw h dX0_weekOfDay_31
  clear h; intro K3 hK3 h
  refine loop_W (body := w_X0_weekOfDay_L2 p x1 K3) (fun (x : Int32 × Mm) => ∀ (H : Heap) (locs : List Loc) (ls : Array Slot), WO o (WA o) s s.heap H locs x.2 → lv_has ls 3 [(0, .ref (o.2.1 5 p)), (1, .int x1), (2, .int x.1)] → W p' l e rm_X0_weekOfDay s m args below meth c H locs 0 0 (MQ below (QI o Q) args s 0 0 (WA o)) (F0 m 2 ls [])) ?_ n _ h _ _ _ hw (lv_sub hl [1, 2, 0] rfl)
  clear h hw hl; clear ls; intro R4 x hR4 h H locs ls hw hl
  obtain ⟨v1, M2⟩ := x
  replace hl : lv_has ls 3 [(0, .ref (o.2.1 5 p)), (1, .int x1), (2, .int v1)] := hl
  dsimp only at hw
  unfold w_X0_weekOfDay_L2 at h
  dsimp only at h
  refine lv_iload_n hx hb dX0_weekOfDay_2 rfl (lv_at hl 2 rfl) ?_
  refine lv_iconst (v := 1) hx hb dX0_weekOfDay_3 (by decide) ?_
  refine lv_iadd hx hb dX0_weekOfDay_4 ?_
  refine lv_aload_n hx hb dX0_weekOfDay_5 rfl (lv_at hl 0 rfl) ?_
  refine g_getf hx hb hts in_X0 hown hw 5 p (ci_5 hp) (bi_5 hp hn) rfl rfl 1 (by decide) kX0_18 rfl dX0_weekOfDay_6 ?_
  refine g_icmp_ge (tgt := 30) hx hb h dX0_weekOfDay_9 (by decide) ?_ ?_
  · clear h; intro h
    exact hK3 (v1, M2) h _ _ _ hw (lv_sub hl [2] rfl)
  · clear h; intro h
    refine lv_aload_n hx hb dX0_weekOfDay_12 rfl (lv_at hl 0 rfl) ?_
    refine g_getf hx hb hts in_X0 hown hw 5 p (ci_5 hp) (bi_5 hp hn) rfl rfl 2 (by decide) kX0_22 rfl dX0_weekOfDay_13 ?_
    refine lv_iload_n hx hb dX0_weekOfDay_16 rfl (lv_at hl 2 rfl) ?_
    refine lv_iconst (v := 1) hx hb dX0_weekOfDay_17 (by decide) ?_
    refine lv_iadd hx hb dX0_weekOfDay_18 ?_
    refine g_iald hx hb hw 6 p (ci_6 hp) (bi_6 hp hn) rfl h dX0_weekOfDay_19 ?_
    clear h; intro v5 h
    refine lv_iload_n hx hb dX0_weekOfDay_20 rfl (lv_at hl 1 rfl) ?_
    refine g_icmp_gt (tgt := 30) hx hb h dX0_weekOfDay_21 (by decide) ?_ ?_
    · clear h; intro h
      exact hK3 (v1, M2) h _ _ _ hw (lv_sub hl [2] rfl)
    · clear h; intro h
      refine g_iinc (k := 2) (v := (v1 + (1 : Int32))) (lv' := fun v6 => [(2, .int v6), (0, .ref (o.2.1 5 p)), (1, .int x1)]) hx hb dX0_weekOfDay_24 hl rfl rfl (by decide) (fun _ => rfl) h ?_
      clear h hl; clear ls; intro v6 ls h hl
      refine lv_goto (tgt := 2) hx hb dX0_weekOfDay_27 (by decide) ?_
      exact hR4 (v6, M2) h _ _ _ hw (lv_sub hl [1, 2, 0] rfl)
abbrev rm_X0_barsInWeek : Room := { frames := 0, cells := 0, slots := 0, locals := 0 }
set_option maxHeartbeats 4000000 in
set_option maxRecDepth 100000 in
theorem c_X0_barsInWeek {o : Om} {l : Launch} (hn : 115 ≤ o.2.2.2) {p : Nat} (hp : p < 2) {M : Mm} {x1 : Int32} {Q : Int32 → Mm → Prop} (h : w_X0_barsInWeek p M x1 Q) : CI o l yX0_barsInWeek cX0_barsInWeek 4 rm_X0_barsInWeek [.ref (o.2.1 5 p), .int x1] M Q := by
  refine g_start (by decide +kernel) (Nat.le_of_ble_eq_true rfl) ?_
  intro p' e s m args below meth c hx hb hr hlocks hml hown hts hw ls hl
  replace hl : lv_has ls 4 [(0, .ref (o.2.1 5 p)), (1, .int x1)] := hl
  unfold w_X0_barsInWeek at h
  refine lv_iconst (v := 0) hx hb dX0_barsInWeek_0 (by decide) ?_
  refine lv_istore_n (lv' := [(2, .int (0 : Int32)), (0, .ref (o.2.1 5 p)), (1, .int x1)]) hx hb dX0_barsInWeek_1 rfl hl (by decide) rfl ?_
  clear hl; clear ls; intro ls hl
  refine lv_iconst (v := 0) hx hb dX0_barsInWeek_2 (by decide) ?_
  refine lv_istore_n (lv' := [(3, .int (0 : Int32)), (2, .int (0 : Int32)), (0, .ref (o.2.1 5 p)), (1, .int x1)]) hx hb dX0_barsInWeek_3 rfl hl (by decide) rfl ?_
  clear hl; clear ls; intro ls hl
  obtain ⟨n, h⟩ := h
  refine letK_W (body := fun K => w_X0_barsInWeek_L4 p x1 K) (fun (x : Int32 × Int32 × Mm) => ∀ (H : Heap) (locs : List Loc) (ls : Array Slot), WO o (WA o) s s.heap H locs x.2.2 → lv_has ls 4 [(2, .int x.1)] → W p' l e rm_X0_barsInWeek s m args below meth c H locs 0 0 (MQ below (QI o Q) args s 0 0 (WA o)) (F0 m 37 ls [])) h ?_ ?_
  · clear h hw hl; clear ls; intro x h H locs ls hw hl
    obtain ⟨v11, v12, M13⟩ := x
    replace hl : lv_has ls 4 [(2, .int v11)] := hl
    dsimp only at h hw
    refine lv_iload_n hx hb dX0_barsInWeek_37 rfl (lv_at hl 0 rfl) ?_
    exact g_iret hx hb hr hlocks hw h dX0_barsInWeek_38
  clear h; intro K4 hK4 h
  refine loop_W (body := w_X0_barsInWeek_L4 p x1 K4) (fun (x : Int32 × Int32 × Mm) => ∀ (H : Heap) (locs : List Loc) (ls : Array Slot), WO o (WA o) s s.heap H locs x.2.2 → lv_has ls 4 [(0, .ref (o.2.1 5 p)), (1, .int x1), (2, .int x.1), (3, .int x.2.1)] → W p' l e rm_X0_barsInWeek s m args below meth c H locs 0 0 (MQ below (QI o Q) args s 0 0 (WA o)) (F0 m 4 ls [])) ?_ n _ h _ _ _ hw (lv_sub hl [2, 3, 1, 0] rfl)
  clear h hw hl; clear ls; intro R5 x hR5 h H locs ls hw hl
  obtain ⟨v1, v2, M3⟩ := x
  replace hl : lv_has ls 4 [(0, .ref (o.2.1 5 p)), (1, .int x1), (2, .int v1), (3, .int v2)] := hl
  dsimp only at hw
  unfold w_X0_barsInWeek_L4 at h
  dsimp only at h
  refine lv_iload_n hx hb dX0_barsInWeek_4 rfl (lv_at hl 3 rfl) ?_
  refine lv_aload_n hx hb dX0_barsInWeek_5 rfl (lv_at hl 0 rfl) ?_
  refine g_getf hx hb hts in_X0 hown hw 5 p (ci_5 hp) (bi_5 hp hn) rfl rfl 0 (by decide) kX0_12 rfl dX0_barsInWeek_6 ?_
  refine g_getf hx hb hts in_X2 hown hw 11 p (ci_11 (Nat.lt_of_lt_of_le hp (by decide))) (bi_11 (Nat.lt_of_lt_of_le hp (by decide)) hn) rfl rfl 4 (by decide) kX0_72 rfl dX0_barsInWeek_9 ?_
  refine g_icmp_ge (tgt := 37) hx hb h dX0_barsInWeek_12 (by decide) ?_ ?_
  · clear h; intro h
    exact hK4 (v1, v2, M3) h _ _ _ hw (lv_sub hl [2] rfl)
  · clear h; intro h
    refine lv_aload_n hx hb dX0_barsInWeek_15 rfl (lv_at hl 0 rfl) ?_
    refine g_getf hx hb hts in_X0 hown hw 5 p (ci_5 hp) (bi_5 hp hn) rfl rfl 3 (by decide) kX0_28 rfl dX0_barsInWeek_16 ?_
    refine lv_iload_n hx hb dX0_barsInWeek_19 rfl (lv_at hl 3 rfl) ?_
    refine g_aldR hx hb hw hp hn h dX0_barsInWeek_20 ?_
    clear h; intro k6 hk6 h
    refine lv_iload_n hx hb dX0_barsInWeek_21 rfl (lv_at hl 1 rfl) ?_
    refine g_iald hx hb hw 12 (24 * p + k6) (ci_12 (r_48 hp hk6)) (bi_12 (r_48 hp hk6) hn) rfl h dX0_barsInWeek_22 ?_
    clear h; intro v7 h
    refine lv_bipush (v := (-9)) hx hb dX0_barsInWeek_23 (by decide) ?_
    refine g_icmp_eq (tgt := 31) hx hb h dX0_barsInWeek_25 (by decide) ?_ ?_
    · clear h; intro h
      refine g_iinc (k := 3) (v := (v2 + (1 : Int32))) (lv' := fun v8 => [(3, .int v8), (0, .ref (o.2.1 5 p)), (1, .int x1), (2, .int v1)]) hx hb dX0_barsInWeek_31 hl rfl rfl (by decide) (fun _ => rfl) h ?_
      clear h hl; clear ls; intro v8 ls h hl
      refine lv_goto (tgt := 4) hx hb dX0_barsInWeek_34 (by decide) ?_
      exact hR5 (v1, v8, M3) h _ _ _ hw (lv_sub hl [1, 2, 3, 0] rfl)
    · clear h; intro h
      refine g_iinc (k := 2) (v := (v1 + (1 : Int32))) (lv' := fun v9 => [(2, .int v9), (0, .ref (o.2.1 5 p)), (1, .int x1), (3, .int v2)]) hx hb dX0_barsInWeek_28 hl rfl rfl (by decide) (fun _ => rfl) h ?_
      clear h hl; clear ls; intro v9 ls h hl
      refine g_iinc (k := 3) (v := (v2 + (1 : Int32))) (lv' := fun v10 => [(3, .int v10), (2, .int v9), (0, .ref (o.2.1 5 p)), (1, .int x1)]) hx hb dX0_barsInWeek_31 hl rfl rfl (by decide) (fun _ => rfl) h ?_
      clear h hl; clear ls; intro v10 ls h hl
      refine lv_goto (tgt := 4) hx hb dX0_barsInWeek_34 (by decide) ?_
      exact hR5 (v9, v10, M3) h _ _ _ hw (lv_sub hl [2, 3, 1, 0] rfl)
