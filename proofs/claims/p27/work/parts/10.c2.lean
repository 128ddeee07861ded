abbrev rm_X0_lanesInWeek : Room := { frames := 1, cells := 0, slots := 0, locals := 21 }
set_option maxHeartbeats 4000000 in
set_option maxRecDepth 100000 in
theorem c_X0_lanesInWeek {o : Om} {l : Launch} (hn : 115 ≤ o.2.2.2) {p : Nat} (hp : p < 2) {M : Mm} {x1 : Int32} {Q : Int32 → Mm → Prop} (h : w_X0_lanesInWeek p M x1 Q) : CI o l yX0_lanesInWeek cX0_lanesInWeek 4 rm_X0_lanesInWeek [.ref (o.2.1 5 p), .int x1] M Q := by
  refine g_start (by decide +kernel) (Nat.le_of_ble_eq_true rfl) ?_
  intro p' e s m args below meth c hx hb hr hlocks hml hown hts hw ls hl
  replace hl : lv_has ls 4 [(0, .ref (o.2.1 5 p)), (1, .int x1)] := hl
  unfold w_X0_lanesInWeek at h
  refine lv_iconst (v := 0) hx hb dX0_lanesInWeek_0 (by decide) ?_
  refine lv_istore_n (lv' := [(2, .int (0 : Int32)), (0, .ref (o.2.1 5 p)), (1, .int x1)]) hx hb dX0_lanesInWeek_1 rfl hl (by decide) rfl ?_
  clear hl; clear ls; intro ls hl
  refine lv_iconst (v := 0) hx hb dX0_lanesInWeek_2 (by decide) ?_
  refine lv_istore_n (lv' := [(3, .int (0 : Int32)), (2, .int (0 : Int32)), (0, .ref (o.2.1 5 p)), (1, .int x1)]) hx hb dX0_lanesInWeek_3 rfl hl (by decide) rfl ?_
  clear hl; clear ls; intro ls hl
  obtain ⟨n, h⟩ := h
  refine letK_W (body := fun K => w_X0_lanesInWeek_L4 p x1 K) (fun (x : Int32 × Int32 × Mm) => ∀ (H : Heap) (locs : List Loc) (ls : Array Slot), WO o (WA o) s s.heap H locs x.2.2 → lv_has ls 4 [(2, .int x.1)] → W p' l e rm_X0_lanesInWeek s m args below meth c H locs 0 0 (MQ below (QI o Q) args s 0 0 (WA o)) (F0 m 36 ls [])) h ?_ ?_
  · clear h hw hl; clear ls; intro x h H locs ls hw hl
    obtain ⟨v10, v11, M12⟩ := x
    replace hl : lv_has ls 4 [(2, .int v10)] := hl
    dsimp only at h hw
    refine lv_iload_n hx hb dX0_lanesInWeek_36 rfl (lv_at hl 0 rfl) ?_
    exact g_iret hx hb hr hlocks hw h dX0_lanesInWeek_37
  clear h; intro K4 hK4 h
  refine loop_W (body := w_X0_lanesInWeek_L4 p x1 K4) (fun (x : Int32 × Int32 × Mm) => ∀ (H : Heap) (locs : List Loc) (ls : Array Slot), WO o (WA o) s s.heap H locs x.2.2 → lv_has ls 4 [(0, .ref (o.2.1 5 p)), (1, .int x1), (2, .int x.1), (3, .int x.2.1)] → W p' l e rm_X0_lanesInWeek s m args below meth c H locs 0 0 (MQ below (QI o Q) args s 0 0 (WA o)) (F0 m 4 ls [])) ?_ n _ h _ _ _ hw (lv_sub hl [2, 3, 1, 0] rfl)
  clear h hw hl; clear ls; intro R5 x hR5 h H locs ls hw hl
  obtain ⟨v1, v2, M3⟩ := x
  replace hl : lv_has ls 4 [(0, .ref (o.2.1 5 p)), (1, .int x1), (2, .int v1), (3, .int v2)] := hl
  dsimp only at hw
  unfold w_X0_lanesInWeek_L4 at h
  dsimp only at h
  refine lv_iload_n hx hb dX0_lanesInWeek_4 rfl (lv_at hl 3 rfl) ?_
  refine lv_aload_n hx hb dX0_lanesInWeek_5 rfl (lv_at hl 0 rfl) ?_
  refine g_getf hx hb hts in_X0 hown hw 5 p (ci_5 hp) (bi_5 hp hn) rfl rfl 0 (by decide) kX0_12 rfl dX0_lanesInWeek_6 ?_
  refine g_getf hx hb hts in_X2 hown hw 11 p (ci_11 (Nat.lt_of_lt_of_le hp (by decide))) (bi_11 (Nat.lt_of_lt_of_le hp (by decide)) hn) rfl rfl 4 (by decide) kX0_72 rfl dX0_lanesInWeek_9 ?_
  refine g_icmp_ge (tgt := 36) hx hb h dX0_lanesInWeek_12 (by decide) ?_ ?_
  · clear h; intro h
    exact hK4 (v1, v2, M3) h _ _ _ hw (lv_sub hl [2] rfl)
  · clear h; intro h
    refine lv_iload_n hx hb dX0_lanesInWeek_15 rfl (lv_at hl 2 rfl) ?_
    refine lv_aload_n hx hb dX0_lanesInWeek_16 rfl (lv_at hl 0 rfl) ?_
    refine g_getf hx hb hts in_X0 hown hw 5 p (ci_5 hp) (bi_5 hp hn) rfl rfl 3 (by decide) kX0_28 rfl dX0_lanesInWeek_17 ?_
    refine lv_iload_n hx hb dX0_lanesInWeek_20 rfl (lv_at hl 3 rfl) ?_
    refine g_aldR hx hb hw hp hn h dX0_lanesInWeek_21 ?_
    clear h; intro k6 hk6 h
    refine lv_iload_n hx hb dX0_lanesInWeek_22 rfl (lv_at hl 1 rfl) ?_
    refine g_iald hx hb hw 12 (24 * p + k6) (ci_12 (r_48 hp hk6)) (bi_12 (r_48 hp hk6) hn) rfl h dX0_lanesInWeek_23 ?_
    clear h; intro v7 h
    refine lv_iconst (v := 1) hx hb dX0_lanesInWeek_24 (by decide) ?_
    refine lv_iadd hx hb dX0_lanesInWeek_25 ?_
    refine g_max hx hb hml hl.1 hown hts kX0_102 (Nat.le_of_ble_eq_true rfl) (Nat.le_of_ble_eq_true rfl) (Nat.zero_le _) (Nat.zero_le _) dX0_lanesInWeek_26 ?_
    refine g_topi h ?_
    clear h; intro v8 h
    refine lv_istore_n (lv' := [(2, .int v8), (0, .ref (o.2.1 5 p)), (1, .int x1), (3, .int v2)]) hx hb dX0_lanesInWeek_29 rfl hl (by decide) rfl ?_
    clear hl; clear ls; intro ls hl
    refine g_iinc (k := 3) (v := (v2 + (1 : Int32))) (lv' := fun v9 => [(3, .int v9), (2, .int v8), (0, .ref (o.2.1 5 p)), (1, .int x1)]) hx hb dX0_lanesInWeek_30 hl rfl rfl (by decide) (fun _ => rfl) h ?_
    clear h hl; clear ls; intro v9 ls h hl
    refine lv_goto (tgt := 4) hx hb dX0_lanesInWeek_33 (by decide) ?_
    exact hR5 (v8, v9, M3) h _ _ _ hw (lv_sub hl [2, 3, 1, 0] rfl)
abbrev rm_X0_barsOfEntry : Room := { frames := 0, cells := 0, slots := 0, locals := 0 }
set_option maxHeartbeats 4000000 in
set_option maxRecDepth 100000 in
theorem c_X0_barsOfEntry {o : Om} {l : Launch} (hn : 115 ≤ o.2.2.2) {p : Nat} (hp : p < 2) {M : Mm} {x1 : Int32} {Q : Int32 → Mm → Prop} (h : w_X0_barsOfEntry p M x1 Q) : CI o l yX0_barsOfEntry cX0_barsOfEntry 4 rm_X0_barsOfEntry [.ref (o.2.1 5 p), .int x1] M Q := by
  refine g_start (by decide +kernel) (Nat.le_of_ble_eq_true rfl) ?_
  intro p' e s m args below meth c hx hb hr hlocks hml hown hts hw ls hl
  replace hl : lv_has ls 4 [(0, .ref (o.2.1 5 p)), (1, .int x1)] := hl
  unfold w_X0_barsOfEntry at h
  refine lv_iconst (v := 0) hx hb dX0_barsOfEntry_0 (by decide) ?_
  refine lv_istore_n (lv' := [(2, .int (0 : Int32)), (0, .ref (o.2.1 5 p)), (1, .int x1)]) hx hb dX0_barsOfEntry_1 rfl hl (by decide) rfl ?_
  clear hl; clear ls; intro ls hl
  refine lv_iconst (v := 0) hx hb dX0_barsOfEntry_2 (by decide) ?_
  refine lv_istore_n (lv' := [(3, .int (0 : Int32)), (2, .int (0 : Int32)), (0, .ref (o.2.1 5 p)), (1, .int x1)]) hx hb dX0_barsOfEntry_3 rfl hl (by decide) rfl ?_
  clear hl; clear ls; intro ls hl
  obtain ⟨n, h⟩ := h
  refine letK_W (body := fun K => w_X0_barsOfEntry_L4 p x1 K) (fun (x : Int32 × Int32 × Mm) => ∀ (H : Heap) (locs : List Loc) (ls : Array Slot), WO o (WA o) s s.heap H locs x.2.2 → lv_has ls 4 [(2, .int x.1)] → W p' l e rm_X0_barsOfEntry s m args below meth c H locs 0 0 (MQ below (QI o Q) args s 0 0 (WA o)) (F0 m 34 ls [])) h ?_ ?_
  · clear h hw hl; clear ls; intro x h H locs ls hw hl
    obtain ⟨v11, v12, M13⟩ := x
    replace hl : lv_has ls 4 [(2, .int v11)] := hl
    dsimp only at h hw
    refine lv_iload_n hx hb dX0_barsOfEntry_34 rfl (lv_at hl 0 rfl) ?_
    exact g_iret hx hb hr hlocks hw h dX0_barsOfEntry_35
  clear h; intro K4 hK4 h
  refine loop_W (body := w_X0_barsOfEntry_L4 p x1 K4) (fun (x : Int32 × Int32 × Mm) => ∀ (H : Heap) (locs : List Loc) (ls : Array Slot), WO o (WA o) s s.heap H locs x.2.2 → lv_has ls 4 [(0, .ref (o.2.1 5 p)), (1, .int x1), (2, .int x.1), (3, .int x.2.1)] → W p' l e rm_X0_barsOfEntry s m args below meth c H locs 0 0 (MQ below (QI o Q) args s 0 0 (WA o)) (F0 m 4 ls [])) ?_ n _ h _ _ _ hw (lv_sub hl [2, 3, 1, 0] rfl)
  clear h hw hl; clear ls; intro R5 x hR5 h H locs ls hw hl
  obtain ⟨v1, v2, M3⟩ := x
  replace hl : lv_has ls 4 [(0, .ref (o.2.1 5 p)), (1, .int x1), (2, .int v1), (3, .int v2)] := hl
  dsimp only at hw
  unfold w_X0_barsOfEntry_L4 at h
  dsimp only at h
  refine lv_iload_n hx hb dX0_barsOfEntry_4 rfl (lv_at hl 3 rfl) ?_
  refine lv_aload_n hx hb dX0_barsOfEntry_5 rfl (lv_at hl 0 rfl) ?_
  refine g_getf hx hb hts in_X0 hown hw 5 p (ci_5 hp) (bi_5 hp hn) rfl rfl 1 (by decide) kX0_18 rfl dX0_barsOfEntry_6 ?_
  refine g_icmp_ge (tgt := 34) hx hb h dX0_barsOfEntry_9 (by decide) ?_ ?_
  · clear h; intro h
    exact hK4 (v1, v2, M3) h _ _ _ hw (lv_sub hl [2] rfl)
  · clear h; intro h
    refine lv_aload_n hx hb dX0_barsOfEntry_12 rfl (lv_at hl 0 rfl) ?_
    refine g_getf hx hb hts in_X0 hown hw 5 p (ci_5 hp) (bi_5 hp hn) rfl rfl 3 (by decide) kX0_28 rfl dX0_barsOfEntry_13 ?_
    refine lv_iload_n hx hb dX0_barsOfEntry_16 rfl (lv_at hl 1 rfl) ?_
    refine g_aldR hx hb hw hp hn h dX0_barsOfEntry_17 ?_
    clear h; intro k6 hk6 h
    refine lv_iload_n hx hb dX0_barsOfEntry_18 rfl (lv_at hl 3 rfl) ?_
    refine g_iald hx hb hw 12 (24 * p + k6) (ci_12 (r_48 hp hk6)) (bi_12 (r_48 hp hk6) hn) rfl h dX0_barsOfEntry_19 ?_
    clear h; intro v7 h
    refine lv_bipush (v := (-9)) hx hb dX0_barsOfEntry_20 (by decide) ?_
    refine g_icmp_eq (tgt := 28) hx hb h dX0_barsOfEntry_22 (by decide) ?_ ?_
    · clear h; intro h
      refine g_iinc (k := 3) (v := (v2 + (1 : Int32))) (lv' := fun v8 => [(3, .int v8), (0, .ref (o.2.1 5 p)), (1, .int x1), (2, .int v1)]) hx hb dX0_barsOfEntry_28 hl rfl rfl (by decide) (fun _ => rfl) h ?_
      clear h hl; clear ls; intro v8 ls h hl
      refine lv_goto (tgt := 4) hx hb dX0_barsOfEntry_31 (by decide) ?_
      exact hR5 (v1, v8, M3) h _ _ _ hw (lv_sub hl [1, 2, 3, 0] rfl)
    · clear h; intro h
      refine g_iinc (k := 2) (v := (v1 + (1 : Int32))) (lv' := fun v9 => [(2, .int v9), (0, .ref (o.2.1 5 p)), (1, .int x1), (3, .int v2)]) hx hb dX0_barsOfEntry_25 hl rfl rfl (by decide) (fun _ => rfl) h ?_
      clear h hl; clear ls; intro v9 ls h hl
      refine g_iinc (k := 3) (v := (v2 + (1 : Int32))) (lv' := fun v10 => [(3, .int v10), (2, .int v9), (0, .ref (o.2.1 5 p)), (1, .int x1)]) hx hb dX0_barsOfEntry_28 hl rfl rfl (by decide) (fun _ => rfl) h ?_
      clear h hl; clear ls; intro v10 ls h hl
      refine lv_goto (tgt := 4) hx hb dX0_barsOfEntry_31 (by decide) ?_
      exact hR5 (v9, v10, M3) h _ _ _ hw (lv_sub hl [2, 3, 1, 0] rfl)
abbrev rm_X0_barsOnPage : Room := { frames := 1, cells := 0, slots := 0, locals := 23 }
set_option maxHeartbeats 4000000 in
set_option maxRecDepth 100000 in
theorem c_X0_barsOnPage {o : Om} {l : Launch} (hn : 115 ≤ o.2.2.2) {p : Nat} (hp : p < 2) {M : Mm} {Q : Int32 → Mm → Prop} (h : w_X0_barsOnPage p M Q) : CI o l yX0_barsOnPage cX0_barsOnPage 3 rm_X0_barsOnPage [.ref (o.2.1 5 p)] M Q := by
  refine g_start (by decide +kernel) (Nat.le_of_ble_eq_true rfl) ?_
  intro p' e s m args below meth c hx hb hr hlocks hml hown hts hw ls hl
  replace hl : lv_has ls 3 [(0, .ref (o.2.1 5 p))] := hl
  unfold w_X0_barsOnPage at h
  refine lv_iconst (v := 0) hx hb dX0_barsOnPage_0 (by decide) ?_
  refine lv_istore_n (lv' := [(1, .int (0 : Int32)), (0, .ref (o.2.1 5 p))]) hx hb dX0_barsOnPage_1 rfl hl (by decide) rfl ?_
  clear hl; clear ls; intro ls hl
  refine lv_iconst (v := 0) hx hb dX0_barsOnPage_2 (by decide) ?_
  refine lv_istore_n (lv' := [(2, .int (0 : Int32)), (1, .int (0 : Int32)), (0, .ref (o.2.1 5 p))]) hx hb dX0_barsOnPage_3 rfl hl (by decide) rfl ?_
  clear hl; clear ls; intro ls hl
  obtain ⟨n, h⟩ := h
  refine letK_W (body := fun K => w_X0_barsOnPage_L4 p K) (fun (x : Int32 × Int32 × Mm) => ∀ (H : Heap) (locs : List Loc) (ls : Array Slot), WO o (WA o) s s.heap H locs x.2.2 → lv_has ls 3 [(1, .int x.1)] → W p' l e rm_X0_barsOnPage s m args below meth c H locs 0 0 (MQ below (QI o Q) args s 0 0 (WA o)) (F0 m 26 ls [])) h ?_ ?_
  · clear h hw hl; clear ls; intro x h H locs ls hw hl
    obtain ⟨v10, v11, M12⟩ := x
    replace hl : lv_has ls 3 [(1, .int v10)] := hl
    dsimp only at h hw
    refine lv_iload_n hx hb dX0_barsOnPage_26 rfl (lv_at hl 0 rfl) ?_
    exact g_iret hx hb hr hlocks hw h dX0_barsOnPage_27
  clear h; intro K4 hK4 h
  refine loop_W (body := w_X0_barsOnPage_L4 p K4) (fun (x : Int32 × Int32 × Mm) => ∀ (H : Heap) (locs : List Loc) (ls : Array Slot), WO o (WA o) s s.heap H locs x.2.2 → lv_has ls 3 [(0, .ref (o.2.1 5 p)), (1, .int x.1), (2, .int x.2.1)] → W p' l e rm_X0_barsOnPage s m args below meth c H locs 0 0 (MQ below (QI o Q) args s 0 0 (WA o)) (F0 m 4 ls [])) ?_ n _ h _ _ _ hw (lv_sub hl [2, 1, 0] rfl)
  clear h hw hl; clear ls; intro R5 x hR5 h H locs ls hw hl
  obtain ⟨v1, v2, M3⟩ := x
  replace hl : lv_has ls 3 [(0, .ref (o.2.1 5 p)), (1, .int v1), (2, .int v2)] := hl
  dsimp only at hw
  unfold w_X0_barsOnPage_L4 at h
  dsimp only at h
  refine lv_iload_n hx hb dX0_barsOnPage_4 rfl (lv_at hl 2 rfl) ?_
  refine lv_aload_n hx hb dX0_barsOnPage_5 rfl (lv_at hl 0 rfl) ?_
  refine g_getf hx hb hts in_X0 hown hw 5 p (ci_5 hp) (bi_5 hp hn) rfl rfl 1 (by decide) kX0_18 rfl dX0_barsOnPage_6 ?_
  refine g_icmp_ge (tgt := 26) hx hb h dX0_barsOnPage_9 (by decide) ?_ ?_
  · clear h; intro h
    exact hK4 (v1, v2, M3) h _ _ _ hw (lv_sub hl [1] rfl)
  · clear h; intro h
    refine lv_iload_n hx hb dX0_barsOnPage_12 rfl (lv_at hl 1 rfl) ?_
    refine lv_aload_n hx hb dX0_barsOnPage_13 rfl (lv_at hl 0 rfl) ?_
    refine lv_iload_n hx hb dX0_barsOnPage_14 rfl (lv_at hl 2 rfl) ?_
    refine g_ci hw (g_runV (As := [.int v2]) (rest := [.int v1]) hx hb hml hown hts mX0_barsInWeek vX0_barsInWeek kX0_121 hw 5 p (ci_5 hp) (bi_5 hp hn) rfl rfl (c_X0_barsInWeek hn hp h) rfl rfl ⟨Nat.le_of_ble_eq_true rfl, Nat.le_of_ble_eq_true rfl⟩ rfl hl.1 rfl (Nat.le_of_ble_eq_true rfl) dX0_barsOnPage_15 ⟨Nat.zero_le _, Nat.zero_le _⟩) ?_
    clear h hw; intro v7 M6 H locs hw h
    refine lv_iadd hx hb dX0_barsOnPage_18 ?_
    refine g_topi h ?_
    clear h; intro v8 h
    refine lv_istore_n (lv' := [(1, .int v8), (0, .ref (o.2.1 5 p)), (2, .int v2)]) hx hb dX0_barsOnPage_19 rfl hl (by decide) rfl ?_
    clear hl; clear ls; intro ls hl
    refine g_iinc (k := 2) (v := (v2 + (1 : Int32))) (lv' := fun v9 => [(2, .int v9), (1, .int v8), (0, .ref (o.2.1 5 p))]) hx hb dX0_barsOnPage_20 hl rfl rfl (by decide) (fun _ => rfl) h ?_
    clear h hl; clear ls; intro v9 ls h hl
    refine lv_goto (tgt := 4) hx hb dX0_barsOnPage_23 (by decide) ?_
    exact hR5 (v8, v9, M6) h _ _ _ hw (lv_sub hl [2, 1, 0] rfl)
abbrev rm_X0_rowOnDay : Room := { frames := 1, cells := 0, slots := 0, locals := 23 }
set_option maxHeartbeats 4000000 in
set_option maxRecDepth 100000 in
theorem c_X0_rowOnDay {o : Om} {l : Launch} (hn : 115 ≤ o.2.2.2) {p : Nat} (hp : p < 2) {M : Mm} {x1 : Int32} {x2 : Int32} {Q : Int32 → Mm → Prop} (h : w_X0_rowOnDay p M x1 x2 Q) : CI o l yX0_rowOnDay cX0_rowOnDay 3 rm_X0_rowOnDay [.ref (o.2.1 5 p), .int x1, .int x2] M Q := by
  refine g_start (by decide +kernel) (Nat.le_of_ble_eq_true rfl) ?_
  intro p' e s m args below meth c hx hb hr hlocks hml hown hts hw ls hl
  replace hl : lv_has ls 3 [(0, .ref (o.2.1 5 p)), (1, .int x1), (2, .int x2)] := hl
  unfold w_X0_rowOnDay at h
  refine lv_aload_n hx hb dX0_rowOnDay_0 rfl (lv_at hl 0 rfl) ?_
  refine g_getf hx hb hts in_X0 hown hw 5 p (ci_5 hp) (bi_5 hp hn) rfl rfl 0 (by decide) kX0_12 rfl dX0_rowOnDay_1 ?_
  refine lv_iload_n hx hb dX0_rowOnDay_4 rfl (lv_at hl 1 rfl) ?_
  refine lv_iload_n hx hb dX0_rowOnDay_5 rfl (lv_at hl 2 rfl) ?_
  refine lv_iload_n hx hb dX0_rowOnDay_6 rfl (lv_at hl 2 rfl) ?_
  refine g_cz hw (g_runV (As := [.int x1, .int x2, .int x2]) (rest := []) hx hb hml hown hts mX2_meets vX2_meets kX0_86 hw 11 p (ci_11 (Nat.lt_of_lt_of_le hp (by decide))) (bi_11 (Nat.lt_of_lt_of_le hp (by decide)) hn) rfl rfl (c_X2_meets hn (Nat.lt_of_lt_of_le hp (by decide)) h) rfl rfl ⟨Nat.le_of_ble_eq_true rfl, Nat.le_of_ble_eq_true rfl⟩ rfl hl.1 rfl (Nat.le_of_ble_eq_true rfl) dX0_rowOnDay_7 ⟨Nat.zero_le _, Nat.zero_le _⟩) ?_
  clear h hw; intro v2 M1 H locs hw hz_v2 h
  refine g_if_ne (tgt := 16) hx hb h dX0_rowOnDay_10 (by decide) ?_ ?_
  · clear h; intro h
    refine lv_aload_n hx hb dX0_rowOnDay_16 rfl (lv_at hl 0 rfl) ?_
    refine g_getf hx hb hts in_X0 hown hw 5 p (ci_5 hp) (bi_5 hp hn) rfl rfl 0 (by decide) kX0_12 rfl dX0_rowOnDay_17 ?_
    refine lv_iload_n hx hb dX0_rowOnDay_20 rfl (lv_at hl 1 rfl) ?_
    refine g_cz hw (g_runV (As := [.int x1]) (rest := []) hx hb hml hown hts mX2_isLong vX2_isLong kX0_75 hw 11 p (ci_11 (Nat.lt_of_lt_of_le hp (by decide))) (bi_11 (Nat.lt_of_lt_of_le hp (by decide)) hn) rfl rfl (c_X2_isLong hn (Nat.lt_of_lt_of_le hp (by decide)) h) rfl rfl ⟨Nat.le_of_ble_eq_true rfl, Nat.le_of_ble_eq_true rfl⟩ rfl hl.1 rfl (Nat.le_of_ble_eq_true rfl) dX0_rowOnDay_21 ⟨Nat.zero_le _, Nat.zero_le _⟩) ?_
    clear h hw; intro v4 M3 H locs hw hz_v4 h
    refine g_if_eq (tgt := 42) hx hb h dX0_rowOnDay_24 (by decide) ?_ ?_
    · clear h; intro h
      refine lv_aload_n hx hb dX0_rowOnDay_42 rfl (lv_at hl 0 rfl) ?_
      refine g_getf hx hb hts in_X0 hown hw 5 p (ci_5 hp) (bi_5 hp hn) rfl rfl 4 (by decide) kX0_31 rfl dX0_rowOnDay_43 ?_
      refine lv_iload_n hx hb dX0_rowOnDay_46 rfl (lv_at hl 1 rfl) ?_
      refine g_iald hx hb hw 8 p (ci_8 hp) (bi_8 hp hn) rfl h dX0_rowOnDay_47 ?_
      clear h; intro v5 h
      exact g_iret hx hb hr hlocks hw h dX0_rowOnDay_48
    · clear h; intro h
      refine lv_aload_n hx hb dX0_rowOnDay_27 rfl (lv_at hl 0 rfl) ?_
      refine g_getf hx hb hts in_X0 hown hw 5 p (ci_5 hp) (bi_5 hp hn) rfl rfl 3 (by decide) kX0_28 rfl dX0_rowOnDay_28 ?_
      refine lv_iload_n hx hb dX0_rowOnDay_31 rfl (lv_at hl 1 rfl) ?_
      refine g_aldR hx hb hw hp hn h dX0_rowOnDay_32 ?_
      clear h; intro k6 hk6 h
      refine lv_aload_n hx hb dX0_rowOnDay_33 rfl (lv_at hl 0 rfl) ?_
      refine lv_iload_n hx hb dX0_rowOnDay_34 rfl (lv_at hl 2 rfl) ?_
      refine g_ci hw (g_runV (As := [.int x2]) (rest := [.ref (o.2.1 12 (24 * p + k6))]) hx hb hml hown hts mX0_weekOfDay vX0_weekOfDay kX0_124 hw 5 p (ci_5 hp) (bi_5 hp hn) rfl rfl (c_X0_weekOfDay hn hp h) rfl rfl ⟨Nat.le_of_ble_eq_true rfl, Nat.le_of_ble_eq_true rfl⟩ rfl hl.1 rfl (Nat.le_of_ble_eq_true rfl) dX0_rowOnDay_35 ⟨Nat.zero_le _, Nat.zero_le _⟩) ?_
      clear h hw; intro v8 M7 H locs hw h
      refine g_iald hx hb hw 12 (24 * p + k6) (ci_12 (r_48 hp hk6)) (bi_12 (r_48 hp hk6) hn) rfl h dX0_rowOnDay_38 ?_
      clear h; intro v9 h
      refine lv_goto (tgt := 48) hx hb dX0_rowOnDay_39 (by decide) ?_
      exact g_iret hx hb hr hlocks hw h dX0_rowOnDay_48
  · clear h; intro h
    refine lv_bipush (v := (-9)) hx hb dX0_rowOnDay_13 (by decide) ?_
    exact g_iret hx hb hr hlocks hw h dX0_rowOnDay_15
abbrev rm_X0_entryInRow : Room := { frames := 2, cells := 0, slots := 0, locals := 45 }
set_option maxHeartbeats 4000000 in
set_option maxRecDepth 100000 in
theorem c_X0_entryInRow {o : Om} {l : Launch} (hn : 115 ≤ o.2.2.2) {p : Nat} (hp : p < 2) {M : Mm} {x1 : Int32} {x2 : Int32} {Q : Int32 → Mm → Prop} (h : w_X0_entryInRow p M x1 x2 Q) : CI o l yX0_entryInRow cX0_entryInRow 4 rm_X0_entryInRow [.ref (o.2.1 5 p), .int x1, .int x2] M Q := by
  refine g_start (by decide +kernel) (Nat.le_of_ble_eq_true rfl) ?_
  intro p' e s m args below meth c hx hb hr hlocks hml hown hts hw ls hl
  replace hl : lv_has ls 4 [(0, .ref (o.2.1 5 p)), (1, .int x1), (2, .int x2)] := hl
  unfold w_X0_entryInRow at h
  refine lv_iconst (v := 0) hx hb dX0_entryInRow_0 (by decide) ?_
  refine lv_istore_n (lv' := [(3, .int (0 : Int32)), (0, .ref (o.2.1 5 p)), (1, .int x1), (2, .int x2)]) hx hb dX0_entryInRow_1 rfl hl (by decide) rfl ?_
  clear hl; clear ls; intro ls hl
  obtain ⟨n, h⟩ := h
  refine letK_W (body := fun K => w_X0_entryInRow_L2 p x1 x2 Q K) (fun (x : Int32 × Mm) => ∀ (H : Heap) (locs : List Loc) (ls : Array Slot), WO o (WA o) s s.heap H locs x.2 → lv_has ls 4 [] → W p' l e rm_X0_entryInRow s m args below meth c H locs 0 0 (MQ below (QI o Q) args s 0 0 (WA o)) (F0 m 31 ls [])) h ?_ ?_
  · clear h hw hl; clear ls; intro x h H locs ls hw hl
    obtain ⟨v8, M9⟩ := x
    replace hl : lv_has ls 4 [] := hl
    dsimp only at h hw
    refine lv_bipush (v := (-9)) hx hb dX0_entryInRow_31 (by decide) ?_
    exact g_iret hx hb hr hlocks hw h dX0_entryInRow_33
  clear h; intro K3 hK3 h
  refine loop_W (body := w_X0_entryInRow_L2 p x1 x2 Q K3) (fun (x : Int32 × Mm) => ∀ (H : Heap) (locs : List Loc) (ls : Array Slot), WO o (WA o) s s.heap H locs x.2 → lv_has ls 4 [(0, .ref (o.2.1 5 p)), (1, .int x1), (2, .int x2), (3, .int x.1)] → W p' l e rm_X0_entryInRow s m args below meth c H locs 0 0 (MQ below (QI o Q) args s 0 0 (WA o)) (F0 m 2 ls [])) ?_ n _ h _ _ _ hw (lv_sub hl [1, 2, 3, 0] rfl)
  clear h hw hl; clear ls; intro R4 x hR4 h H locs ls hw hl
  obtain ⟨v1, M2⟩ := x
  replace hl : lv_has ls 4 [(0, .ref (o.2.1 5 p)), (1, .int x1), (2, .int x2), (3, .int v1)] := hl
  dsimp only at hw
  unfold w_X0_entryInRow_L2 at h
  dsimp only at h
  refine lv_iload_n hx hb dX0_entryInRow_2 rfl (lv_at hl 3 rfl) ?_
  refine lv_aload_n hx hb dX0_entryInRow_3 rfl (lv_at hl 0 rfl) ?_
  refine g_getf hx hb hts in_X0 hown hw 5 p (ci_5 hp) (bi_5 hp hn) rfl rfl 0 (by decide) kX0_12 rfl dX0_entryInRow_4 ?_
  refine g_getf hx hb hts in_X2 hown hw 11 p (ci_11 (Nat.lt_of_lt_of_le hp (by decide))) (bi_11 (Nat.lt_of_lt_of_le hp (by decide)) hn) rfl rfl 4 (by decide) kX0_72 rfl dX0_entryInRow_7 ?_
  refine g_icmp_ge (tgt := 31) hx hb h dX0_entryInRow_10 (by decide) ?_ ?_
  · clear h; intro h
    exact hK3 (v1, M2) h _ _ _ hw (lv_sub hl [] rfl)
  · clear h; intro h
    refine lv_aload_n hx hb dX0_entryInRow_13 rfl (lv_at hl 0 rfl) ?_
    refine lv_iload_n hx hb dX0_entryInRow_14 rfl (lv_at hl 3 rfl) ?_
    refine lv_iload_n hx hb dX0_entryInRow_15 rfl (lv_at hl 1 rfl) ?_
    refine g_ci hw (g_runV (As := [.int v1, .int x1]) (rest := []) hx hb hml hown hts mX0_rowOnDay vX0_rowOnDay kX0_127 hw 5 p (ci_5 hp) (bi_5 hp hn) rfl rfl (c_X0_rowOnDay hn hp h) rfl rfl ⟨Nat.le_of_ble_eq_true rfl, Nat.le_of_ble_eq_true rfl⟩ rfl hl.1 rfl (Nat.le_of_ble_eq_true rfl) dX0_entryInRow_16 ⟨Nat.zero_le _, Nat.zero_le _⟩) ?_
    clear h hw; intro v6 M5 H locs hw h
    refine lv_iload_n hx hb dX0_entryInRow_19 rfl (lv_at hl 2 rfl) ?_
    refine g_icmp_ne (tgt := 25) hx hb h dX0_entryInRow_20 (by decide) ?_ ?_
    · clear h; intro h
      refine g_iinc (k := 3) (v := (v1 + (1 : Int32))) (lv' := fun v7 => [(3, .int v7), (0, .ref (o.2.1 5 p)), (1, .int x1), (2, .int x2)]) hx hb dX0_entryInRow_25 hl rfl rfl (by decide) (fun _ => rfl) h ?_
      clear h hl; clear ls; intro v7 ls h hl
      refine lv_goto (tgt := 2) hx hb dX0_entryInRow_28 (by decide) ?_
      exact hR4 (v7, M5) h _ _ _ hw (lv_sub hl [1, 2, 3, 0] rfl)
    · clear h; intro h
      refine lv_iload_n hx hb dX0_entryInRow_23 rfl (lv_at hl 3 rfl) ?_
      exact g_iret hx hb hr hlocks hw h dX0_entryInRow_24
abbrev rm_X0_rowsOnDay : Room := { frames := 0, cells := 0, slots := 0, locals := 0 }
set_option maxHeartbeats 4000000 in
set_option maxRecDepth 100000 in
theorem c_X0_rowsOnDay {o : Om} {l : Launch} (hn : 115 ≤ o.2.2.2) {p : Nat} (hp : p < 2) {M : Mm} {x1 : Int32} {Q : Int32 → Mm → Prop} (h : w_X0_rowsOnDay p M x1 Q) : CI o l yX0_rowsOnDay cX0_rowsOnDay 3 rm_X0_rowsOnDay [.ref (o.2.1 5 p), .int x1] M Q := by
  refine g_start (by decide +kernel) (Nat.le_of_ble_eq_true rfl) ?_
  intro p' e s m args below meth c hx hb hr hlocks hml hown hts hw ls hl
  replace hl : lv_has ls 3 [(0, .ref (o.2.1 5 p)), (1, .int x1)] := hl
  unfold w_X0_rowsOnDay at h
  refine lv_bipush (v := 24) hx hb dX0_rowsOnDay_0 (by decide) ?_
  refine lv_istore_n (lv' := [(2, .int (24 : Int32)), (0, .ref (o.2.1 5 p)), (1, .int x1)]) hx hb dX0_rowsOnDay_2 rfl hl (by decide) rfl ?_
  clear hl; clear ls; intro ls hl
  obtain ⟨n, h⟩ := h
  refine letK_W (body := fun K => w_X0_rowsOnDay_L3 p x1 K) (fun (x : Int32 × Mm) => ∀ (H : Heap) (locs : List Loc) (ls : Array Slot), WO o (WA o) s s.heap H locs x.2 → lv_has ls 3 [(2, .int x.1)] → W p' l e rm_X0_rowsOnDay s m args below meth c H locs 0 0 (MQ below (QI o Q) args s 0 0 (WA o)) (F0 m 36 ls [])) h ?_ ?_
  · clear h hw hl; clear ls; intro x h H locs ls hw hl
    obtain ⟨v7, M8⟩ := x
    replace hl : lv_has ls 3 [(2, .int v7)] := hl
    dsimp only at h hw
    refine lv_iload_n hx hb dX0_rowsOnDay_36 rfl (lv_at hl 0 rfl) ?_
    exact g_iret hx hb hr hlocks hw h dX0_rowsOnDay_37
  clear h; intro K3 hK3 h
  refine loop_W (body := w_X0_rowsOnDay_L3 p x1 K3) (fun (x : Int32 × Mm) => ∀ (H : Heap) (locs : List Loc) (ls : Array Slot), WO o (WA o) s s.heap H locs x.2 → lv_has ls 3 [(0, .ref (o.2.1 5 p)), (1, .int x1), (2, .int x.1)] → W p' l e rm_X0_rowsOnDay s m args below meth c H locs 0 0 (MQ below (QI o Q) args s 0 0 (WA o)) (F0 m 3 ls [])) ?_ n _ h _ _ _ hw (lv_sub hl [1, 2, 0] rfl)
  clear h hw hl; clear ls; intro R4 x hR4 h H locs ls hw hl
  obtain ⟨v1, M2⟩ := x
  replace hl : lv_has ls 3 [(0, .ref (o.2.1 5 p)), (1, .int x1), (2, .int v1)] := hl
  dsimp only at hw
  unfold w_X0_rowsOnDay_L3 at h
  dsimp only at h
  refine lv_iload_n hx hb dX0_rowsOnDay_3 rfl (lv_at hl 2 rfl) ?_
  refine g_if_le (tgt := 36) hx hb h dX0_rowsOnDay_4 (by decide) ?_ ?_
  · clear h; intro h
    exact hK3 (v1, M2) h _ _ _ hw (lv_sub hl [2] rfl)
  · clear h; intro h
    refine lv_aload_n hx hb dX0_rowsOnDay_7 rfl (lv_at hl 0 rfl) ?_
    refine g_getf hx hb hts in_X0 hown hw 5 p (ci_5 hp) (bi_5 hp hn) rfl rfl 5 (by decide) kX0_34 rfl dX0_rowsOnDay_8 ?_
    refine lv_iload_n hx hb dX0_rowsOnDay_11 rfl (lv_at hl 1 rfl) ?_
    refine lv_aload_n hx hb dX0_rowsOnDay_12 rfl (lv_at hl 0 rfl) ?_
    refine g_getf hx hb hts in_X0 hown hw 5 p (ci_5 hp) (bi_5 hp hn) rfl rfl 0 (by decide) kX0_12 rfl dX0_rowsOnDay_13 ?_
    refine g_getf hx hb hts in_X2 hown hw 11 p (ci_11 (Nat.lt_of_lt_of_le hp (by decide))) (bi_11 (Nat.lt_of_lt_of_le hp (by decide)) hn) rfl rfl 0 (by decide) kX0_63 rfl dX0_rowsOnDay_16 ?_
    refine lv_isub hx hb dX0_rowsOnDay_19 ?_
    refine g_iald hx hb hw 9 p (ci_9 hp) (bi_9 hp hn) rfl h dX0_rowsOnDay_20 ?_
    clear h; intro v5 h
    refine lv_iload_n hx hb dX0_rowsOnDay_21 rfl (lv_at hl 2 rfl) ?_
    refine lv_iconst (v := 1) hx hb dX0_rowsOnDay_22 (by decide) ?_
    refine lv_isub hx hb dX0_rowsOnDay_23 ?_
    refine lv_ishr hx hb dX0_rowsOnDay_24 ?_
    refine lv_iconst (v := 1) hx hb dX0_rowsOnDay_25 (by decide) ?_
    refine lv_iand hx hb dX0_rowsOnDay_26 ?_
    refine g_if_ne (tgt := 36) hx hb h dX0_rowsOnDay_27 (by decide) ?_ ?_
    · clear h; intro h
      exact hK3 (v1, M2) h _ _ _ hw (lv_sub hl [2] rfl)
    · clear h; intro h
      refine g_iinc (k := 2) (v := (v1 + (-1 : Int32))) (lv' := fun v6 => [(2, .int v6), (0, .ref (o.2.1 5 p)), (1, .int x1)]) hx hb dX0_rowsOnDay_30 hl rfl rfl (by decide) (fun _ => rfl) h ?_
      clear h hl; clear ls; intro v6 ls h hl
      refine lv_goto (tgt := 3) hx hb dX0_rowsOnDay_33 (by decide) ?_
      exact hR4 (v6, M2) h _ _ _ hw (lv_sub hl [1, 2, 0] rfl)
abbrev rm_J6_bitCount_0f7a4 : Room := { frames := 0, cells := 0, slots := 0, locals := 0 }
set_option maxHeartbeats 4000000 in
set_option maxRecDepth 100000 in
theorem c_J6_bitCount_0f7a4 {o : Om} {l : Launch} (hn : 115 ≤ o.2.2.2) {M : Mm} {x0 : Int32} {Q : Int32 → Mm → Prop} (h : w_J6_bitCount_0f7a4 M x0 Q) : CI o l yJ6_bitCount_0f7a4 cJ6_bitCount_0f7a4 1 rm_J6_bitCount_0f7a4 [.int x0] M Q := by
  refine g_start (by decide +kernel) (Nat.le_of_ble_eq_true rfl) ?_
  intro p e s m args below meth c hx hb hr hlocks hml hown hts hw ls hl
  replace hl : lv_has ls 1 [(0, .int x0)] := hl
  unfold w_J6_bitCount_0f7a4 at h
  refine lv_iload_n hx hb dJ6_bitCount_0f7a4_0 rfl (lv_at hl 0 rfl) ?_
  refine lv_iload_n hx hb dJ6_bitCount_0f7a4_1 rfl (lv_at hl 0 rfl) ?_
  refine lv_iconst (v := 1) hx hb dJ6_bitCount_0f7a4_2 (by decide) ?_
  refine lv_iushr hx hb dJ6_bitCount_0f7a4_3 rfl ?_
  refine lv_ldcw hx hb hown (hts _ kJ6_265) dJ6_bitCount_0f7a4_4 ?_
  refine lv_iand hx hb dJ6_bitCount_0f7a4_7 ?_
  refine lv_isub hx hb dJ6_bitCount_0f7a4_8 ?_
  refine g_topi h ?_
  clear h; intro v1 h
  refine lv_istore_n (lv' := [(0, .int v1)]) hx hb dJ6_bitCount_0f7a4_9 rfl hl (by decide) rfl ?_
  clear hl; clear ls; intro ls hl
  refine lv_iload_n hx hb dJ6_bitCount_0f7a4_10 rfl (lv_at hl 0 rfl) ?_
  refine lv_ldcw hx hb hown (hts _ kJ6_266) dJ6_bitCount_0f7a4_11 ?_
  refine lv_iand hx hb dJ6_bitCount_0f7a4_14 ?_
  refine lv_iload_n hx hb dJ6_bitCount_0f7a4_15 rfl (lv_at hl 0 rfl) ?_
  refine lv_iconst (v := 2) hx hb dJ6_bitCount_0f7a4_16 (by decide) ?_
  refine lv_iushr hx hb dJ6_bitCount_0f7a4_17 rfl ?_
  refine lv_ldcw hx hb hown (hts _ kJ6_266) dJ6_bitCount_0f7a4_18 ?_
  refine lv_iand hx hb dJ6_bitCount_0f7a4_21 ?_
  refine lv_iadd hx hb dJ6_bitCount_0f7a4_22 ?_
  refine g_topi h ?_
  clear h; intro v2 h
  refine lv_istore_n (lv' := [(0, .int v2)]) hx hb dJ6_bitCount_0f7a4_23 rfl hl (by decide) rfl ?_
  clear hl; clear ls; intro ls hl
  refine lv_iload_n hx hb dJ6_bitCount_0f7a4_24 rfl (lv_at hl 0 rfl) ?_
  refine lv_iload_n hx hb dJ6_bitCount_0f7a4_25 rfl (lv_at hl 0 rfl) ?_
  refine lv_iconst (v := 4) hx hb dJ6_bitCount_0f7a4_26 (by decide) ?_
  refine lv_iushr hx hb dJ6_bitCount_0f7a4_27 rfl ?_
  refine lv_iadd hx hb dJ6_bitCount_0f7a4_28 ?_
  refine lv_ldcw hx hb hown (hts _ kJ6_267) dJ6_bitCount_0f7a4_29 ?_
  refine lv_iand hx hb dJ6_bitCount_0f7a4_32 ?_
  refine g_topi h ?_
  clear h; intro v3 h
  refine lv_istore_n (lv' := [(0, .int v3)]) hx hb dJ6_bitCount_0f7a4_33 rfl hl (by decide) rfl ?_
  clear hl; clear ls; intro ls hl
  refine lv_iload_n hx hb dJ6_bitCount_0f7a4_34 rfl (lv_at hl 0 rfl) ?_
  refine lv_iload_n hx hb dJ6_bitCount_0f7a4_35 rfl (lv_at hl 0 rfl) ?_
  refine lv_bipush (v := 8) hx hb dJ6_bitCount_0f7a4_36 (by decide) ?_
  refine lv_iushr hx hb dJ6_bitCount_0f7a4_38 rfl ?_
  refine lv_iadd hx hb dJ6_bitCount_0f7a4_39 ?_
  refine g_topi h ?_
  clear h; intro v4 h
  refine lv_istore_n (lv' := [(0, .int v4)]) hx hb dJ6_bitCount_0f7a4_40 rfl hl (by decide) rfl ?_
  clear hl; clear ls; intro ls hl
  refine lv_iload_n hx hb dJ6_bitCount_0f7a4_41 rfl (lv_at hl 0 rfl) ?_
  refine lv_iload_n hx hb dJ6_bitCount_0f7a4_42 rfl (lv_at hl 0 rfl) ?_
  refine lv_bipush (v := 16) hx hb dJ6_bitCount_0f7a4_43 (by decide) ?_
  refine lv_iushr hx hb dJ6_bitCount_0f7a4_45 rfl ?_
  refine lv_iadd hx hb dJ6_bitCount_0f7a4_46 ?_
  refine g_topi h ?_
  clear h; intro v5 h
  refine lv_istore_n (lv' := [(0, .int v5)]) hx hb dJ6_bitCount_0f7a4_47 rfl hl (by decide) rfl ?_
  clear hl; clear ls; intro ls hl
  refine lv_iload_n hx hb dJ6_bitCount_0f7a4_48 rfl (lv_at hl 0 rfl) ?_
  refine lv_bipush (v := 63) hx hb dJ6_bitCount_0f7a4_49 (by decide) ?_
  refine lv_iand hx hb dJ6_bitCount_0f7a4_51 ?_
  exact g_iret hx hb hr hlocks hw h dJ6_bitCount_0f7a4_52
abbrev rm_X0_hiddenOnDay : Room := { frames := 1, cells := 0, slots := 0, locals := 20 }
set_option maxHeartbeats 4000000 in
set_option maxRecDepth 100000 in
theorem c_X0_hiddenOnDay {o : Om} {l : Launch} (hn : 115 ≤ o.2.2.2) {p : Nat} (hp : p < 2) {M : Mm} {x1 : Int32} {x2 : Int32} {Q : Int32 → Mm → Prop} (h : w_X0_hiddenOnDay p M x1 x2 Q) : CI o l yX0_hiddenOnDay cX0_hiddenOnDay 4 rm_X0_hiddenOnDay [.ref (o.2.1 5 p), .int x1, .int x2] M Q := by
  refine g_start (by decide +kernel) (Nat.le_of_ble_eq_true rfl) ?_
  intro p' e s m args below meth c hx hb hr hlocks hml hown hts hw ls hl
  replace hl : lv_has ls 4 [(0, .ref (o.2.1 5 p)), (1, .int x1), (2, .int x2)] := hl
  unfold w_X0_hiddenOnDay at h
  refine lv_aload_n hx hb dX0_hiddenOnDay_0 rfl (lv_at hl 0 rfl) ?_
  refine g_getf hx hb hts in_X0 hown hw 5 p (ci_5 hp) (bi_5 hp hn) rfl rfl 5 (by decide) kX0_34 rfl dX0_hiddenOnDay_1 ?_
  refine lv_iload_n hx hb dX0_hiddenOnDay_4 rfl (lv_at hl 1 rfl) ?_
  refine lv_aload_n hx hb dX0_hiddenOnDay_5 rfl (lv_at hl 0 rfl) ?_
  refine g_getf hx hb hts in_X0 hown hw 5 p (ci_5 hp) (bi_5 hp hn) rfl rfl 0 (by decide) kX0_12 rfl dX0_hiddenOnDay_6 ?_
  refine g_getf hx hb hts in_X2 hown hw 11 p (ci_11 (Nat.lt_of_lt_of_le hp (by decide))) (bi_11 (Nat.lt_of_lt_of_le hp (by decide)) hn) rfl rfl 0 (by decide) kX0_63 rfl dX0_hiddenOnDay_9 ?_
  refine lv_isub hx hb dX0_hiddenOnDay_12 ?_
  refine g_iald hx hb hw 9 p (ci_9 hp) (bi_9 hp hn) rfl h dX0_hiddenOnDay_13 ?_
  clear h; intro v1 h
  refine lv_istore_n (lv' := [(3, .int v1), (0, .ref (o.2.1 5 p)), (1, .int x1), (2, .int x2)]) hx hb dX0_hiddenOnDay_14 rfl hl (by decide) rfl ?_
  clear hl; clear ls; intro ls hl
  refine lv_iload_n hx hb dX0_hiddenOnDay_15 rfl (lv_at hl 0 rfl) ?_
  refine lv_iload_n hx hb dX0_hiddenOnDay_16 rfl (lv_at hl 3 rfl) ?_
  refine lv_ishr hx hb dX0_hiddenOnDay_17 ?_
  refine g_if_ne (tgt := 25) hx hb h dX0_hiddenOnDay_18 (by decide) ?_ ?_
  · clear h; intro h
    refine lv_iload_n hx hb dX0_hiddenOnDay_25 rfl (lv_at hl 0 rfl) ?_
    refine lv_iload_n hx hb dX0_hiddenOnDay_26 rfl (lv_at hl 3 rfl) ?_
    refine lv_iconst (v := 1) hx hb dX0_hiddenOnDay_27 (by decide) ?_
    refine lv_isub hx hb dX0_hiddenOnDay_28 ?_
    refine lv_ishr hx hb dX0_hiddenOnDay_29 ?_
    refine g_ci hw (g_runS (As := [.int (v1 >>> ((x2 - (1 : Int32)) &&& 31))]) (rest := []) hx hb hml hown hts mJ6_bitCount_0f7a4 sJ6_bitCount_0f7a4 kX0_130 hw (c_J6_bitCount_0f7a4 hn h) rfl rfl ⟨Nat.le_of_ble_eq_true rfl, Nat.le_of_ble_eq_true rfl⟩ rfl hl.1 rfl (Nat.le_of_ble_eq_true rfl) dX0_hiddenOnDay_30 ⟨Nat.zero_le _, Nat.zero_le _⟩) ?_
    clear h hw; intro v3 M2 H locs hw h
    exact g_iret hx hb hr hlocks hw h dX0_hiddenOnDay_33
  · clear h; intro h
    refine lv_iconst (v := 0) hx hb dX0_hiddenOnDay_21 (by decide) ?_
    refine lv_goto (tgt := 33) hx hb dX0_hiddenOnDay_22 (by decide) ?_
    exact g_iret hx hb hr hlocks hw h dX0_hiddenOnDay_33
abbrev rm_X0_hiddenOnDays : Room := { frames := 2, cells := 0, slots := 0, locals := 43 }
set_option maxHeartbeats 4000000 in
set_option maxRecDepth 100000 in
theorem c_X0_hiddenOnDays {o : Om} {l : Launch} (hn : 115 ≤ o.2.2.2) {p : Nat} (hp : p < 2) {M : Mm} {x1 : Int32} {x2 : Int32} {x3 : Int32} {Q : Int32 → Mm → Prop} (h : w_X0_hiddenOnDays p M x1 x2 x3 Q) : CI o l yX0_hiddenOnDays cX0_hiddenOnDays 6 rm_X0_hiddenOnDays [.ref (o.2.1 5 p), .int x1, .int x2, .int x3] M Q := by
  refine g_start (by decide +kernel) (Nat.le_of_ble_eq_true rfl) ?_
  intro p' e s m args below meth c hx hb hr hlocks hml hown hts hw ls hl
  replace hl : lv_has ls 6 [(0, .ref (o.2.1 5 p)), (1, .int x1), (2, .int x2), (3, .int x3)] := hl
  unfold w_X0_hiddenOnDays at h
  refine lv_iconst (v := 0) hx hb dX0_hiddenOnDays_0 (by decide) ?_
  refine lv_istore (lv' := [(4, .int (0 : Int32)), (0, .ref (o.2.1 5 p)), (1, .int x1), (2, .int x2), (3, .int x3)]) hx hb dX0_hiddenOnDays_1 hl (by decide) rfl ?_
  clear hl; clear ls; intro ls hl
  refine lv_iload_n hx hb dX0_hiddenOnDays_3 rfl (lv_at hl 2 rfl) ?_
  refine lv_istore (lv' := [(5, .int x1), (4, .int (0 : Int32)), (0, .ref (o.2.1 5 p)), (1, .int x1), (2, .int x2), (3, .int x3)]) hx hb dX0_hiddenOnDays_4 hl (by decide) rfl ?_
  clear hl; clear ls; intro ls hl
  obtain ⟨n, h⟩ := h
  refine letK_W (body := fun K => w_X0_hiddenOnDays_L6 p x2 x3 K) (fun (x : Int32 × Int32 × Mm) => ∀ (H : Heap) (locs : List Loc) (ls : Array Slot), WO o (WA o) s s.heap H locs x.2.2 → lv_has ls 6 [(4, .int x.1)] → W p' l e rm_X0_hiddenOnDays s m args below meth c H locs 0 0 (MQ below (QI o Q) args s 0 0 (WA o)) (F0 m 30 ls [])) h ?_ ?_
  · clear h hw hl; clear ls; intro x h H locs ls hw hl
    obtain ⟨v10, v11, M12⟩ := x
    replace hl : lv_has ls 6 [(4, .int v10)] := hl
    dsimp only at h hw
    refine lv_iload hx hb dX0_hiddenOnDays_30 (lv_at hl 0 rfl) ?_
    exact g_iret hx hb hr hlocks hw h dX0_hiddenOnDays_32
  clear h; intro K4 hK4 h
  refine loop_W (body := w_X0_hiddenOnDays_L6 p x2 x3 K4) (fun (x : Int32 × Int32 × Mm) => ∀ (H : Heap) (locs : List Loc) (ls : Array Slot), WO o (WA o) s s.heap H locs x.2.2 → lv_has ls 6 [(0, .ref (o.2.1 5 p)), (2, .int x2), (3, .int x3), (4, .int x.1), (5, .int x.2.1)] → W p' l e rm_X0_hiddenOnDays s m args below meth c H locs 0 0 (MQ below (QI o Q) args s 0 0 (WA o)) (F0 m 6 ls [])) ?_ n _ h _ _ _ hw (lv_sub hl [2, 4, 5, 1, 0] rfl)
  clear h hw hl; clear ls; intro R5 x hR5 h H locs ls hw hl
  obtain ⟨v1, v2, M3⟩ := x
  replace hl : lv_has ls 6 [(0, .ref (o.2.1 5 p)), (2, .int x2), (3, .int x3), (4, .int v1), (5, .int v2)] := hl
  dsimp only at hw
  unfold w_X0_hiddenOnDays_L6 at h
  dsimp only at h
  refine lv_iload hx hb dX0_hiddenOnDays_6 (lv_at hl 4 rfl) ?_
  refine lv_iload_n hx hb dX0_hiddenOnDays_8 rfl (lv_at hl 1 rfl) ?_
  refine g_icmp_gt (tgt := 30) hx hb h dX0_hiddenOnDays_9 (by decide) ?_ ?_
  · clear h; intro h
    exact hK4 (v1, v2, M3) h _ _ _ hw (lv_sub hl [3] rfl)
  · clear h; intro h
    refine lv_iload hx hb dX0_hiddenOnDays_12 (lv_at hl 3 rfl) ?_
    refine lv_aload_n hx hb dX0_hiddenOnDays_14 rfl (lv_at hl 0 rfl) ?_
    refine lv_iload hx hb dX0_hiddenOnDays_15 (lv_at hl 4 rfl) ?_
    refine lv_iload_n hx hb dX0_hiddenOnDays_17 rfl (lv_at hl 2 rfl) ?_
    refine g_ci hw (g_runV (As := [.int v2, .int x3]) (rest := [.int v1]) hx hb hml hown hts mX0_hiddenOnDay vX0_hiddenOnDay kX0_135 hw 5 p (ci_5 hp) (bi_5 hp hn) rfl rfl (c_X0_hiddenOnDay hn hp h) rfl rfl ⟨Nat.le_of_ble_eq_true rfl, Nat.le_of_ble_eq_true rfl⟩ rfl hl.1 rfl (Nat.le_of_ble_eq_true rfl) dX0_hiddenOnDays_18 ⟨Nat.zero_le _, Nat.zero_le _⟩) ?_
    clear h hw; intro v7 M6 H locs hw h
    refine lv_iadd hx hb dX0_hiddenOnDays_21 ?_
    refine g_topi h ?_
    clear h; intro v8 h
    refine lv_istore (lv' := [(4, .int v8), (0, .ref (o.2.1 5 p)), (2, .int x2), (3, .int x3), (5, .int v2)]) hx hb dX0_hiddenOnDays_22 hl (by decide) rfl ?_
    clear hl; clear ls; intro ls hl
    refine g_iinc (k := 4) (v := (v2 + (1 : Int32))) (lv' := fun v9 => [(5, .int v9), (4, .int v8), (0, .ref (o.2.1 5 p)), (2, .int x2), (3, .int x3)]) hx hb dX0_hiddenOnDays_24 hl rfl rfl (by decide) (fun _ => rfl) h ?_
    clear h hl; clear ls; intro v9 ls h hl
    refine lv_goto (tgt := 6) hx hb dX0_hiddenOnDays_27 (by decide) ?_
    exact hR5 (v8, v9, M6) h _ _ _ hw (lv_sub hl [2, 3, 4, 1, 0] rfl)
abbrev rm_X0_hiddenOnPage : Room := { frames := 3, cells := 0, slots := 0, locals := 68 }
set_option maxHeartbeats 4000000 in
set_option maxRecDepth 100000 in
theorem c_X0_hiddenOnPage {o : Om} {l : Launch} (hn : 115 ≤ o.2.2.2) {p : Nat} (hp : p < 2) {M : Mm} {x1 : Int32} {Q : Int32 → Mm → Prop} (h : w_X0_hiddenOnPage p M x1 Q) : CI o l yX0_hiddenOnPage cX0_hiddenOnPage 2 rm_X0_hiddenOnPage [.ref (o.2.1 5 p), .int x1] M Q := by
  refine g_start (by decide +kernel) (Nat.le_of_ble_eq_true rfl) ?_
  intro p' e s m args below meth c hx hb hr hlocks hml hown hts hw ls hl
  replace hl : lv_has ls 2 [(0, .ref (o.2.1 5 p)), (1, .int x1)] := hl
  unfold w_X0_hiddenOnPage at h
  refine lv_aload_n hx hb dX0_hiddenOnPage_0 rfl (lv_at hl 0 rfl) ?_
  refine lv_aload_n hx hb dX0_hiddenOnPage_1 rfl (lv_at hl 0 rfl) ?_
  refine g_getf hx hb hts in_X0 hown hw 5 p (ci_5 hp) (bi_5 hp hn) rfl rfl 0 (by decide) kX0_12 rfl dX0_hiddenOnPage_2 ?_
  refine g_getf hx hb hts in_X2 hown hw 11 p (ci_11 (Nat.lt_of_lt_of_le hp (by decide))) (bi_11 (Nat.lt_of_lt_of_le hp (by decide)) hn) rfl rfl 0 (by decide) kX0_63 rfl dX0_hiddenOnPage_5 ?_
  refine lv_aload_n hx hb dX0_hiddenOnPage_8 rfl (lv_at hl 0 rfl) ?_
  refine g_getf hx hb hts in_X0 hown hw 5 p (ci_5 hp) (bi_5 hp hn) rfl rfl 0 (by decide) kX0_12 rfl dX0_hiddenOnPage_9 ?_
  refine g_getf hx hb hts in_X2 hown hw 11 p (ci_11 (Nat.lt_of_lt_of_le hp (by decide))) (bi_11 (Nat.lt_of_lt_of_le hp (by decide)) hn) rfl rfl 1 (by decide) kX0_66 rfl dX0_hiddenOnPage_12 ?_
  refine lv_iload_n hx hb dX0_hiddenOnPage_15 rfl (lv_at hl 1 rfl) ?_
  refine g_ci hw (g_runV (As := [.int (M 11 p 0), .int (M 11 p 1), .int x1]) (rest := []) hx hb hml hown hts mX0_hiddenOnDays vX0_hiddenOnDays kX0_138 hw 5 p (ci_5 hp) (bi_5 hp hn) rfl rfl (c_X0_hiddenOnDays hn hp h) rfl rfl ⟨Nat.le_of_ble_eq_true rfl, Nat.le_of_ble_eq_true rfl⟩ rfl hl.1 rfl (Nat.le_of_ble_eq_true rfl) dX0_hiddenOnPage_16 ⟨Nat.zero_le _, Nat.zero_le _⟩) ?_
  clear h hw; intro v2 M1 H locs hw h
  exact g_iret hx hb hr hlocks hw h dX0_hiddenOnPage_19
abbrev rm_X0_daysHidden : Room := { frames := 2, cells := 0, slots := 0, locals := 45 }
set_option maxHeartbeats 4000000 in
set_option maxRecDepth 100000 in
theorem c_X0_daysHidden {o : Om} {l : Launch} (hn : 115 ≤ o.2.2.2) {p : Nat} (hp : p < 2) {M : Mm} {x1 : Int32} {Q : Int32 → Mm → Prop} (h : w_X0_daysHidden p M x1 Q) : CI o l yX0_daysHidden cX0_daysHidden 4 rm_X0_daysHidden [.ref (o.2.1 5 p), .int x1] M Q := by
  refine g_start (by decide +kernel) (Nat.le_of_ble_eq_true rfl) ?_
  intro p' e s m args below meth c hx hb hr hlocks hml hown hts hw ls hl
  replace hl : lv_has ls 4 [(0, .ref (o.2.1 5 p)), (1, .int x1)] := hl
  unfold w_X0_daysHidden at h
  refine lv_iconst (v := 0) hx hb dX0_daysHidden_0 (by decide) ?_
  refine lv_istore_n (lv' := [(2, .int (0 : Int32)), (0, .ref (o.2.1 5 p)), (1, .int x1)]) hx hb dX0_daysHidden_1 rfl hl (by decide) rfl ?_
  clear hl; clear ls; intro ls hl
  refine lv_aload_n hx hb dX0_daysHidden_2 rfl (lv_at hl 1 rfl) ?_
  refine g_getf hx hb hts in_X0 hown hw 5 p (ci_5 hp) (bi_5 hp hn) rfl rfl 0 (by decide) kX0_12 rfl dX0_daysHidden_3 ?_
  refine g_getf hx hb hts in_X2 hown hw 11 p (ci_11 (Nat.lt_of_lt_of_le hp (by decide))) (bi_11 (Nat.lt_of_lt_of_le hp (by decide)) hn) rfl rfl 0 (by decide) kX0_63 rfl dX0_daysHidden_6 ?_
  refine g_topi h ?_
  clear h; intro v1 h
  refine lv_istore_n (lv' := [(3, .int v1), (2, .int (0 : Int32)), (0, .ref (o.2.1 5 p)), (1, .int x1)]) hx hb dX0_daysHidden_9 rfl hl (by decide) rfl ?_
  clear hl; clear ls; intro ls hl
  obtain ⟨n, h⟩ := h
  refine letK_W (body := fun K => w_X0_daysHidden_L10 p x1 K) (fun (x : Int32 × Int32 × Mm) => ∀ (H : Heap) (locs : List Loc) (ls : Array Slot), WO o (WA o) s s.heap H locs x.2.2 → lv_has ls 4 [(2, .int x.1)] → W p' l e rm_X0_daysHidden s m args below meth c H locs 0 0 (MQ below (QI o Q) args s 0 0 (WA o)) (F0 m 63 ls [])) h ?_ ?_
  · clear h hw hl; clear ls; intro x h H locs ls hw hl
    obtain ⟨v15, v16, M17⟩ := x
    replace hl : lv_has ls 4 [(2, .int v15)] := hl
    dsimp only at h hw
    refine lv_iload_n hx hb dX0_daysHidden_63 rfl (lv_at hl 0 rfl) ?_
    exact g_iret hx hb hr hlocks hw h dX0_daysHidden_64
  clear h; intro K5 hK5 h
  refine loop_W (body := w_X0_daysHidden_L10 p x1 K5) (fun (x : Int32 × Int32 × Mm) => ∀ (H : Heap) (locs : List Loc) (ls : Array Slot), WO o (WA o) s s.heap H locs x.2.2 → lv_has ls 4 [(0, .ref (o.2.1 5 p)), (1, .int x1), (2, .int x.1), (3, .int x.2.1)] → W p' l e rm_X0_daysHidden s m args below meth c H locs 0 0 (MQ below (QI o Q) args s 0 0 (WA o)) (F0 m 10 ls [])) ?_ n _ h _ _ _ hw (lv_sub hl [2, 3, 1, 0] rfl)
  clear h hw hl; clear ls; intro R6 x hR6 h H locs ls hw hl
  obtain ⟨v2, v3, M4⟩ := x
  replace hl : lv_has ls 4 [(0, .ref (o.2.1 5 p)), (1, .int x1), (2, .int v2), (3, .int v3)] := hl
  dsimp only at hw
  unfold w_X0_daysHidden_L10 at h
  dsimp only at h
  refine lv_iload_n hx hb dX0_daysHidden_10 rfl (lv_at hl 3 rfl) ?_
  refine lv_aload_n hx hb dX0_daysHidden_11 rfl (lv_at hl 0 rfl) ?_
  refine g_getf hx hb hts in_X0 hown hw 5 p (ci_5 hp) (bi_5 hp hn) rfl rfl 0 (by decide) kX0_12 rfl dX0_daysHidden_12 ?_
  refine g_getf hx hb hts in_X2 hown hw 11 p (ci_11 (Nat.lt_of_lt_of_le hp (by decide))) (bi_11 (Nat.lt_of_lt_of_le hp (by decide)) hn) rfl rfl 1 (by decide) kX0_66 rfl dX0_daysHidden_15 ?_
  refine g_icmp_gt (tgt := 63) hx hb h dX0_daysHidden_18 (by decide) ?_ ?_
  · clear h; intro h
    exact hK5 (v2, v3, M4) h _ _ _ hw (lv_sub hl [2] rfl)
  · clear h; intro h
    refine lv_aload_n hx hb dX0_daysHidden_21 rfl (lv_at hl 0 rfl) ?_
    refine lv_iload_n hx hb dX0_daysHidden_22 rfl (lv_at hl 1 rfl) ?_
    refine lv_iload_n hx hb dX0_daysHidden_23 rfl (lv_at hl 3 rfl) ?_
    refine g_ci hw (g_runV (As := [.int x1, .int v3]) (rest := []) hx hb hml hown hts mX0_rowOnDay vX0_rowOnDay kX0_127 hw 5 p (ci_5 hp) (bi_5 hp hn) rfl rfl (c_X0_rowOnDay hn hp h) rfl rfl ⟨Nat.le_of_ble_eq_true rfl, Nat.le_of_ble_eq_true rfl⟩ rfl hl.1 rfl (Nat.le_of_ble_eq_true rfl) dX0_daysHidden_24 ⟨Nat.zero_le _, Nat.zero_le _⟩) ?_
    clear h hw; intro v8 M7 H locs hw h
    refine lv_aload_n hx hb dX0_daysHidden_27 rfl (lv_at hl 0 rfl) ?_
    refine g_getf hx hb hts in_X0 hown hw 5 p (ci_5 hp) (bi_5 hp hn) rfl rfl 0 (by decide) kX0_12 rfl dX0_daysHidden_28 ?_
    refine g_getf hx hb hts in_X2 hown hw 11 p (ci_11 (Nat.lt_of_lt_of_le hp (by decide))) (bi_11 (Nat.lt_of_lt_of_le hp (by decide)) hn) rfl rfl 3 (by decide) kX0_142 rfl dX0_daysHidden_31 ?_
    refine lv_iconst (v := 1) hx hb dX0_daysHidden_34 (by decide) ?_
    refine lv_isub hx hb dX0_daysHidden_35 ?_
    refine g_icmp_lt (tgt := 57) hx hb h dX0_daysHidden_36 (by decide) ?_ ?_
    · clear h; intro h
      refine g_iinc (k := 3) (v := (v3 + (1 : Int32))) (lv' := fun v9 => [(3, .int v9), (0, .ref (o.2.1 5 p)), (1, .int x1), (2, .int v2)]) hx hb dX0_daysHidden_57 hl rfl rfl (by decide) (fun _ => rfl) h ?_
      clear h hl; clear ls; intro v9 ls h hl
      refine lv_goto (tgt := 10) hx hb dX0_daysHidden_60 (by decide) ?_
      exact hR6 (v2, v9, M7) h _ _ _ hw (lv_sub hl [1, 2, 3, 0] rfl)
    · clear h; intro h
      refine lv_aload_n hx hb dX0_daysHidden_39 rfl (lv_at hl 0 rfl) ?_
      refine lv_iload_n hx hb dX0_daysHidden_40 rfl (lv_at hl 3 rfl) ?_
      refine lv_aload_n hx hb dX0_daysHidden_41 rfl (lv_at hl 0 rfl) ?_
      refine g_getf hx hb hts in_X0 hown hw 5 p (ci_5 hp) (bi_5 hp hn) rfl rfl 0 (by decide) kX0_12 rfl dX0_daysHidden_42 ?_
      refine g_getf hx hb hts in_X2 hown hw 11 p (ci_11 (Nat.lt_of_lt_of_le hp (by decide))) (bi_11 (Nat.lt_of_lt_of_le hp (by decide)) hn) rfl rfl 3 (by decide) kX0_142 rfl dX0_daysHidden_45 ?_
      refine g_ci hw (g_runV (As := [.int v3, .int (M7 11 p 3)]) (rest := []) hx hb hml hown hts mX0_hiddenOnDay vX0_hiddenOnDay kX0_135 hw 5 p (ci_5 hp) (bi_5 hp hn) rfl rfl (c_X0_hiddenOnDay hn hp h) rfl rfl ⟨Nat.le_of_ble_eq_true rfl, Nat.le_of_ble_eq_true rfl⟩ rfl hl.1 rfl (Nat.le_of_ble_eq_true rfl) dX0_daysHidden_48 ⟨Nat.zero_le _, Nat.zero_le _⟩) ?_
      clear h hw; intro v11 M10 H locs hw h
      refine g_if_le (tgt := 57) hx hb h dX0_daysHidden_51 (by decide) ?_ ?_
      · clear h; intro h
        refine g_iinc (k := 3) (v := (v3 + (1 : Int32))) (lv' := fun v12 => [(3, .int v12), (0, .ref (o.2.1 5 p)), (1, .int x1), (2, .int v2)]) hx hb dX0_daysHidden_57 hl rfl rfl (by decide) (fun _ => rfl) h ?_
        clear h hl; clear ls; intro v12 ls h hl
        refine lv_goto (tgt := 10) hx hb dX0_daysHidden_60 (by decide) ?_
        exact hR6 (v2, v12, M10) h _ _ _ hw (lv_sub hl [1, 2, 3, 0] rfl)
      · clear h; intro h
        refine g_iinc (k := 2) (v := (v2 + (1 : Int32))) (lv' := fun v13 => [(2, .int v13), (0, .ref (o.2.1 5 p)), (1, .int x1), (3, .int v3)]) hx hb dX0_daysHidden_54 hl rfl rfl (by decide) (fun _ => rfl) h ?_
        clear h hl; clear ls; intro v13 ls h hl
        refine g_iinc (k := 3) (v := (v3 + (1 : Int32))) (lv' := fun v14 => [(3, .int v14), (2, .int v13), (0, .ref (o.2.1 5 p)), (1, .int x1)]) hx hb dX0_daysHidden_57 hl rfl rfl (by decide) (fun _ => rfl) h ?_
        clear h hl; clear ls; intro v14 ls h hl
        refine lv_goto (tgt := 10) hx hb dX0_daysHidden_60 (by decide) ?_
        exact hR6 (v13, v14, M10) h _ _ _ hw (lv_sub hl [2, 3, 1, 0] rfl)
abbrev rm_X0_isEmptyOnDays : Room := { frames := 0, cells := 0, slots := 0, locals := 0 }
set_option maxHeartbeats 4000000 in
set_option maxRecDepth 100000 in
theorem c_X0_isEmptyOnDays {o : Om} {l : Launch} (hn : 115 ≤ o.2.2.2) {p : Nat} (hp : p < 2) {M : Mm} {x1 : Int32} {x2 : Int32} {Q : Int32 → Mm → Prop} (h : w_X0_isEmptyOnDays p M x1 x2 Q) : CZ o l yX0_isEmptyOnDays cX0_isEmptyOnDays 4 rm_X0_isEmptyOnDays [.ref (o.2.1 5 p), .int x1, .int x2] M Q := by
  refine g_start (by decide +kernel) (Nat.le_of_ble_eq_true rfl) ?_
  intro p' e s m args below meth c hx hb hr hlocks hml hown hts hw ls hl
  replace hl : lv_has ls 4 [(0, .ref (o.2.1 5 p)), (1, .int x1), (2, .int x2)] := hl
  unfold w_X0_isEmptyOnDays at h
  refine lv_iload_n hx hb dX0_isEmptyOnDays_0 rfl (lv_at hl 1 rfl) ?_
  refine lv_istore_n (lv' := [(3, .int x1), (0, .ref (o.2.1 5 p)), (1, .int x1), (2, .int x2)]) hx hb dX0_isEmptyOnDays_1 rfl hl (by decide) rfl ?_
  clear hl; clear ls; intro ls hl
  obtain ⟨n, h⟩ := h
  refine letK_W (body := fun K => w_X0_isEmptyOnDays_L2 p x2 Q K) (fun (x : Int32 × Mm) => ∀ (H : Heap) (locs : List Loc) (ls : Array Slot), WO o (WA o) s s.heap H locs x.2 → lv_has ls 4 [] → W p' l e rm_X0_isEmptyOnDays s m args below meth c H locs 0 0 (MQ below (QZ o Q) args s 0 0 (WA o)) (F0 m 32 ls [])) h ?_ ?_
  · clear h hw hl; clear ls; intro x h H locs ls hw hl
    obtain ⟨v7, M8⟩ := x
    replace hl : lv_has ls 4 [] := hl
    dsimp only at h hw
    refine lv_iconst (v := 1) hx hb dX0_isEmptyOnDays_32 (by decide) ?_
    exact g_zret hx hb hr hlocks hw (Or.inr rfl) h dX0_isEmptyOnDays_33
  clear h; intro K3 hK3 h
  refine loop_W (body := w_X0_isEmptyOnDays_L2 p x2 Q K3) (fun (x : Int32 × Mm) => ∀ (H : Heap) (locs : List Loc) (ls : Array Slot), WO o (WA o) s s.heap H locs x.2 → lv_has ls 4 [(0, .ref (o.2.1 5 p)), (2, .int x2), (3, .int x.1)] → W p' l e rm_X0_isEmptyOnDays s m args below meth c H locs 0 0 (MQ below (QZ o Q) args s 0 0 (WA o)) (F0 m 2 ls [])) ?_ n _ h _ _ _ hw (lv_sub hl [1, 3, 0] rfl)
  clear h hw hl; clear ls; intro R4 x hR4 h H locs ls hw hl
  obtain ⟨v1, M2⟩ := x
  replace hl : lv_has ls 4 [(0, .ref (o.2.1 5 p)), (2, .int x2), (3, .int v1)] := hl
  dsimp only at hw
  unfold w_X0_isEmptyOnDays_L2 at h
  dsimp only at h
  refine lv_iload_n hx hb dX0_isEmptyOnDays_2 rfl (lv_at hl 2 rfl) ?_
  refine lv_iload_n hx hb dX0_isEmptyOnDays_3 rfl (lv_at hl 1 rfl) ?_
  refine g_icmp_gt (tgt := 32) hx hb h dX0_isEmptyOnDays_4 (by decide) ?_ ?_
  · clear h; intro h
    exact hK3 (v1, M2) h _ _ _ hw (lv_sub hl [] rfl)
  · clear h; intro h
    refine lv_aload_n hx hb dX0_isEmptyOnDays_7 rfl (lv_at hl 0 rfl) ?_
    refine g_getf hx hb hts in_X0 hown hw 5 p (ci_5 hp) (bi_5 hp hn) rfl rfl 5 (by decide) kX0_34 rfl dX0_isEmptyOnDays_8 ?_
    refine lv_iload_n hx hb dX0_isEmptyOnDays_11 rfl (lv_at hl 2 rfl) ?_
    refine lv_aload_n hx hb dX0_isEmptyOnDays_12 rfl (lv_at hl 0 rfl) ?_
    refine g_getf hx hb hts in_X0 hown hw 5 p (ci_5 hp) (bi_5 hp hn) rfl rfl 0 (by decide) kX0_12 rfl dX0_isEmptyOnDays_13 ?_
    refine g_getf hx hb hts in_X2 hown hw 11 p (ci_11 (Nat.lt_of_lt_of_le hp (by decide))) (bi_11 (Nat.lt_of_lt_of_le hp (by decide)) hn) rfl rfl 0 (by decide) kX0_63 rfl dX0_isEmptyOnDays_16 ?_
    refine lv_isub hx hb dX0_isEmptyOnDays_19 ?_
    refine g_iald hx hb hw 9 p (ci_9 hp) (bi_9 hp hn) rfl h dX0_isEmptyOnDays_20 ?_
    clear h; intro v5 h
    refine g_if_eq (tgt := 26) hx hb h dX0_isEmptyOnDays_21 (by decide) ?_ ?_
    · clear h; intro h
      refine g_iinc (k := 2) (v := (v1 + (1 : Int32))) (lv' := fun v6 => [(3, .int v6), (0, .ref (o.2.1 5 p)), (2, .int x2)]) hx hb dX0_isEmptyOnDays_26 hl rfl rfl (by decide) (fun _ => rfl) h ?_
      clear h hl; clear ls; intro v6 ls h hl
      refine lv_goto (tgt := 2) hx hb dX0_isEmptyOnDays_29 (by decide) ?_
      exact hR4 (v6, M2) h _ _ _ hw (lv_sub hl [1, 2, 0] rfl)
    · clear h; intro h
      refine lv_iconst (v := 0) hx hb dX0_isEmptyOnDays_24 (by decide) ?_
      exact g_zret hx hb hr hlocks hw (Or.inl rfl) h dX0_isEmptyOnDays_25
abbrev rm_X2_copy : Room := { frames := 0, cells := 0, slots := 0, locals := 0 }
set_option maxHeartbeats 4000000 in
set_option maxRecDepth 100000 in
theorem c_X2_copy {o : Om} {l : Launch} (hn : 115 ≤ o.2.2.2) {i : Nat} (hi : i < 10) {j : Nat} (hj : j < 10) {M : Mm} {Q : Mm → Prop} (h : w_X2_copy i j M Q) : CV o l yX2_copy cX2_copy 3 rm_X2_copy [.ref (o.2.1 11 i), .ref (o.2.1 11 j)] M Q := by
  refine g_start (by decide +kernel) (Nat.le_of_ble_eq_true rfl) ?_
  intro p e s m args below meth c hx hb hr hlocks hml hown hts hw ls hl
  replace hl : lv_has ls 3 [(0, .ref (o.2.1 11 i)), (1, .ref (o.2.1 11 j))] := hl
  unfold w_X2_copy at h
  refine lv_aload_n hx hb dX2_copy_0 rfl (lv_at hl 0 rfl) ?_
  refine lv_aload_n hx hb dX2_copy_1 rfl (lv_at hl 1 rfl) ?_
  refine g_getf hx hb hts in_X2 hown hw 11 j (ci_11 hj) (bi_11 hj hn) rfl rfl 0 (by decide) kX2_9 rfl dX2_copy_2 ?_
  refine g_putf hx hb hts in_X2 tyX2 tyX2_ok nmX2 hown hw 11 i (ci_11 hi) (bi_11 hi hn) rfl 0 (by decide) rfl rfl kX2_9 (by decide +kernel) (by decide +kernel) (by simp) h dX2_copy_5 ?_
  clear h hw; intro M1 H locs hw h
  refine lv_aload_n hx hb dX2_copy_8 rfl (lv_at hl 0 rfl) ?_
  refine lv_aload_n hx hb dX2_copy_9 rfl (lv_at hl 1 rfl) ?_
  refine g_getf hx hb hts in_X2 hown hw 11 j (ci_11 hj) (bi_11 hj hn) rfl rfl 1 (by decide) kX2_15 rfl dX2_copy_10 ?_
  refine g_putf hx hb hts in_X2 tyX2 tyX2_ok nmX2 hown hw 11 i (ci_11 hi) (bi_11 hi hn) rfl 1 (by decide) rfl rfl kX2_15 (by decide +kernel) (by decide +kernel) (by simp) h dX2_copy_13 ?_
  clear h hw; intro M2 H locs hw h
  refine lv_aload_n hx hb dX2_copy_16 rfl (lv_at hl 0 rfl) ?_
  refine lv_aload_n hx hb dX2_copy_17 rfl (lv_at hl 1 rfl) ?_
  refine g_getf hx hb hts in_X2 hown hw 11 j (ci_11 hj) (bi_11 hj hn) rfl rfl 2 (by decide) kX2_18 rfl dX2_copy_18 ?_
  refine g_putf hx hb hts in_X2 tyX2 tyX2_ok nmX2 hown hw 11 i (ci_11 hi) (bi_11 hi hn) rfl 2 (by decide) rfl rfl kX2_18 (by decide +kernel) (by decide +kernel) (by simp) h dX2_copy_21 ?_
  clear h hw; intro M3 H locs hw h
  refine lv_aload_n hx hb dX2_copy_24 rfl (lv_at hl 0 rfl) ?_
  refine lv_aload_n hx hb dX2_copy_25 rfl (lv_at hl 1 rfl) ?_
  refine g_getf hx hb hts in_X2 hown hw 11 j (ci_11 hj) (bi_11 hj hn) rfl rfl 3 (by decide) kX2_21 rfl dX2_copy_26 ?_
  refine g_putf hx hb hts in_X2 tyX2 tyX2_ok nmX2 hown hw 11 i (ci_11 hi) (bi_11 hi hn) rfl 3 (by decide) rfl rfl kX2_21 (by decide +kernel) (by decide +kernel) (by simp) h dX2_copy_29 ?_
  clear h hw; intro M4 H locs hw h
  refine lv_aload_n hx hb dX2_copy_32 rfl (lv_at hl 0 rfl) ?_
  refine lv_aload_n hx hb dX2_copy_33 rfl (lv_at hl 1 rfl) ?_
  refine g_getf hx hb hts in_X2 hown hw 11 j (ci_11 hj) (bi_11 hj hn) rfl rfl 4 (by decide) kX2_24 rfl dX2_copy_34 ?_
  refine g_putf hx hb hts in_X2 tyX2 tyX2_ok nmX2 hown hw 11 i (ci_11 hi) (bi_11 hi hn) rfl 4 (by decide) rfl rfl kX2_24 (by decide +kernel) (by decide +kernel) (by simp) h dX2_copy_37 ?_
  clear h hw; intro M5 H locs hw h
  refine lv_iconst (v := 0) hx hb dX2_copy_40 (by decide) ?_
  refine lv_istore_n (lv' := [(2, .int (0 : Int32)), (0, .ref (o.2.1 11 i)), (1, .ref (o.2.1 11 j))]) hx hb dX2_copy_41 rfl hl (by decide) rfl ?_
  clear hl; clear ls; intro ls hl
  obtain ⟨n, h⟩ := h
  refine letK_W (body := fun K => w_X2_copy_L42 i j K) (fun (x : Int32 × Mm) => ∀ (H : Heap) (locs : List Loc) (ls : Array Slot), WO o (WA o) s s.heap H locs x.2 → lv_has ls 3 [] → W p l e rm_X2_copy s m args below meth c H locs 0 0 (MQ below (QV o Q) args s 0 0 (WA o)) (F0 m 102 ls [])) h ?_ ?_
  · clear h hw hl; clear ls; intro x h H locs ls hw hl
    obtain ⟨v19, M20⟩ := x
    replace hl : lv_has ls 3 [] := hl
    dsimp only at h hw
    exact g_vret hx hb hr hlocks hw h dX2_copy_102
  clear h; intro K8 hK8 h
  refine loop_W (body := w_X2_copy_L42 i j K8) (fun (x : Int32 × Mm) => ∀ (H : Heap) (locs : List Loc) (ls : Array Slot), WO o (WA o) s s.heap H locs x.2 → lv_has ls 3 [(0, .ref (o.2.1 11 i)), (1, .ref (o.2.1 11 j)), (2, .int x.1)] → W p l e rm_X2_copy s m args below meth c H locs 0 0 (MQ below (QV o Q) args s 0 0 (WA o)) (F0 m 42 ls [])) ?_ n _ h _ _ _ hw (lv_sub hl [1, 2, 0] rfl)
  clear h hw hl; clear ls; intro R9 x hR9 h H locs ls hw hl
  obtain ⟨v6, M7⟩ := x
  replace hl : lv_has ls 3 [(0, .ref (o.2.1 11 i)), (1, .ref (o.2.1 11 j)), (2, .int v6)] := hl
  dsimp only at hw
  unfold w_X2_copy_L42 at h
  dsimp only at h
  refine lv_iload_n hx hb dX2_copy_42 rfl (lv_at hl 2 rfl) ?_
  refine lv_bipush (v := 24) hx hb dX2_copy_43 (by decide) ?_
  refine g_icmp_ge (tgt := 102) hx hb h dX2_copy_45 (by decide) ?_ ?_
  · clear h; intro h
    exact hK8 (v6, M7) h _ _ _ hw (lv_sub hl [] rfl)
  · clear h; intro h
    refine lv_aload_n hx hb dX2_copy_48 rfl (lv_at hl 0 rfl) ?_
    refine g_getf hx hb hts in_X2 hown hw 11 i (ci_11 hi) (bi_11 hi hn) rfl rfl 5 (by decide) kX2_27 rfl dX2_copy_49 ?_
    refine lv_iload_n hx hb dX2_copy_52 rfl (lv_at hl 2 rfl) ?_
    refine lv_aload_n hx hb dX2_copy_53 rfl (lv_at hl 1 rfl) ?_
    refine g_getf hx hb hts in_X2 hown hw 11 j (ci_11 hj) (bi_11 hj hn) rfl rfl 5 (by decide) kX2_27 rfl dX2_copy_54 ?_
    refine lv_iload_n hx hb dX2_copy_57 rfl (lv_at hl 2 rfl) ?_
    refine g_iald hx hb hw 13 j (ci_13 hj) (bi_13 hj hn) rfl h dX2_copy_58 ?_
    clear h; intro v10 h
    refine g_iast hx hb hw 13 i (ci_13 hi) (bi_13 hi hn) (fun _ => rfl) h dX2_copy_59 ?_
    clear h hw; intro M11 H locs hw h
    refine lv_aload_n hx hb dX2_copy_60 rfl (lv_at hl 0 rfl) ?_
    refine g_getf hx hb hts in_X2 hown hw 11 i (ci_11 hi) (bi_11 hi hn) rfl rfl 6 (by decide) kX2_31 rfl dX2_copy_61 ?_
    refine lv_iload_n hx hb dX2_copy_64 rfl (lv_at hl 2 rfl) ?_
    refine lv_aload_n hx hb dX2_copy_65 rfl (lv_at hl 1 rfl) ?_
    refine g_getf hx hb hts in_X2 hown hw 11 j (ci_11 hj) (bi_11 hj hn) rfl rfl 6 (by decide) kX2_31 rfl dX2_copy_66 ?_
    refine lv_iload_n hx hb dX2_copy_69 rfl (lv_at hl 2 rfl) ?_
    refine g_iald hx hb hw 14 j (ci_14 hj) (bi_14 hj hn) rfl h dX2_copy_70 ?_
    clear h; intro v12 h
    refine g_iast hx hb hw 14 i (ci_14 hi) (bi_14 hi hn) (fun _ => rfl) h dX2_copy_71 ?_
    clear h hw; intro M13 H locs hw h
    refine lv_aload_n hx hb dX2_copy_72 rfl (lv_at hl 0 rfl) ?_
    refine g_getf hx hb hts in_X2 hown hw 11 i (ci_11 hi) (bi_11 hi hn) rfl rfl 7 (by decide) kX2_34 rfl dX2_copy_73 ?_
    refine lv_iload_n hx hb dX2_copy_76 rfl (lv_at hl 2 rfl) ?_
    refine lv_aload_n hx hb dX2_copy_77 rfl (lv_at hl 1 rfl) ?_
    refine g_getf hx hb hts in_X2 hown hw 11 j (ci_11 hj) (bi_11 hj hn) rfl rfl 7 (by decide) kX2_34 rfl dX2_copy_78 ?_
    refine lv_iload_n hx hb dX2_copy_81 rfl (lv_at hl 2 rfl) ?_
    refine g_iald hx hb hw 15 j (ci_15 hj) (bi_15 hj hn) rfl h dX2_copy_82 ?_
    clear h; intro v14 h
    refine g_iast hx hb hw 15 i (ci_15 hi) (bi_15 hi hn) (fun _ => rfl) h dX2_copy_83 ?_
    clear h hw; intro M15 H locs hw h
    refine lv_aload_n hx hb dX2_copy_84 rfl (lv_at hl 0 rfl) ?_
    refine g_getf hx hb hts in_X2 hown hw 11 i (ci_11 hi) (bi_11 hi hn) rfl rfl 8 (by decide) kX2_37 rfl dX2_copy_85 ?_
    refine lv_iload_n hx hb dX2_copy_88 rfl (lv_at hl 2 rfl) ?_
    refine lv_aload_n hx hb dX2_copy_89 rfl (lv_at hl 1 rfl) ?_
    refine g_getf hx hb hts in_X2 hown hw 11 j (ci_11 hj) (bi_11 hj hn) rfl rfl 8 (by decide) kX2_37 rfl dX2_copy_90 ?_
    refine lv_iload_n hx hb dX2_copy_93 rfl (lv_at hl 2 rfl) ?_
    refine g_iald hx hb hw 16 j (ci_16 hj) (bi_16 hj hn) rfl h dX2_copy_94 ?_
    clear h; intro v16 h
    refine g_iast hx hb hw 16 i (ci_16 hi) (bi_16 hi hn) (fun _ => rfl) h dX2_copy_95 ?_
    clear h hw; intro M17 H locs hw h
    refine g_iinc (k := 2) (v := (v6 + (1 : Int32))) (lv' := fun v18 => [(2, .int v18), (0, .ref (o.2.1 11 i)), (1, .ref (o.2.1 11 j))]) hx hb dX2_copy_96 hl rfl rfl (by decide) (fun _ => rfl) h ?_
    clear h hl; clear ls; intro v18 ls h hl
    refine lv_goto (tgt := 42) hx hb dX2_copy_99 (by decide) ?_
    exact hR9 (v18, M17) h _ _ _ hw (lv_sub hl [1, 2, 0] rfl)
