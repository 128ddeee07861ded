abbrev rm_X0_cutWeeks : Room := { frames := 0, cells := 0, slots := 0, locals := 0 }
set_option maxHeartbeats 4000000 in
set_option maxRecDepth 100000 in
theorem c_X0_cutWeeks {o : Om} {l : Launch} (hn : 115 ≤ o.2.2.2) {p : Nat} (hp : p < 2) {M : Mm} {Q : Mm → Prop} (h : w_X0_cutWeeks p M Q) : CV o l yX0_cutWeeks cX0_cutWeeks 2 rm_X0_cutWeeks [.ref (o.2.1 5 p)] M Q := by
  refine g_start (by decide +kernel) (Nat.le_of_ble_eq_true rfl) ?_
  intro p' e s m args below meth c hx hb hr hlocks hml hown hts hw ls hl
  replace hl : lv_has ls 2 [(0, .ref (o.2.1 5 p))] := hl
  unfold w_X0_cutWeeks at h
  refine lv_aload_n hx hb dX0_cutWeeks_0 rfl (lv_at hl 0 rfl) ?_
  refine lv_iconst (v := 0) hx hb dX0_cutWeeks_1 (by decide) ?_
  refine g_putf hx hb hts in_X0 tyX0 tyX0_ok nmX0 hown hw 5 p (ci_5 hp) (bi_5 hp hn) rfl 1 (by decide) rfl rfl kX0_18 (by decide +kernel) (by decide +kernel) (by simp) h dX0_cutWeeks_2 ?_
  clear h hw; intro M1 H locs hw h
  refine lv_aload_n hx hb dX0_cutWeeks_5 rfl (lv_at hl 0 rfl) ?_
  refine g_getf hx hb hts in_X0 hown hw 5 p (ci_5 hp) (bi_5 hp hn) rfl rfl 0 (by decide) kX0_12 rfl dX0_cutWeeks_6 ?_
  refine g_getf hx hb hts in_X2 hown hw 11 p (ci_11 (Nat.lt_of_lt_of_le hp (by decide))) (bi_11 (Nat.lt_of_lt_of_le hp (by decide)) hn) rfl rfl 0 (by decide) kX0_63 rfl dX0_cutWeeks_9 ?_
  refine g_topi h ?_
  clear h; intro v2 h
  refine lv_istore_n (lv' := [(1, .int v2), (0, .ref (o.2.1 5 p))]) hx hb dX0_cutWeeks_12 rfl hl (by decide) rfl ?_
  clear hl; clear ls; intro ls hl
  obtain ⟨n, h⟩ := h
  refine letK_W (body := fun K => w_X0_cutWeeks_L13 p K) (fun (x : Int32 × Mm) => ∀ (H : Heap) (locs : List Loc) (ls : Array Slot), WO o (WA o) s s.heap H locs x.2 → lv_has ls 2 [(0, .ref (o.2.1 5 p))] → W p' l e rm_X0_cutWeeks s m args below meth c H locs 0 0 (MQ below (QV o Q) args s 0 0 (WA o)) (F0 m 84 ls [])) h ?_ ?_
  · clear h hw hl; clear ls; intro x h H locs ls hw hl
    obtain ⟨v12, M13⟩ := x
    replace hl : lv_has ls 2 [(0, .ref (o.2.1 5 p))] := hl
    dsimp only at h hw
    refine lv_aload_n hx hb dX0_cutWeeks_84 rfl (lv_at hl 0 rfl) ?_
    refine g_getf hx hb hts in_X0 hown hw 5 p (ci_5 hp) (bi_5 hp hn) rfl rfl 2 (by decide) kX0_22 rfl dX0_cutWeeks_85 ?_
    refine lv_aload_n hx hb dX0_cutWeeks_88 rfl (lv_at hl 0 rfl) ?_
    refine g_getf hx hb hts in_X0 hown hw 5 p (ci_5 hp) (bi_5 hp hn) rfl rfl 1 (by decide) kX0_18 rfl dX0_cutWeeks_89 ?_
    refine lv_aload_n hx hb dX0_cutWeeks_92 rfl (lv_at hl 0 rfl) ?_
    refine g_getf hx hb hts in_X0 hown hw 5 p (ci_5 hp) (bi_5 hp hn) rfl rfl 0 (by decide) kX0_12 rfl dX0_cutWeeks_93 ?_
    refine g_getf hx hb hts in_X2 hown hw 11 p (ci_11 (Nat.lt_of_lt_of_le hp (by decide))) (bi_11 (Nat.lt_of_lt_of_le hp (by decide)) hn) rfl rfl 1 (by decide) kX0_66 rfl dX0_cutWeeks_96 ?_
    refine lv_iconst (v := 1) hx hb dX0_cutWeeks_99 (by decide) ?_
    refine lv_iadd hx hb dX0_cutWeeks_100 ?_
    refine g_iast hx hb hw 6 p (ci_6 hp) (bi_6 hp hn) (fun _ => rfl) h dX0_cutWeeks_101 ?_
    clear h hw; intro M14 H locs hw h
    exact g_vret hx hb hr hlocks hw h dX0_cutWeeks_102
  clear h; intro K5 hK5 h
  refine loop_W (body := w_X0_cutWeeks_L13 p K5) (fun (x : Int32 × Mm) => ∀ (H : Heap) (locs : List Loc) (ls : Array Slot), WO o (WA o) s s.heap H locs x.2 → lv_has ls 2 [(0, .ref (o.2.1 5 p)), (1, .int x.1)] → W p' l e rm_X0_cutWeeks s m args below meth c H locs 0 0 (MQ below (QV o Q) args s 0 0 (WA o)) (F0 m 13 ls [])) ?_ n _ h _ _ _ hw (lv_sub hl [1, 0] rfl)
  clear h hw hl; clear ls; intro R6 x hR6 h H locs ls hw hl
  obtain ⟨v3, M4⟩ := x
  replace hl : lv_has ls 2 [(0, .ref (o.2.1 5 p)), (1, .int v3)] := hl
  dsimp only at hw
  unfold w_X0_cutWeeks_L13 at h
  dsimp only at h
  refine lv_iload_n hx hb dX0_cutWeeks_13 rfl (lv_at hl 1 rfl) ?_
  refine lv_aload_n hx hb dX0_cutWeeks_14 rfl (lv_at hl 0 rfl) ?_
  refine g_getf hx hb hts in_X0 hown hw 5 p (ci_5 hp) (bi_5 hp hn) rfl rfl 0 (by decide) kX0_12 rfl dX0_cutWeeks_15 ?_
  refine g_getf hx hb hts in_X2 hown hw 11 p (ci_11 (Nat.lt_of_lt_of_le hp (by decide))) (bi_11 (Nat.lt_of_lt_of_le hp (by decide)) hn) rfl rfl 1 (by decide) kX0_66 rfl dX0_cutWeeks_18 ?_
  refine g_icmp_gt (tgt := 84) hx hb h dX0_cutWeeks_21 (by decide) ?_ ?_
  · clear h; intro h
    exact hK5 (v3, M4) h _ _ _ hw (lv_sub hl [0] rfl)
  · clear h; intro h
    refine lv_aload_n hx hb dX0_cutWeeks_24 rfl (lv_at hl 0 rfl) ?_
    refine g_getf hx hb hts in_X0 hown hw 5 p (ci_5 hp) (bi_5 hp hn) rfl rfl 1 (by decide) kX0_18 rfl dX0_cutWeeks_25 ?_
    refine lv_bipush (v := 7) hx hb dX0_cutWeeks_28 (by decide) ?_
    refine g_icmp_ge (tgt := 84) hx hb h dX0_cutWeeks_30 (by decide) ?_ ?_
    · clear h; intro h
      exact hK5 (v3, M4) h _ _ _ hw (lv_sub hl [0] rfl)
    · clear h; intro h
      refine lv_iload_n hx hb dX0_cutWeeks_33 rfl (lv_at hl 1 rfl) ?_
      refine lv_aload_n hx hb dX0_cutWeeks_34 rfl (lv_at hl 0 rfl) ?_
      refine g_getf hx hb hts in_X0 hown hw 5 p (ci_5 hp) (bi_5 hp hn) rfl rfl 0 (by decide) kX0_12 rfl dX0_cutWeeks_35 ?_
      refine g_getf hx hb hts in_X2 hown hw 11 p (ci_11 (Nat.lt_of_lt_of_le hp (by decide))) (bi_11 (Nat.lt_of_lt_of_le hp (by decide)) hn) rfl rfl 0 (by decide) kX0_63 rfl dX0_cutWeeks_38 ?_
      refine letJ_W (fun (x : Unit) => ∀ (H : Heap) (locs : List Loc) (ls : Array Slot), WO o (WA o) s s.heap H locs M4 → lv_has ls 2 [(0, .ref (o.2.1 5 p)), (1, .int v3)] → W p' l e rm_X0_cutWeeks s m args below meth c H locs 0 0 (MQ below (QV o Q) args s 0 0 (WA o)) (F0 m 58 ls [])) h ?_ ?_
      · clear h hw hl; clear ls; intro x h H locs ls hw hl
        replace hl : lv_has ls 2 [(0, .ref (o.2.1 5 p)), (1, .int v3)] := hl
        refine lv_aload_n hx hb dX0_cutWeeks_58 rfl (lv_at hl 0 rfl) ?_
        refine g_getf hx hb hts in_X0 hown hw 5 p (ci_5 hp) (bi_5 hp hn) rfl rfl 2 (by decide) kX0_22 rfl dX0_cutWeeks_59 ?_
        refine lv_aload_n hx hb dX0_cutWeeks_62 rfl (lv_at hl 0 rfl) ?_
        refine g_getf hx hb hts in_X0 hown hw 5 p (ci_5 hp) (bi_5 hp hn) rfl rfl 1 (by decide) kX0_18 rfl dX0_cutWeeks_63 ?_
        refine lv_iload_n hx hb dX0_cutWeeks_66 rfl (lv_at hl 1 rfl) ?_
        refine g_iast hx hb hw 6 p (ci_6 hp) (bi_6 hp hn) (fun _ => rfl) h dX0_cutWeeks_67 ?_
        clear h hw; intro M8 H locs hw h
        refine lv_aload_n hx hb dX0_cutWeeks_68 rfl (lv_at hl 0 rfl) ?_
        refine lv_dup hx hb dX0_cutWeeks_69 rfl ?_
        refine g_getf hx hb hts in_X0 hown hw 5 p (ci_5 hp) (bi_5 hp hn) rfl rfl 1 (by decide) kX0_18 rfl dX0_cutWeeks_70 ?_
        refine lv_iconst (v := 1) hx hb dX0_cutWeeks_73 (by decide) ?_
        refine lv_iadd hx hb dX0_cutWeeks_74 ?_
        refine g_putf hx hb hts in_X0 tyX0 tyX0_ok nmX0 hown hw 5 p (ci_5 hp) (bi_5 hp hn) rfl 1 (by decide) rfl rfl kX0_18 (by decide +kernel) (by decide +kernel) (by simp) h dX0_cutWeeks_75 ?_
        clear h hw; intro M9 H locs hw h
        refine g_iinc (k := 1) (v := (v3 + (1 : Int32))) (lv' := fun v10 => [(1, .int v10), (0, .ref (o.2.1 5 p))]) hx hb dX0_cutWeeks_78 hl rfl rfl (by decide) (fun _ => rfl) h ?_
        clear h hl; clear ls; intro v10 ls h hl
        refine lv_goto (tgt := 13) hx hb dX0_cutWeeks_81 (by decide) ?_
        exact hR6 (v10, M9) h _ _ _ hw (lv_sub hl [1, 0] rfl)
      clear h; intro J7 hJ7 h
      refine g_icmp_eq (tgt := 58) hx hb h dX0_cutWeeks_41 (by decide) ?_ ?_
      · clear h; intro h
        exact hJ7 () h _ _ _ hw (lv_sub hl [0, 1] rfl)
      · clear h; intro h
        refine lv_iload_n hx hb dX0_cutWeeks_44 rfl (lv_at hl 1 rfl) ?_
        refine lv_bipush (v := 7) hx hb dX0_cutWeeks_45 (by decide) ?_
        refine lv_irem hx hb dX0_cutWeeks_47 (by decide) ?_
        refine lv_aload_n hx hb dX0_cutWeeks_48 rfl (lv_at hl 0 rfl) ?_
        refine g_getf hx hb hts in_X0 hown hw 5 p (ci_5 hp) (bi_5 hp hn) rfl rfl 0 (by decide) kX0_12 rfl dX0_cutWeeks_49 ?_
        refine g_getf hx hb hts in_X2 hown hw 11 p (ci_11 (Nat.lt_of_lt_of_le hp (by decide))) (bi_11 (Nat.lt_of_lt_of_le hp (by decide)) hn) rfl rfl 2 (by decide) kX0_69 rfl dX0_cutWeeks_52 ?_
        refine g_icmp_ne (tgt := 78) hx hb h dX0_cutWeeks_55 (by decide) ?_ ?_
        · clear h; intro h
          refine g_iinc (k := 1) (v := (v3 + (1 : Int32))) (lv' := fun v11 => [(1, .int v11), (0, .ref (o.2.1 5 p))]) hx hb dX0_cutWeeks_78 hl rfl rfl (by decide) (fun _ => rfl) h ?_
          clear h hl; clear ls; intro v11 ls h hl
          refine lv_goto (tgt := 13) hx hb dX0_cutWeeks_81 (by decide) ?_
          exact hR6 (v11, M4) h _ _ _ hw (lv_sub hl [1, 0] rfl)
        · clear h; intro h
          exact hJ7 () h _ _ _ hw (lv_sub hl [0, 1] rfl)
abbrev rm_X0_wipe : Room := { frames := 0, cells := 0, slots := 0, locals := 0 }
set_option maxHeartbeats 4000000 in
set_option maxRecDepth 100000 in
theorem c_X0_wipe {o : Om} {l : Launch} (hn : 115 ≤ o.2.2.2) {p : Nat} (hp : p < 2) {M : Mm} {Q : Mm → Prop} (h : w_X0_wipe p M Q) : CV o l yX0_wipe cX0_wipe 3 rm_X0_wipe [.ref (o.2.1 5 p)] M Q := by
  refine g_start (by decide +kernel) (Nat.le_of_ble_eq_true rfl) ?_
  intro p' e s m args below meth c hx hb hr hlocks hml hown hts hw ls hl
  replace hl : lv_has ls 3 [(0, .ref (o.2.1 5 p))] := hl
  unfold w_X0_wipe at h
  refine lv_iconst (v := 0) hx hb dX0_wipe_0 (by decide) ?_
  refine lv_istore_n (lv' := [(1, .int (0 : Int32)), (0, .ref (o.2.1 5 p))]) hx hb dX0_wipe_1 rfl hl (by decide) rfl ?_
  clear hl; clear ls; intro ls hl
  obtain ⟨n, h⟩ := h
  refine letK_W (body := fun K => w_X0_wipe_L2 p K) (fun (x : Int32 × Mm) => ∀ (H : Heap) (locs : List Loc) (ls : Array Slot), WO o (WA o) s s.heap H locs x.2 → lv_has ls 3 [(0, .ref (o.2.1 5 p))] → W p' l e rm_X0_wipe s m args below meth c H locs 0 0 (MQ below (QV o Q) args s 0 0 (WA o)) (F0 m 21 ls [])) h ?_ ?_
  · clear h hw hl; clear ls; intro x h H locs ls hw hl
    obtain ⟨v7, M8⟩ := x
    replace hl : lv_has ls 3 [(0, .ref (o.2.1 5 p))] := hl
    dsimp only at h hw
    refine lv_iconst (v := 0) hx hb dX0_wipe_21 (by decide) ?_
    refine lv_istore_n (lv' := [(1, .int (0 : Int32)), (0, .ref (o.2.1 5 p))]) hx hb dX0_wipe_22 rfl hl (by decide) rfl ?_
    clear hl; clear ls; intro ls hl
    obtain ⟨n, h⟩ := h
    refine letK_W (body := fun K => w_X0_wipe_L23 p K) (fun (x : Int32 × Mm) => ∀ (H : Heap) (locs : List Loc) (ls : Array Slot), WO o (WA o) s s.heap H locs x.2 → lv_has ls 3 [] → W p' l e rm_X0_wipe s m args below meth c H locs 0 0 (MQ below (QV o Q) args s 0 0 (WA o)) (F0 m 67 ls [])) h ?_ ?_
    · clear h hw hl; clear ls; intro x h H locs ls hw hl
      obtain ⟨v24, M25⟩ := x
      replace hl : lv_has ls 3 [] := hl
      dsimp only at h hw
      exact g_vret hx hb hr hlocks hw h dX0_wipe_67
    clear h; intro K11 hK11 h
    refine loop_W (body := w_X0_wipe_L23 p K11) (fun (x : Int32 × Mm) => ∀ (H : Heap) (locs : List Loc) (ls : Array Slot), WO o (WA o) s s.heap H locs x.2 → lv_has ls 3 [(0, .ref (o.2.1 5 p)), (1, .int x.1)] → W p' l e rm_X0_wipe s m args below meth c H locs 0 0 (MQ below (QV o Q) args s 0 0 (WA o)) (F0 m 23 ls [])) ?_ n _ h _ _ _ hw (lv_sub hl [1, 0] rfl)
    clear h hw hl; clear ls; intro R12 x hR12 h H locs ls hw hl
    obtain ⟨v9, M10⟩ := x
    replace hl : lv_has ls 3 [(0, .ref (o.2.1 5 p)), (1, .int v9)] := hl
    dsimp only at hw
    unfold w_X0_wipe_L23 at h
    dsimp only at h
    refine lv_iload_n hx hb dX0_wipe_23 rfl (lv_at hl 1 rfl) ?_
    refine lv_bipush (v := 24) hx hb dX0_wipe_24 (by decide) ?_
    refine g_icmp_ge (tgt := 67) hx hb h dX0_wipe_26 (by decide) ?_ ?_
    · clear h; intro h
      exact hK11 (v9, M10) h _ _ _ hw (lv_sub hl [] rfl)
    · clear h; intro h
      refine lv_aload_n hx hb dX0_wipe_29 rfl (lv_at hl 0 rfl) ?_
      refine g_getf hx hb hts in_X0 hown hw 5 p (ci_5 hp) (bi_5 hp hn) rfl rfl 4 (by decide) kX0_31 rfl dX0_wipe_30 ?_
      refine lv_iload_n hx hb dX0_wipe_33 rfl (lv_at hl 1 rfl) ?_
      refine lv_bipush (v := (-9)) hx hb dX0_wipe_34 (by decide) ?_
      refine g_iast hx hb hw 8 p (ci_8 hp) (bi_8 hp hn) (fun _ => rfl) h dX0_wipe_36 ?_
      clear h hw; intro M13 H locs hw h
      refine lv_iconst (v := 0) hx hb dX0_wipe_37 (by decide) ?_
      refine lv_istore_n (lv' := [(2, .int (0 : Int32)), (0, .ref (o.2.1 5 p)), (1, .int v9)]) hx hb dX0_wipe_38 rfl hl (by decide) rfl ?_
      clear hl; clear ls; intro ls hl
      obtain ⟨n, h⟩ := h
      refine letK_W (body := fun K => w_X0_wipe_L39 p v9 K) (fun (x : Int32 × Mm) => ∀ (H : Heap) (locs : List Loc) (ls : Array Slot), WO o (WA o) s s.heap H locs x.2 → lv_has ls 3 [(0, .ref (o.2.1 5 p)), (1, .int v9)] → W p' l e rm_X0_wipe s m args below meth c H locs 0 0 (MQ below (QV o Q) args s 0 0 (WA o)) (F0 m 61 ls [])) h ?_ ?_
      · clear h hw hl; clear ls; intro x h H locs ls hw hl
        obtain ⟨v21, M22⟩ := x
        replace hl : lv_has ls 3 [(0, .ref (o.2.1 5 p)), (1, .int v9)] := hl
        dsimp only at h hw
        refine g_iinc (k := 1) (v := (v9 + (1 : Int32))) (lv' := fun v23 => [(1, .int v23), (0, .ref (o.2.1 5 p))]) hx hb dX0_wipe_61 hl rfl rfl (by decide) (fun _ => rfl) h ?_
        clear h hl; clear ls; intro v23 ls h hl
        refine lv_goto (tgt := 23) hx hb dX0_wipe_64 (by decide) ?_
        exact hR12 (v23, M22) h _ _ _ hw (lv_sub hl [1, 0] rfl)
      clear h; intro K16 hK16 h
      refine loop_W (body := w_X0_wipe_L39 p v9 K16) (fun (x : Int32 × Mm) => ∀ (H : Heap) (locs : List Loc) (ls : Array Slot), WO o (WA o) s s.heap H locs x.2 → lv_has ls 3 [(0, .ref (o.2.1 5 p)), (1, .int v9), (2, .int x.1)] → W p' l e rm_X0_wipe s m args below meth c H locs 0 0 (MQ below (QV o Q) args s 0 0 (WA o)) (F0 m 39 ls [])) ?_ n _ h _ _ _ hw (lv_sub hl [1, 2, 0] rfl)
      clear h hw hl; clear ls; intro R17 x hR17 h H locs ls hw hl
      obtain ⟨v14, M15⟩ := x
      replace hl : lv_has ls 3 [(0, .ref (o.2.1 5 p)), (1, .int v9), (2, .int v14)] := hl
      dsimp only at hw
      unfold w_X0_wipe_L39 at h
      dsimp only at h
      refine lv_iload_n hx hb dX0_wipe_39 rfl (lv_at hl 2 rfl) ?_
      refine lv_bipush (v := 7) hx hb dX0_wipe_40 (by decide) ?_
      refine g_icmp_ge (tgt := 61) hx hb h dX0_wipe_42 (by decide) ?_ ?_
      · clear h; intro h
        exact hK16 (v14, M15) h _ _ _ hw (lv_sub hl [0, 1] rfl)
      · clear h; intro h
        refine lv_aload_n hx hb dX0_wipe_45 rfl (lv_at hl 0 rfl) ?_
        refine g_getf hx hb hts in_X0 hown hw 5 p (ci_5 hp) (bi_5 hp hn) rfl rfl 3 (by decide) kX0_28 rfl dX0_wipe_46 ?_
        refine lv_iload_n hx hb dX0_wipe_49 rfl (lv_at hl 1 rfl) ?_
        refine g_aldR hx hb hw hp hn h dX0_wipe_50 ?_
        clear h; intro k18 hk18 h
        refine lv_iload_n hx hb dX0_wipe_51 rfl (lv_at hl 2 rfl) ?_
        refine lv_bipush (v := (-9)) hx hb dX0_wipe_52 (by decide) ?_
        refine g_iast hx hb hw 12 (24 * p + k18) (ci_12 (r_48 hp hk18)) (bi_12 (r_48 hp hk18) hn) (fun _ => rfl) h dX0_wipe_54 ?_
        clear h hw; intro M19 H locs hw h
        refine g_iinc (k := 2) (v := (v14 + (1 : Int32))) (lv' := fun v20 => [(2, .int v20), (0, .ref (o.2.1 5 p)), (1, .int v9)]) hx hb dX0_wipe_55 hl rfl rfl (by decide) (fun _ => rfl) h ?_
        clear h hl; clear ls; intro v20 ls h hl
        refine lv_goto (tgt := 39) hx hb dX0_wipe_58 (by decide) ?_
        exact hR17 (v20, M19) h _ _ _ hw (lv_sub hl [1, 2, 0] rfl)
  clear h; intro K3 hK3 h
  refine loop_W (body := w_X0_wipe_L2 p K3) (fun (x : Int32 × Mm) => ∀ (H : Heap) (locs : List Loc) (ls : Array Slot), WO o (WA o) s s.heap H locs x.2 → lv_has ls 3 [(0, .ref (o.2.1 5 p)), (1, .int x.1)] → W p' l e rm_X0_wipe s m args below meth c H locs 0 0 (MQ below (QV o Q) args s 0 0 (WA o)) (F0 m 2 ls [])) ?_ n _ h _ _ _ hw (lv_sub hl [1, 0] rfl)
  clear h hw hl; clear ls; intro R4 x hR4 h H locs ls hw hl
  obtain ⟨v1, M2⟩ := x
  replace hl : lv_has ls 3 [(0, .ref (o.2.1 5 p)), (1, .int v1)] := hl
  dsimp only at hw
  unfold w_X0_wipe_L2 at h
  dsimp only at h
  refine lv_iload_n hx hb dX0_wipe_2 rfl (lv_at hl 1 rfl) ?_
  refine lv_bipush (v := 42) hx hb dX0_wipe_3 (by decide) ?_
  refine g_icmp_ge (tgt := 21) hx hb h dX0_wipe_5 (by decide) ?_ ?_
  · clear h; intro h
    exact hK3 (v1, M2) h _ _ _ hw (lv_sub hl [0] rfl)
  · clear h; intro h
    refine lv_aload_n hx hb dX0_wipe_8 rfl (lv_at hl 0 rfl) ?_
    refine g_getf hx hb hts in_X0 hown hw 5 p (ci_5 hp) (bi_5 hp hn) rfl rfl 5 (by decide) kX0_34 rfl dX0_wipe_9 ?_
    refine lv_iload_n hx hb dX0_wipe_12 rfl (lv_at hl 1 rfl) ?_
    refine lv_iconst (v := 0) hx hb dX0_wipe_13 (by decide) ?_
    refine g_iast hx hb hw 9 p (ci_9 hp) (bi_9 hp hn) (fun _ => rfl) h dX0_wipe_14 ?_
    clear h hw; intro M5 H locs hw h
    refine g_iinc (k := 1) (v := (v1 + (1 : Int32))) (lv' := fun v6 => [(1, .int v6), (0, .ref (o.2.1 5 p))]) hx hb dX0_wipe_15 hl rfl rfl (by decide) (fun _ => rfl) h ?_
    clear h hl; clear ls; intro v6 ls h hl
    refine lv_goto (tgt := 2) hx hb dX0_wipe_18 (by decide) ?_
    exact hR4 (v6, M5) h _ _ _ hw (lv_sub hl [1, 0] rfl)
abbrev rm_X2_isLong : Room := { frames := 0, cells := 0, slots := 0, locals := 0 }
set_option maxHeartbeats 4000000 in
set_option maxRecDepth 100000 in
theorem c_X2_isLong {o : Om} {l : Launch} (hn : 115 ≤ o.2.2.2) {i : Nat} (hi : i < 10) {M : Mm} {x1 : Int32} {Q : Int32 → Mm → Prop} (h : w_X2_isLong i M x1 Q) : CZ o l yX2_isLong cX2_isLong 2 rm_X2_isLong [.ref (o.2.1 11 i), .int x1] M Q := by
  refine g_start (by decide +kernel) (Nat.le_of_ble_eq_true rfl) ?_
  intro p e s m args below meth c hx hb hr hlocks hml hown hts hw ls hl
  replace hl : lv_has ls 2 [(0, .ref (o.2.1 11 i)), (1, .int x1)] := hl
  unfold w_X2_isLong at h
  refine lv_aload_n hx hb dX2_isLong_0 rfl (lv_at hl 0 rfl) ?_
  refine g_getf hx hb hts in_X2 hown hw 11 i (ci_11 hi) (bi_11 hi hn) rfl rfl 6 (by decide) kX2_31 rfl dX2_isLong_1 ?_
  refine lv_iload_n hx hb dX2_isLong_4 rfl (lv_at hl 1 rfl) ?_
  refine g_iald hx hb hw 14 i (ci_14 hi) (bi_14 hi hn) rfl h dX2_isLong_5 ?_
  clear h; intro v1 h
  refine lv_aload_n hx hb dX2_isLong_6 rfl (lv_at hl 0 rfl) ?_
  refine g_getf hx hb hts in_X2 hown hw 11 i (ci_11 hi) (bi_11 hi hn) rfl rfl 5 (by decide) kX2_27 rfl dX2_isLong_7 ?_
  refine lv_iload_n hx hb dX2_isLong_10 rfl (lv_at hl 1 rfl) ?_
  refine g_iald hx hb hw 13 i (ci_13 hi) (bi_13 hi hn) rfl h dX2_isLong_11 ?_
  clear h; intro v2 h
  refine g_icmp_gt (tgt := 26) hx hb h dX2_isLong_12 (by decide) ?_ ?_
  · clear h; intro h
    refine lv_iconst (v := 1) hx hb dX2_isLong_26 (by decide) ?_
    refine lv_goto (tgt := 31) hx hb dX2_isLong_27 (by decide) ?_
    exact g_zret hx hb hr hlocks hw (Or.inr rfl) h dX2_isLong_31
  · clear h; intro h
    refine lv_aload_n hx hb dX2_isLong_15 rfl (lv_at hl 0 rfl) ?_
    refine g_getf hx hb hts in_X2 hown hw 11 i (ci_11 hi) (bi_11 hi hn) rfl rfl 7 (by decide) kX2_34 rfl dX2_isLong_16 ?_
    refine lv_iload_n hx hb dX2_isLong_19 rfl (lv_at hl 1 rfl) ?_
    refine g_iald hx hb hw 15 i (ci_15 hi) (bi_15 hi hn) rfl h dX2_isLong_20 ?_
    clear h; intro v3 h
    refine lv_bipush (v := (-9)) hx hb dX2_isLong_21 (by decide) ?_
    refine g_icmp_ne (tgt := 30) hx hb h dX2_isLong_23 (by decide) ?_ ?_
    · clear h; intro h
      refine lv_iconst (v := 0) hx hb dX2_isLong_30 (by decide) ?_
      exact g_zret hx hb hr hlocks hw (Or.inl rfl) h dX2_isLong_31
    · clear h; intro h
      refine lv_iconst (v := 1) hx hb dX2_isLong_26 (by decide) ?_
      refine lv_goto (tgt := 31) hx hb dX2_isLong_27 (by decide) ?_
      exact g_zret hx hb hr hlocks hw (Or.inr rfl) h dX2_isLong_31
abbrev rm_X0_firstOfWeek : Room := { frames := 0, cells := 0, slots := 0, locals := 0 }
set_option maxHeartbeats 4000000 in
set_option maxRecDepth 100000 in
theorem c_X0_firstOfWeek {o : Om} {l : Launch} (hn : 115 ≤ o.2.2.2) {p : Nat} (hp : p < 2) {M : Mm} {x1 : Int32} {Q : Int32 → Mm → Prop} (h : w_X0_firstOfWeek p M x1 Q) : CI o l yX0_firstOfWeek cX0_firstOfWeek 2 rm_X0_firstOfWeek [.ref (o.2.1 5 p), .int x1] M Q := by
  refine g_start (by decide +kernel) (Nat.le_of_ble_eq_true rfl) ?_
  intro p' e s m args below meth c hx hb hr hlocks hml hown hts hw ls hl
  replace hl : lv_has ls 2 [(0, .ref (o.2.1 5 p)), (1, .int x1)] := hl
  unfold w_X0_firstOfWeek at h
  refine lv_aload_n hx hb dX0_firstOfWeek_0 rfl (lv_at hl 0 rfl) ?_
  refine g_getf hx hb hts in_X0 hown hw 5 p (ci_5 hp) (bi_5 hp hn) rfl rfl 2 (by decide) kX0_22 rfl dX0_firstOfWeek_1 ?_
  refine lv_iload_n hx hb dX0_firstOfWeek_4 rfl (lv_at hl 1 rfl) ?_
  refine g_iald hx hb hw 6 p (ci_6 hp) (bi_6 hp hn) rfl h dX0_firstOfWeek_5 ?_
  clear h; intro v1 h
  exact g_iret hx hb hr hlocks hw h dX0_firstOfWeek_6
abbrev rm_X0_lastOfWeek : Room := { frames := 0, cells := 0, slots := 0, locals := 0 }
set_option maxHeartbeats 4000000 in
set_option maxRecDepth 100000 in
theorem c_X0_lastOfWeek {o : Om} {l : Launch} (hn : 115 ≤ o.2.2.2) {p : Nat} (hp : p < 2) {M : Mm} {x1 : Int32} {Q : Int32 → Mm → Prop} (h : w_X0_lastOfWeek p M x1 Q) : CI o l yX0_lastOfWeek cX0_lastOfWeek 2 rm_X0_lastOfWeek [.ref (o.2.1 5 p), .int x1] M Q := by
  refine g_start (by decide +kernel) (Nat.le_of_ble_eq_true rfl) ?_
  intro p' e s m args below meth c hx hb hr hlocks hml hown hts hw ls hl
  replace hl : lv_has ls 2 [(0, .ref (o.2.1 5 p)), (1, .int x1)] := hl
  unfold w_X0_lastOfWeek at h
  refine lv_aload_n hx hb dX0_lastOfWeek_0 rfl (lv_at hl 0 rfl) ?_
  refine g_getf hx hb hts in_X0 hown hw 5 p (ci_5 hp) (bi_5 hp hn) rfl rfl 2 (by decide) kX0_22 rfl dX0_lastOfWeek_1 ?_
  refine lv_iload_n hx hb dX0_lastOfWeek_4 rfl (lv_at hl 1 rfl) ?_
  refine lv_iconst (v := 1) hx hb dX0_lastOfWeek_5 (by decide) ?_
  refine lv_iadd hx hb dX0_lastOfWeek_6 ?_
  refine g_iald hx hb hw 6 p (ci_6 hp) (bi_6 hp hn) rfl h dX0_lastOfWeek_7 ?_
  clear h; intro v1 h
  refine lv_iconst (v := 1) hx hb dX0_lastOfWeek_8 (by decide) ?_
  refine lv_isub hx hb dX0_lastOfWeek_9 ?_
  exact g_iret hx hb hr hlocks hw h dX0_lastOfWeek_10
abbrev rm_X2_meets : Room := { frames := 0, cells := 0, slots := 0, locals := 0 }
set_option maxHeartbeats 4000000 in
set_option maxRecDepth 100000 in
theorem c_X2_meets {o : Om} {l : Launch} (hn : 115 ≤ o.2.2.2) {i : Nat} (hi : i < 10) {M : Mm} {x1 : Int32} {x2 : Int32} {x3 : Int32} {Q : Int32 → Mm → Prop} (h : w_X2_meets i M x1 x2 x3 Q) : CZ o l yX2_meets cX2_meets 4 rm_X2_meets [.ref (o.2.1 11 i), .int x1, .int x2, .int x3] M Q := by
  refine g_start (by decide +kernel) (Nat.le_of_ble_eq_true rfl) ?_
  intro p e s m args below meth c hx hb hr hlocks hml hown hts hw ls hl
  replace hl : lv_has ls 4 [(0, .ref (o.2.1 11 i)), (1, .int x1), (2, .int x2), (3, .int x3)] := hl
  unfold w_X2_meets at h
  refine lv_aload_n hx hb dX2_meets_0 rfl (lv_at hl 0 rfl) ?_
  refine g_getf hx hb hts in_X2 hown hw 11 i (ci_11 hi) (bi_11 hi hn) rfl rfl 5 (by decide) kX2_27 rfl dX2_meets_1 ?_
  refine lv_iload_n hx hb dX2_meets_4 rfl (lv_at hl 1 rfl) ?_
  refine g_iald hx hb hw 13 i (ci_13 hi) (bi_13 hi hn) rfl h dX2_meets_5 ?_
  clear h; intro v1 h
  refine lv_iload_n hx hb dX2_meets_6 rfl (lv_at hl 3 rfl) ?_
  refine g_icmp_gt (tgt := 24) hx hb h dX2_meets_7 (by decide) ?_ ?_
  · clear h; intro h
    refine lv_iconst (v := 0) hx hb dX2_meets_24 (by decide) ?_
    exact g_zret hx hb hr hlocks hw (Or.inl rfl) h dX2_meets_25
  · clear h; intro h
    refine lv_aload_n hx hb dX2_meets_10 rfl (lv_at hl 0 rfl) ?_
    refine g_getf hx hb hts in_X2 hown hw 11 i (ci_11 hi) (bi_11 hi hn) rfl rfl 6 (by decide) kX2_31 rfl dX2_meets_11 ?_
    refine lv_iload_n hx hb dX2_meets_14 rfl (lv_at hl 1 rfl) ?_
    refine g_iald hx hb hw 14 i (ci_14 hi) (bi_14 hi hn) rfl h dX2_meets_15 ?_
    clear h; intro v2 h
    refine lv_iload_n hx hb dX2_meets_16 rfl (lv_at hl 2 rfl) ?_
    refine g_icmp_lt (tgt := 24) hx hb h dX2_meets_17 (by decide) ?_ ?_
    · clear h; intro h
      refine lv_iconst (v := 0) hx hb dX2_meets_24 (by decide) ?_
      exact g_zret hx hb hr hlocks hw (Or.inl rfl) h dX2_meets_25
    · clear h; intro h
      refine lv_iconst (v := 1) hx hb dX2_meets_20 (by decide) ?_
      refine lv_goto (tgt := 25) hx hb dX2_meets_21 (by decide) ?_
      exact g_zret hx hb hr hlocks hw (Or.inr rfl) h dX2_meets_25
abbrev rm_X0_isBarBefore : Room := { frames := 1, cells := 0, slots := 0, locals := 21 }
set_option maxHeartbeats 4000000 in
set_option maxRecDepth 100000 in
theorem c_X0_isBarBefore {o : Om} {l : Launch} (hn : 115 ≤ o.2.2.2) {p : Nat} (hp : p < 2) {M : Mm} {x1 : Int32} {x2 : Int32} {x3 : Int32} {Q : Int32 → Mm → Prop} (h : w_X0_isBarBefore p M x1 x2 x3 Q) : CZ o l yX0_isBarBefore cX0_isBarBefore 6 rm_X0_isBarBefore [.ref (o.2.1 5 p), .int x1, .int x2, .int x3] M Q := by
  refine g_start (by decide +kernel) (Nat.le_of_ble_eq_true rfl) ?_
  intro p' e s m args below meth c hx hb hr hlocks hml hown hts hw ls hl
  replace hl : lv_has ls 6 [(0, .ref (o.2.1 5 p)), (1, .int x1), (2, .int x2), (3, .int x3)] := hl
  unfold w_X0_isBarBefore at h
  refine lv_aload_n hx hb dX0_isBarBefore_0 rfl (lv_at hl 0 rfl) ?_
  refine g_getf hx hb hts in_X0 hown hw 5 p (ci_5 hp) (bi_5 hp hn) rfl rfl 0 (by decide) kX0_12 rfl dX0_isBarBefore_1 ?_
  refine g_getf hx hb hts in_X2 hown hw 11 p (ci_11 (Nat.lt_of_lt_of_le hp (by decide))) (bi_11 (Nat.lt_of_lt_of_le hp (by decide)) hn) rfl rfl 5 (by decide) kX0_93 rfl dX0_isBarBefore_4 ?_
  refine lv_iload_n hx hb dX0_isBarBefore_7 rfl (lv_at hl 1 rfl) ?_
  refine g_iald hx hb hw 13 p (ci_13 (Nat.lt_of_lt_of_le hp (by decide))) (bi_13 (Nat.lt_of_lt_of_le hp (by decide)) hn) rfl h dX0_isBarBefore_8 ?_
  clear h; intro v1 h
  refine lv_aload_n hx hb dX0_isBarBefore_9 rfl (lv_at hl 0 rfl) ?_
  refine lv_iload_n hx hb dX0_isBarBefore_10 rfl (lv_at hl 3 rfl) ?_
  refine g_ci hw (g_runV (As := [.int x3]) (rest := [.int v1]) hx hb hml hown hts mX0_firstOfWeek vX0_firstOfWeek kX0_79 hw 5 p (ci_5 hp) (bi_5 hp hn) rfl rfl (c_X0_firstOfWeek hn hp h) rfl rfl ⟨Nat.le_of_ble_eq_true rfl, Nat.le_of_ble_eq_true rfl⟩ rfl hl.1 rfl (Nat.le_of_ble_eq_true rfl) dX0_isBarBefore_11 ⟨Nat.zero_le _, Nat.zero_le _⟩) ?_
  clear h hw; intro v3 M2 H locs hw h
  refine letJ_W (fun (x : Int32) => ∀ (H : Heap) (locs : List Loc) (ls : Array Slot), WO o (WA o) s s.heap H locs M2 → lv_has ls 6 [(0, .ref (o.2.1 5 p)), (1, .int x1), (2, .int x2), (3, .int x3)] → W p' l e rm_X0_isBarBefore s m args below meth c H locs 0 0 (MQ below (QZ o Q) args s 0 0 (WA o)) (F0 m 22 ls [.int x])) h ?_ ?_
  · clear h hw hl; clear ls; intro x h H locs ls hw hl
    obtain ⟨v4, rfl⟩ : ∃ z, z = x := ⟨_, rfl⟩
    replace hl : lv_has ls 6 [(0, .ref (o.2.1 5 p)), (1, .int x1), (2, .int x2), (3, .int x3)] := hl
    refine lv_istore (lv' := [(4, .int v4), (0, .ref (o.2.1 5 p)), (1, .int x1), (2, .int x2), (3, .int x3)]) hx hb dX0_isBarBefore_22 hl (by decide) rfl ?_
    clear hl; clear ls; intro ls hl
    refine lv_aload_n hx hb dX0_isBarBefore_24 rfl (lv_at hl 1 rfl) ?_
    refine g_getf hx hb hts in_X0 hown hw 5 p (ci_5 hp) (bi_5 hp hn) rfl rfl 0 (by decide) kX0_12 rfl dX0_isBarBefore_25 ?_
    refine g_getf hx hb hts in_X2 hown hw 11 p (ci_11 (Nat.lt_of_lt_of_le hp (by decide))) (bi_11 (Nat.lt_of_lt_of_le hp (by decide)) hn) rfl rfl 5 (by decide) kX0_93 rfl dX0_isBarBefore_28 ?_
    refine lv_iload_n hx hb dX0_isBarBefore_31 rfl (lv_at hl 3 rfl) ?_
    refine g_iald hx hb hw 13 p (ci_13 (Nat.lt_of_lt_of_le hp (by decide))) (bi_13 (Nat.lt_of_lt_of_le hp (by decide)) hn) rfl h dX0_isBarBefore_32 ?_
    clear h; intro v6 h
    refine lv_aload_n hx hb dX0_isBarBefore_33 rfl (lv_at hl 1 rfl) ?_
    refine lv_iload_n hx hb dX0_isBarBefore_34 rfl (lv_at hl 4 rfl) ?_
    refine g_ci hw (g_runV (As := [.int x3]) (rest := [.int v6]) hx hb hml hown hts mX0_firstOfWeek vX0_firstOfWeek kX0_79 hw 5 p (ci_5 hp) (bi_5 hp hn) rfl rfl (c_X0_firstOfWeek hn hp h) rfl rfl ⟨Nat.le_of_ble_eq_true rfl, Nat.le_of_ble_eq_true rfl⟩ rfl hl.1 rfl (Nat.le_of_ble_eq_true rfl) dX0_isBarBefore_35 ⟨Nat.zero_le _, Nat.zero_le _⟩) ?_
    clear h hw; intro v8 M7 H locs hw h
    refine letJ_W (fun (x : Int32) => ∀ (H : Heap) (locs : List Loc) (ls : Array Slot), WO o (WA o) s s.heap H locs M7 → lv_has ls 6 [(0, .ref (o.2.1 5 p)), (1, .int x1), (2, .int x2), (3, .int x3), (4, .int v4)] → W p' l e rm_X0_isBarBefore s m args below meth c H locs 0 0 (MQ below (QZ o Q) args s 0 0 (WA o)) (F0 m 46 ls [.int x])) h ?_ ?_
    · clear h hw hl; clear ls; intro x h H locs ls hw hl
      obtain ⟨v9, rfl⟩ : ∃ z, z = x := ⟨_, rfl⟩
      replace hl : lv_has ls 6 [(0, .ref (o.2.1 5 p)), (1, .int x1), (2, .int x2), (3, .int x3), (4, .int v4)] := hl
      refine lv_istore (lv' := [(5, .int v9), (0, .ref (o.2.1 5 p)), (1, .int x1), (2, .int x2), (3, .int x3), (4, .int v4)]) hx hb dX0_isBarBefore_46 hl (by decide) rfl ?_
      clear hl; clear ls; intro ls hl
      refine lv_iload hx hb dX0_isBarBefore_48 (lv_at hl 5 rfl) ?_
      refine lv_iload hx hb dX0_isBarBefore_50 (lv_at hl 0 rfl) ?_
      refine g_icmp_eq (tgt := 58) hx hb h dX0_isBarBefore_52 (by decide) ?_ ?_
      · clear h; intro h
        refine lv_iload hx hb dX0_isBarBefore_58 (lv_at hl 5 rfl) ?_
        refine g_if_eq (tgt := 96) hx hb h dX0_isBarBefore_60 (by decide) ?_ ?_
        · clear h; intro h
          refine lv_aload_n hx hb dX0_isBarBefore_96 rfl (lv_at hl 1 rfl) ?_
          refine g_getf hx hb hts in_X0 hown hw 5 p (ci_5 hp) (bi_5 hp hn) rfl rfl 0 (by decide) kX0_12 rfl dX0_isBarBefore_97 ?_
          refine g_getf hx hb hts in_X2 hown hw 11 p (ci_11 (Nat.lt_of_lt_of_le hp (by decide))) (bi_11 (Nat.lt_of_lt_of_le hp (by decide)) hn) rfl rfl 5 (by decide) kX0_93 rfl dX0_isBarBefore_100 ?_
          refine lv_iload_n hx hb dX0_isBarBefore_103 rfl (lv_at hl 2 rfl) ?_
          refine g_iald hx hb hw 13 p (ci_13 (Nat.lt_of_lt_of_le hp (by decide))) (bi_13 (Nat.lt_of_lt_of_le hp (by decide)) hn) rfl h dX0_isBarBefore_104 ?_
          clear h; intro v11 h
          refine lv_aload_n hx hb dX0_isBarBefore_105 rfl (lv_at hl 1 rfl) ?_
          refine g_getf hx hb hts in_X0 hown hw 5 p (ci_5 hp) (bi_5 hp hn) rfl rfl 0 (by decide) kX0_12 rfl dX0_isBarBefore_106 ?_
          refine g_getf hx hb hts in_X2 hown hw 11 p (ci_11 (Nat.lt_of_lt_of_le hp (by decide))) (bi_11 (Nat.lt_of_lt_of_le hp (by decide)) hn) rfl rfl 5 (by decide) kX0_93 rfl dX0_isBarBefore_109 ?_
          refine lv_iload_n hx hb dX0_isBarBefore_112 rfl (lv_at hl 3 rfl) ?_
          refine g_iald hx hb hw 13 p (ci_13 (Nat.lt_of_lt_of_le hp (by decide))) (bi_13 (Nat.lt_of_lt_of_le hp (by decide)) hn) rfl h dX0_isBarBefore_113 ?_
          clear h; intro v12 h
          refine g_icmp_eq (tgt := 144) hx hb h dX0_isBarBefore_114 (by decide) ?_ ?_
          · clear h; intro h
            refine lv_aload_n hx hb dX0_isBarBefore_144 rfl (lv_at hl 1 rfl) ?_
            refine g_getf hx hb hts in_X0 hown hw 5 p (ci_5 hp) (bi_5 hp hn) rfl rfl 0 (by decide) kX0_12 rfl dX0_isBarBefore_145 ?_
            refine g_getf hx hb hts in_X2 hown hw 11 p (ci_11 (Nat.lt_of_lt_of_le hp (by decide))) (bi_11 (Nat.lt_of_lt_of_le hp (by decide)) hn) rfl rfl 6 (by decide) kX0_96 rfl dX0_isBarBefore_148 ?_
            refine lv_iload_n hx hb dX0_isBarBefore_151 rfl (lv_at hl 2 rfl) ?_
            refine g_iald hx hb hw 14 p (ci_14 (Nat.lt_of_lt_of_le hp (by decide))) (bi_14 (Nat.lt_of_lt_of_le hp (by decide)) hn) rfl h dX0_isBarBefore_152 ?_
            clear h; intro v13 h
            refine lv_aload_n hx hb dX0_isBarBefore_153 rfl (lv_at hl 1 rfl) ?_
            refine g_getf hx hb hts in_X0 hown hw 5 p (ci_5 hp) (bi_5 hp hn) rfl rfl 0 (by decide) kX0_12 rfl dX0_isBarBefore_154 ?_
            refine g_getf hx hb hts in_X2 hown hw 11 p (ci_11 (Nat.lt_of_lt_of_le hp (by decide))) (bi_11 (Nat.lt_of_lt_of_le hp (by decide)) hn) rfl rfl 6 (by decide) kX0_96 rfl dX0_isBarBefore_157 ?_
            refine lv_iload_n hx hb dX0_isBarBefore_160 rfl (lv_at hl 3 rfl) ?_
            refine g_iald hx hb hw 14 p (ci_14 (Nat.lt_of_lt_of_le hp (by decide))) (bi_14 (Nat.lt_of_lt_of_le hp (by decide)) hn) rfl h dX0_isBarBefore_161 ?_
            clear h; intro v14 h
            refine g_icmp_eq (tgt := 192) hx hb h dX0_isBarBefore_162 (by decide) ?_ ?_
            · clear h; intro h
              refine lv_aload_n hx hb dX0_isBarBefore_192 rfl (lv_at hl 1 rfl) ?_
              refine g_getf hx hb hts in_X0 hown hw 5 p (ci_5 hp) (bi_5 hp hn) rfl rfl 0 (by decide) kX0_12 rfl dX0_isBarBefore_193 ?_
              refine g_getf hx hb hts in_X2 hown hw 11 p (ci_11 (Nat.lt_of_lt_of_le hp (by decide))) (bi_11 (Nat.lt_of_lt_of_le hp (by decide)) hn) rfl rfl 8 (by decide) kX0_99 rfl dX0_isBarBefore_196 ?_
              refine lv_iload_n hx hb dX0_isBarBefore_199 rfl (lv_at hl 2 rfl) ?_
              refine g_iald hx hb hw 16 p (ci_16 (Nat.lt_of_lt_of_le hp (by decide))) (bi_16 (Nat.lt_of_lt_of_le hp (by decide)) hn) rfl h dX0_isBarBefore_200 ?_
              clear h; intro v15 h
              refine lv_aload_n hx hb dX0_isBarBefore_201 rfl (lv_at hl 1 rfl) ?_
              refine g_getf hx hb hts in_X0 hown hw 5 p (ci_5 hp) (bi_5 hp hn) rfl rfl 0 (by decide) kX0_12 rfl dX0_isBarBefore_202 ?_
              refine g_getf hx hb hts in_X2 hown hw 11 p (ci_11 (Nat.lt_of_lt_of_le hp (by decide))) (bi_11 (Nat.lt_of_lt_of_le hp (by decide)) hn) rfl rfl 8 (by decide) kX0_99 rfl dX0_isBarBefore_205 ?_
              refine lv_iload_n hx hb dX0_isBarBefore_208 rfl (lv_at hl 3 rfl) ?_
              refine g_iald hx hb hw 16 p (ci_16 (Nat.lt_of_lt_of_le hp (by decide))) (bi_16 (Nat.lt_of_lt_of_le hp (by decide)) hn) rfl h dX0_isBarBefore_209 ?_
              clear h; intro v16 h
              refine g_icmp_le (tgt := 217) hx hb h dX0_isBarBefore_210 (by decide) ?_ ?_
              · clear h; intro h
                refine lv_iconst (v := 0) hx hb dX0_isBarBefore_217 (by decide) ?_
                exact g_zret hx hb hr hlocks hw (Or.inl rfl) h dX0_isBarBefore_218
              · clear h; intro h
                refine lv_iconst (v := 1) hx hb dX0_isBarBefore_213 (by decide) ?_
                refine lv_goto (tgt := 218) hx hb dX0_isBarBefore_214 (by decide) ?_
                exact g_zret hx hb hr hlocks hw (Or.inr rfl) h dX0_isBarBefore_218
            · clear h; intro h
              refine lv_aload_n hx hb dX0_isBarBefore_165 rfl (lv_at hl 1 rfl) ?_
              refine g_getf hx hb hts in_X0 hown hw 5 p (ci_5 hp) (bi_5 hp hn) rfl rfl 0 (by decide) kX0_12 rfl dX0_isBarBefore_166 ?_
              refine g_getf hx hb hts in_X2 hown hw 11 p (ci_11 (Nat.lt_of_lt_of_le hp (by decide))) (bi_11 (Nat.lt_of_lt_of_le hp (by decide)) hn) rfl rfl 6 (by decide) kX0_96 rfl dX0_isBarBefore_169 ?_
              refine lv_iload_n hx hb dX0_isBarBefore_172 rfl (lv_at hl 2 rfl) ?_
              refine g_iald hx hb hw 14 p (ci_14 (Nat.lt_of_lt_of_le hp (by decide))) (bi_14 (Nat.lt_of_lt_of_le hp (by decide)) hn) rfl h dX0_isBarBefore_173 ?_
              clear h; intro v17 h
              refine lv_aload_n hx hb dX0_isBarBefore_174 rfl (lv_at hl 1 rfl) ?_
              refine g_getf hx hb hts in_X0 hown hw 5 p (ci_5 hp) (bi_5 hp hn) rfl rfl 0 (by decide) kX0_12 rfl dX0_isBarBefore_175 ?_
              refine g_getf hx hb hts in_X2 hown hw 11 p (ci_11 (Nat.lt_of_lt_of_le hp (by decide))) (bi_11 (Nat.lt_of_lt_of_le hp (by decide)) hn) rfl rfl 6 (by decide) kX0_96 rfl dX0_isBarBefore_178 ?_
              refine lv_iload_n hx hb dX0_isBarBefore_181 rfl (lv_at hl 3 rfl) ?_
              refine g_iald hx hb hw 14 p (ci_14 (Nat.lt_of_lt_of_le hp (by decide))) (bi_14 (Nat.lt_of_lt_of_le hp (by decide)) hn) rfl h dX0_isBarBefore_182 ?_
              clear h; intro v18 h
              refine g_icmp_le (tgt := 190) hx hb h dX0_isBarBefore_183 (by decide) ?_ ?_
              · clear h; intro h
                refine lv_iconst (v := 0) hx hb dX0_isBarBefore_190 (by decide) ?_
                exact g_zret hx hb hr hlocks hw (Or.inl rfl) h dX0_isBarBefore_191
              · clear h; intro h
                refine lv_iconst (v := 1) hx hb dX0_isBarBefore_186 (by decide) ?_
                refine lv_goto (tgt := 191) hx hb dX0_isBarBefore_187 (by decide) ?_
                exact g_zret hx hb hr hlocks hw (Or.inr rfl) h dX0_isBarBefore_191
          · clear h; intro h
            refine lv_aload_n hx hb dX0_isBarBefore_117 rfl (lv_at hl 1 rfl) ?_
            refine g_getf hx hb hts in_X0 hown hw 5 p (ci_5 hp) (bi_5 hp hn) rfl rfl 0 (by decide) kX0_12 rfl dX0_isBarBefore_118 ?_
            refine g_getf hx hb hts in_X2 hown hw 11 p (ci_11 (Nat.lt_of_lt_of_le hp (by decide))) (bi_11 (Nat.lt_of_lt_of_le hp (by decide)) hn) rfl rfl 5 (by decide) kX0_93 rfl dX0_isBarBefore_121 ?_
            refine lv_iload_n hx hb dX0_isBarBefore_124 rfl (lv_at hl 2 rfl) ?_
            refine g_iald hx hb hw 13 p (ci_13 (Nat.lt_of_lt_of_le hp (by decide))) (bi_13 (Nat.lt_of_lt_of_le hp (by decide)) hn) rfl h dX0_isBarBefore_125 ?_
            clear h; intro v19 h
            refine lv_aload_n hx hb dX0_isBarBefore_126 rfl (lv_at hl 1 rfl) ?_
            refine g_getf hx hb hts in_X0 hown hw 5 p (ci_5 hp) (bi_5 hp hn) rfl rfl 0 (by decide) kX0_12 rfl dX0_isBarBefore_127 ?_
            refine g_getf hx hb hts in_X2 hown hw 11 p (ci_11 (Nat.lt_of_lt_of_le hp (by decide))) (bi_11 (Nat.lt_of_lt_of_le hp (by decide)) hn) rfl rfl 5 (by decide) kX0_93 rfl dX0_isBarBefore_130 ?_
            refine lv_iload_n hx hb dX0_isBarBefore_133 rfl (lv_at hl 3 rfl) ?_
            refine g_iald hx hb hw 13 p (ci_13 (Nat.lt_of_lt_of_le hp (by decide))) (bi_13 (Nat.lt_of_lt_of_le hp (by decide)) hn) rfl h dX0_isBarBefore_134 ?_
            clear h; intro v20 h
            refine g_icmp_ge (tgt := 142) hx hb h dX0_isBarBefore_135 (by decide) ?_ ?_
            · clear h; intro h
              refine lv_iconst (v := 0) hx hb dX0_isBarBefore_142 (by decide) ?_
              exact g_zret hx hb hr hlocks hw (Or.inl rfl) h dX0_isBarBefore_143
            · clear h; intro h
              refine lv_iconst (v := 1) hx hb dX0_isBarBefore_138 (by decide) ?_
              refine lv_goto (tgt := 143) hx hb dX0_isBarBefore_139 (by decide) ?_
              exact g_zret hx hb hr hlocks hw (Or.inr rfl) h dX0_isBarBefore_143
        · clear h; intro h
          refine lv_iload_n hx hb dX0_isBarBefore_63 rfl (lv_at hl 4 rfl) ?_
          refine g_if_le (tgt := 94) hx hb h dX0_isBarBefore_64 (by decide) ?_ ?_
          · clear h; intro h
            refine lv_iconst (v := 0) hx hb dX0_isBarBefore_94 (by decide) ?_
            exact g_zret hx hb hr hlocks hw (Or.inl rfl) h dX0_isBarBefore_95
          · clear h; intro h
            refine lv_aload_n hx hb dX0_isBarBefore_67 rfl (lv_at hl 1 rfl) ?_
            refine g_getf hx hb hts in_X0 hown hw 5 p (ci_5 hp) (bi_5 hp hn) rfl rfl 3 (by decide) kX0_28 rfl dX0_isBarBefore_68 ?_
            refine lv_iload_n hx hb dX0_isBarBefore_71 rfl (lv_at hl 2 rfl) ?_
            refine g_aldR hx hb hw hp hn h dX0_isBarBefore_72 ?_
            clear h; intro k21 hk21 h
            refine lv_iload_n hx hb dX0_isBarBefore_73 rfl (lv_at hl 4 rfl) ?_
            refine lv_iconst (v := 1) hx hb dX0_isBarBefore_74 (by decide) ?_
            refine lv_isub hx hb dX0_isBarBefore_75 ?_
            refine g_iald hx hb hw 12 (24 * p + k21) (ci_12 (r_48 hp hk21)) (bi_12 (r_48 hp hk21) hn) rfl h dX0_isBarBefore_76 ?_
            clear h; intro v22 h
            refine lv_aload_n hx hb dX0_isBarBefore_77 rfl (lv_at hl 1 rfl) ?_
            refine g_getf hx hb hts in_X0 hown hw 5 p (ci_5 hp) (bi_5 hp hn) rfl rfl 3 (by decide) kX0_28 rfl dX0_isBarBefore_78 ?_
            refine lv_iload_n hx hb dX0_isBarBefore_81 rfl (lv_at hl 3 rfl) ?_
            refine g_aldR hx hb hw hp hn h dX0_isBarBefore_82 ?_
            clear h; intro k23 hk23 h
            refine lv_iload_n hx hb dX0_isBarBefore_83 rfl (lv_at hl 4 rfl) ?_
            refine lv_iconst (v := 1) hx hb dX0_isBarBefore_84 (by decide) ?_
            refine lv_isub hx hb dX0_isBarBefore_85 ?_
            refine g_iald hx hb hw 12 (24 * p + k23) (ci_12 (r_48 hp hk23)) (bi_12 (r_48 hp hk23) hn) rfl h dX0_isBarBefore_86 ?_
            clear h; intro v24 h
            refine g_icmp_ge (tgt := 94) hx hb h dX0_isBarBefore_87 (by decide) ?_ ?_
            · clear h; intro h
              refine lv_iconst (v := 0) hx hb dX0_isBarBefore_94 (by decide) ?_
              exact g_zret hx hb hr hlocks hw (Or.inl rfl) h dX0_isBarBefore_95
            · clear h; intro h
              refine lv_iconst (v := 1) hx hb dX0_isBarBefore_90 (by decide) ?_
              refine lv_goto (tgt := 95) hx hb dX0_isBarBefore_91 (by decide) ?_
              exact g_zret hx hb hr hlocks hw (Or.inr rfl) h dX0_isBarBefore_95
      · clear h; intro h
        refine lv_iload hx hb dX0_isBarBefore_55 (lv_at hl 5 rfl) ?_
        exact g_zret hx hb hr hlocks hw h.1 h.2 dX0_isBarBefore_57
    clear h; intro J10 hJ10 h
    refine g_icmp_ge (tgt := 45) hx hb h dX0_isBarBefore_38 (by decide) ?_ ?_
    · clear h; intro h
      refine lv_iconst (v := 0) hx hb dX0_isBarBefore_45 (by decide) ?_
      exact hJ10 (0 : Int32) h _ _ _ hw (lv_sub hl [1, 2, 3, 4, 0] rfl)
    · clear h; intro h
      refine lv_iconst (v := 1) hx hb dX0_isBarBefore_41 (by decide) ?_
      refine lv_goto (tgt := 46) hx hb dX0_isBarBefore_42 (by decide) ?_
      exact hJ10 (1 : Int32) h _ _ _ hw (lv_sub hl [1, 2, 3, 4, 0] rfl)
  clear h; intro J5 hJ5 h
  refine g_icmp_ge (tgt := 21) hx hb h dX0_isBarBefore_14 (by decide) ?_ ?_
  · clear h; intro h
    refine lv_iconst (v := 0) hx hb dX0_isBarBefore_21 (by decide) ?_
    exact hJ5 (0 : Int32) h _ _ _ hw (lv_sub hl [0, 1, 2, 3] rfl)
  · clear h; intro h
    refine lv_iconst (v := 1) hx hb dX0_isBarBefore_17 (by decide) ?_
    refine lv_goto (tgt := 22) hx hb dX0_isBarBefore_18 (by decide) ?_
    exact hJ5 (1 : Int32) h _ _ _ hw (lv_sub hl [0, 1, 2, 3] rfl)
abbrev rm_X0_orderBars : Room := { frames := 2, cells := 0, slots := 0, locals := 46 }
set_option maxHeartbeats 4000000 in
set_option maxRecDepth 100000 in
theorem c_X0_orderBars {o : Om} {l : Launch} (hn : 115 ≤ o.2.2.2) {p : Nat} (hp : p < 2) {M : Mm} {x1 : Int32} {Q : Mm → Prop} (h : w_X0_orderBars p M x1 Q) : CV o l yX0_orderBars cX0_orderBars 4 rm_X0_orderBars [.ref (o.2.1 5 p), .int x1] M Q := by
  refine g_start (by decide +kernel) (Nat.le_of_ble_eq_true rfl) ?_
  intro p' e s m args below meth c hx hb hr hlocks hml hown hts hw ls hl
  replace hl : lv_has ls 4 [(0, .ref (o.2.1 5 p)), (1, .int x1)] := hl
  unfold w_X0_orderBars at h
  refine lv_aload_n hx hb dX0_orderBars_0 rfl (lv_at hl 0 rfl) ?_
  refine lv_iconst (v := 0) hx hb dX0_orderBars_1 (by decide) ?_
  refine g_putf hx hb hts in_X0 tyX0 tyX0_ok nmX0 hown hw 5 p (ci_5 hp) (bi_5 hp hn) rfl 7 (by decide) rfl rfl kX0_40 (by decide +kernel) (by decide +kernel) (by simp) h dX0_orderBars_2 ?_
  clear h hw; intro M1 H locs hw h
  refine lv_iconst (v := 0) hx hb dX0_orderBars_5 (by decide) ?_
  refine lv_istore_n (lv' := [(2, .int (0 : Int32)), (0, .ref (o.2.1 5 p)), (1, .int x1)]) hx hb dX0_orderBars_6 rfl hl (by decide) rfl ?_
  clear hl; clear ls; intro ls hl
  obtain ⟨n, h⟩ := h
  refine letK_W (body := fun K => w_X0_orderBars_L7 p x1 K) (fun (x : Int32 × Mm) => ∀ (H : Heap) (locs : List Loc) (ls : Array Slot), WO o (WA o) s s.heap H locs x.2 → lv_has ls 4 [] → W p' l e rm_X0_orderBars s m args below meth c H locs 0 0 (MQ below (QV o Q) args s 0 0 (WA o)) (F0 m 119 ls [])) h ?_ ?_
  · clear h hw hl; clear ls; intro x h H locs ls hw hl
    obtain ⟨v32, M33⟩ := x
    replace hl : lv_has ls 4 [] := hl
    dsimp only at h hw
    exact g_vret hx hb hr hlocks hw h dX0_orderBars_119
  clear h; intro K4 hK4 h
  refine loop_W (body := w_X0_orderBars_L7 p x1 K4) (fun (x : Int32 × Mm) => ∀ (H : Heap) (locs : List Loc) (ls : Array Slot), WO o (WA o) s s.heap H locs x.2 → lv_has ls 4 [(0, .ref (o.2.1 5 p)), (1, .int x1), (2, .int x.1)] → W p' l e rm_X0_orderBars s m args below meth c H locs 0 0 (MQ below (QV o Q) args s 0 0 (WA o)) (F0 m 7 ls [])) ?_ n _ h _ _ _ hw (lv_sub hl [1, 2, 0] rfl)
  clear h hw hl; clear ls; intro R5 x hR5 h H locs ls hw hl
  obtain ⟨v2, M3⟩ := x
  replace hl : lv_has ls 4 [(0, .ref (o.2.1 5 p)), (1, .int x1), (2, .int v2)] := hl
  dsimp only at hw
  unfold w_X0_orderBars_L7 at h
  dsimp only at h
  refine lv_iload_n hx hb dX0_orderBars_7 rfl (lv_at hl 2 rfl) ?_
  refine lv_aload_n hx hb dX0_orderBars_8 rfl (lv_at hl 0 rfl) ?_
  refine g_getf hx hb hts in_X0 hown hw 5 p (ci_5 hp) (bi_5 hp hn) rfl rfl 0 (by decide) kX0_12 rfl dX0_orderBars_9 ?_
  refine g_getf hx hb hts in_X2 hown hw 11 p (ci_11 (Nat.lt_of_lt_of_le hp (by decide))) (bi_11 (Nat.lt_of_lt_of_le hp (by decide)) hn) rfl rfl 4 (by decide) kX0_72 rfl dX0_orderBars_12 ?_
  refine g_icmp_ge (tgt := 119) hx hb h dX0_orderBars_15 (by decide) ?_ ?_
  · clear h; intro h
    exact hK4 (v2, M3) h _ _ _ hw (lv_sub hl [] rfl)
  · clear h; intro h
    refine lv_aload_n hx hb dX0_orderBars_18 rfl (lv_at hl 0 rfl) ?_
    refine g_getf hx hb hts in_X0 hown hw 5 p (ci_5 hp) (bi_5 hp hn) rfl rfl 0 (by decide) kX0_12 rfl dX0_orderBars_19 ?_
    refine lv_iload_n hx hb dX0_orderBars_22 rfl (lv_at hl 2 rfl) ?_
    refine g_cz hw (g_runV (As := [.int v2]) (rest := []) hx hb hml hown hts mX2_isLong vX2_isLong kX0_75 hw 11 p (ci_11 (Nat.lt_of_lt_of_le hp (by decide))) (bi_11 (Nat.lt_of_lt_of_le hp (by decide)) hn) rfl rfl (c_X2_isLong hn (Nat.lt_of_lt_of_le hp (by decide)) h) rfl rfl ⟨Nat.le_of_ble_eq_true rfl, Nat.le_of_ble_eq_true rfl⟩ rfl hl.1 rfl (Nat.le_of_ble_eq_true rfl) dX0_orderBars_23 ⟨Nat.zero_le _, Nat.zero_le _⟩) ?_
    clear h hw; intro v7 M6 H locs hw hz_v7 h
    refine g_if_eq (tgt := 113) hx hb h dX0_orderBars_26 (by decide) ?_ ?_
    · clear h; intro h
      refine g_iinc (k := 2) (v := (v2 + (1 : Int32))) (lv' := fun v8 => [(2, .int v8), (0, .ref (o.2.1 5 p)), (1, .int x1)]) hx hb dX0_orderBars_113 hl rfl rfl (by decide) (fun _ => rfl) h ?_
      clear h hl; clear ls; intro v8 ls h hl
      refine lv_goto (tgt := 7) hx hb dX0_orderBars_116 (by decide) ?_
      exact hR5 (v8, M6) h _ _ _ hw (lv_sub hl [1, 2, 0] rfl)
    · clear h; intro h
      refine lv_aload_n hx hb dX0_orderBars_29 rfl (lv_at hl 0 rfl) ?_
      refine g_getf hx hb hts in_X0 hown hw 5 p (ci_5 hp) (bi_5 hp hn) rfl rfl 0 (by decide) kX0_12 rfl dX0_orderBars_30 ?_
      refine lv_iload_n hx hb dX0_orderBars_33 rfl (lv_at hl 2 rfl) ?_
      refine lv_aload_n hx hb dX0_orderBars_34 rfl (lv_at hl 0 rfl) ?_
      refine lv_iload_n hx hb dX0_orderBars_35 rfl (lv_at hl 1 rfl) ?_
      refine g_ci hw (g_runV (As := [.int x1]) (rest := [.int v2, .ref (o.2.1 11 p)]) hx hb hml hown hts mX0_firstOfWeek vX0_firstOfWeek kX0_79 hw 5 p (ci_5 hp) (bi_5 hp hn) rfl rfl (c_X0_firstOfWeek hn hp h) rfl rfl ⟨Nat.le_of_ble_eq_true rfl, Nat.le_of_ble_eq_true rfl⟩ rfl hl.1 rfl (Nat.le_of_ble_eq_true rfl) dX0_orderBars_36 ⟨Nat.zero_le _, Nat.zero_le _⟩) ?_
      clear h hw; intro v10 M9 H locs hw h
      refine lv_aload_n hx hb dX0_orderBars_39 rfl (lv_at hl 0 rfl) ?_
      refine lv_iload_n hx hb dX0_orderBars_40 rfl (lv_at hl 1 rfl) ?_
      refine g_ci hw (g_runV (As := [.int x1]) (rest := [.int v10, .int v2, .ref (o.2.1 11 p)]) hx hb hml hown hts mX0_lastOfWeek vX0_lastOfWeek kX0_83 hw 5 p (ci_5 hp) (bi_5 hp hn) rfl rfl (c_X0_lastOfWeek hn hp h) rfl rfl ⟨Nat.le_of_ble_eq_true rfl, Nat.le_of_ble_eq_true rfl⟩ rfl hl.1 rfl (Nat.le_of_ble_eq_true rfl) dX0_orderBars_41 ⟨Nat.zero_le _, Nat.zero_le _⟩) ?_
      clear h hw; intro v12 M11 H locs hw h
      refine g_cz hw (g_runV (As := [.int v2, .int v10, .int v12]) (rest := []) hx hb hml hown hts mX2_meets vX2_meets kX0_86 hw 11 p (ci_11 (Nat.lt_of_lt_of_le hp (by decide))) (bi_11 (Nat.lt_of_lt_of_le hp (by decide)) hn) rfl rfl (c_X2_meets hn (Nat.lt_of_lt_of_le hp (by decide)) h) rfl rfl ⟨Nat.le_of_ble_eq_true rfl, Nat.le_of_ble_eq_true rfl⟩ rfl hl.1 rfl (Nat.le_of_ble_eq_true rfl) dX0_orderBars_44 ⟨Nat.zero_le _, Nat.zero_le _⟩) ?_
      clear h hw; intro v14 M13 H locs hw hz_v14 h
      refine g_if_eq (tgt := 113) hx hb h dX0_orderBars_47 (by decide) ?_ ?_
      · clear h; intro h
        refine g_iinc (k := 2) (v := (v2 + (1 : Int32))) (lv' := fun v15 => [(2, .int v15), (0, .ref (o.2.1 5 p)), (1, .int x1)]) hx hb dX0_orderBars_113 hl rfl rfl (by decide) (fun _ => rfl) h ?_
        clear h hl; clear ls; intro v15 ls h hl
        refine lv_goto (tgt := 7) hx hb dX0_orderBars_116 (by decide) ?_
        exact hR5 (v15, M13) h _ _ _ hw (lv_sub hl [1, 2, 0] rfl)
      · clear h; intro h
        refine lv_aload_n hx hb dX0_orderBars_50 rfl (lv_at hl 0 rfl) ?_
        refine g_getf hx hb hts in_X0 hown hw 5 p (ci_5 hp) (bi_5 hp hn) rfl rfl 7 (by decide) kX0_40 rfl dX0_orderBars_51 ?_
        refine g_topi h ?_
        clear h; intro v16 h
        refine lv_istore_n (lv' := [(3, .int v16), (0, .ref (o.2.1 5 p)), (1, .int x1), (2, .int v2)]) hx hb dX0_orderBars_54 rfl hl (by decide) rfl ?_
        clear hl; clear ls; intro ls hl
        obtain ⟨n, h⟩ := h
        refine letK_W (body := fun K => w_X0_orderBars_L55 p x1 v2 K) (fun (x : Int32 × Mm) => ∀ (H : Heap) (locs : List Loc) (ls : Array Slot), WO o (WA o) s s.heap H locs x.2 → lv_has ls 4 [(0, .ref (o.2.1 5 p)), (1, .int x1), (2, .int v2), (3, .int x.1)] → W p' l e rm_X0_orderBars s m args below meth c H locs 0 0 (MQ below (QV o Q) args s 0 0 (WA o)) (F0 m 96 ls [])) h ?_ ?_
        · clear h hw hl; clear ls; intro x h H locs ls hw hl
          obtain ⟨v27, M28⟩ := x
          replace hl : lv_has ls 4 [(0, .ref (o.2.1 5 p)), (1, .int x1), (2, .int v2), (3, .int v27)] := hl
          dsimp only at h hw
          refine lv_aload_n hx hb dX0_orderBars_96 rfl (lv_at hl 0 rfl) ?_
          refine g_getf hx hb hts in_X0 hown hw 5 p (ci_5 hp) (bi_5 hp hn) rfl rfl 6 (by decide) kX0_37 rfl dX0_orderBars_97 ?_
          refine lv_iload_n hx hb dX0_orderBars_100 rfl (lv_at hl 3 rfl) ?_
          refine lv_iload_n hx hb dX0_orderBars_101 rfl (lv_at hl 2 rfl) ?_
          refine g_iast hx hb hw 10 p (ci_10 hp) (bi_10 hp hn) (fun _ => rfl) h dX0_orderBars_102 ?_
          clear h hw; intro M29 H locs hw h
          refine lv_aload_n hx hb dX0_orderBars_103 rfl (lv_at hl 0 rfl) ?_
          refine lv_dup hx hb dX0_orderBars_104 rfl ?_
          refine g_getf hx hb hts in_X0 hown hw 5 p (ci_5 hp) (bi_5 hp hn) rfl rfl 7 (by decide) kX0_40 rfl dX0_orderBars_105 ?_
          refine lv_iconst (v := 1) hx hb dX0_orderBars_108 (by decide) ?_
          refine lv_iadd hx hb dX0_orderBars_109 ?_
          refine g_putf hx hb hts in_X0 tyX0 tyX0_ok nmX0 hown hw 5 p (ci_5 hp) (bi_5 hp hn) rfl 7 (by decide) rfl rfl kX0_40 (by decide +kernel) (by decide +kernel) (by simp) h dX0_orderBars_110 ?_
          clear h hw; intro M30 H locs hw h
          refine g_iinc (k := 2) (v := (v2 + (1 : Int32))) (lv' := fun v31 => [(2, .int v31), (0, .ref (o.2.1 5 p)), (1, .int x1), (3, .int v27)]) hx hb dX0_orderBars_113 hl rfl rfl (by decide) (fun _ => rfl) h ?_
          clear h hl; clear ls; intro v31 ls h hl
          refine lv_goto (tgt := 7) hx hb dX0_orderBars_116 (by decide) ?_
          exact hR5 (v31, M30) h _ _ _ hw (lv_sub hl [1, 2, 0] rfl)
        clear h; intro K19 hK19 h
        refine loop_W (body := w_X0_orderBars_L55 p x1 v2 K19) (fun (x : Int32 × Mm) => ∀ (H : Heap) (locs : List Loc) (ls : Array Slot), WO o (WA o) s s.heap H locs x.2 → lv_has ls 4 [(0, .ref (o.2.1 5 p)), (1, .int x1), (2, .int v2), (3, .int x.1)] → W p' l e rm_X0_orderBars s m args below meth c H locs 0 0 (MQ below (QV o Q) args s 0 0 (WA o)) (F0 m 55 ls [])) ?_ n _ h _ _ _ hw (lv_sub hl [1, 2, 3, 0] rfl)
        clear h hw hl; clear ls; intro R20 x hR20 h H locs ls hw hl
        obtain ⟨v17, M18⟩ := x
        replace hl : lv_has ls 4 [(0, .ref (o.2.1 5 p)), (1, .int x1), (2, .int v2), (3, .int v17)] := hl
        dsimp only at hw
        unfold w_X0_orderBars_L55 at h
        dsimp only at h
        refine lv_iload_n hx hb dX0_orderBars_55 rfl (lv_at hl 3 rfl) ?_
        refine g_if_le (tgt := 96) hx hb h dX0_orderBars_56 (by decide) ?_ ?_
        · clear h; intro h
          exact hK19 (v17, M18) h _ _ _ hw (lv_sub hl [0, 1, 2, 3] rfl)
        · clear h; intro h
          refine lv_aload_n hx hb dX0_orderBars_59 rfl (lv_at hl 0 rfl) ?_
          refine lv_iload_n hx hb dX0_orderBars_60 rfl (lv_at hl 2 rfl) ?_
          refine lv_aload_n hx hb dX0_orderBars_61 rfl (lv_at hl 0 rfl) ?_
          refine g_getf hx hb hts in_X0 hown hw 5 p (ci_5 hp) (bi_5 hp hn) rfl rfl 6 (by decide) kX0_37 rfl dX0_orderBars_62 ?_
          refine lv_iload_n hx hb dX0_orderBars_65 rfl (lv_at hl 3 rfl) ?_
          refine lv_iconst (v := 1) hx hb dX0_orderBars_66 (by decide) ?_
          refine lv_isub hx hb dX0_orderBars_67 ?_
          refine g_iald hx hb hw 10 p (ci_10 hp) (bi_10 hp hn) rfl h dX0_orderBars_68 ?_
          clear h; intro v21 h
          refine lv_iload_n hx hb dX0_orderBars_69 rfl (lv_at hl 1 rfl) ?_
          refine g_cz hw (g_runV (As := [.int v2, .int v21, .int x1]) (rest := []) hx hb hml hown hts mX0_isBarBefore vX0_isBarBefore kX0_90 hw 5 p (ci_5 hp) (bi_5 hp hn) rfl rfl (c_X0_isBarBefore hn hp h) rfl rfl ⟨Nat.le_of_ble_eq_true rfl, Nat.le_of_ble_eq_true rfl⟩ rfl hl.1 rfl (Nat.le_of_ble_eq_true rfl) dX0_orderBars_70 ⟨Nat.zero_le _, Nat.zero_le _⟩) ?_
          clear h hw; intro v23 M22 H locs hw hz_v23 h
          refine g_if_eq (tgt := 96) hx hb h dX0_orderBars_73 (by decide) ?_ ?_
          · clear h; intro h
            exact hK19 (v17, M22) h _ _ _ hw (lv_sub hl [0, 1, 2, 3] rfl)
          · clear h; intro h
            refine lv_aload_n hx hb dX0_orderBars_76 rfl (lv_at hl 0 rfl) ?_
            refine g_getf hx hb hts in_X0 hown hw 5 p (ci_5 hp) (bi_5 hp hn) rfl rfl 6 (by decide) kX0_37 rfl dX0_orderBars_77 ?_
            refine lv_iload_n hx hb dX0_orderBars_80 rfl (lv_at hl 3 rfl) ?_
            refine lv_aload_n hx hb dX0_orderBars_81 rfl (lv_at hl 0 rfl) ?_
            refine g_getf hx hb hts in_X0 hown hw 5 p (ci_5 hp) (bi_5 hp hn) rfl rfl 6 (by decide) kX0_37 rfl dX0_orderBars_82 ?_
            refine lv_iload_n hx hb dX0_orderBars_85 rfl (lv_at hl 3 rfl) ?_
            refine lv_iconst (v := 1) hx hb dX0_orderBars_86 (by decide) ?_
            refine lv_isub hx hb dX0_orderBars_87 ?_
            refine g_iald hx hb hw 10 p (ci_10 hp) (bi_10 hp hn) rfl h dX0_orderBars_88 ?_
            clear h; intro v24 h
            refine g_iast hx hb hw 10 p (ci_10 hp) (bi_10 hp hn) (fun _ => rfl) h dX0_orderBars_89 ?_
            clear h hw; intro M25 H locs hw h
            refine g_iinc (k := 3) (v := (v17 + (-1 : Int32))) (lv' := fun v26 => [(3, .int v26), (0, .ref (o.2.1 5 p)), (1, .int x1), (2, .int v2)]) hx hb dX0_orderBars_90 hl rfl rfl (by decide) (fun _ => rfl) h ?_
            clear h hl; clear ls; intro v26 ls h hl
            refine lv_goto (tgt := 55) hx hb dX0_orderBars_93 (by decide) ?_
            exact hR20 (v26, M25) h _ _ _ hw (lv_sub hl [1, 2, 3, 0] rfl)
abbrev rm_X0_smallestFree : Room := { frames := 0, cells := 0, slots := 0, locals := 0 }
set_option maxHeartbeats 4000000 in
set_option maxRecDepth 100000 in
theorem c_X0_smallestFree {o : Om} {l : Launch} (hn : 115 ≤ o.2.2.2) {M : Mm} {x0 : Int32} {Q : Int32 → Mm → Prop} (h : w_X0_smallestFree M x0 Q) : CI o l yX0_smallestFree cX0_smallestFree 2 rm_X0_smallestFree [.int x0] M Q := by
  refine g_start (by decide +kernel) (Nat.le_of_ble_eq_true rfl) ?_
  intro p e s m args below meth c hx hb hr hlocks hml hown hts hw ls hl
  replace hl : lv_has ls 2 [(0, .int x0)] := hl
  unfold w_X0_smallestFree at h
  refine lv_iconst (v := 0) hx hb dX0_smallestFree_0 (by decide) ?_
  refine lv_istore_n (lv' := [(1, .int (0 : Int32)), (0, .int x0)]) hx hb dX0_smallestFree_1 rfl hl (by decide) rfl ?_
  clear hl; clear ls; intro ls hl
  obtain ⟨n, h⟩ := h
  refine letK_W (body := fun K => w_X0_smallestFree_L2 x0 K) (fun (x : Int32 × Mm) => ∀ (H : Heap) (locs : List Loc) (ls : Array Slot), WO o (WA o) s s.heap H locs x.2 → lv_has ls 2 [(1, .int x.1)] → W p l e rm_X0_smallestFree s m args below meth c H locs 0 0 (MQ below (QI o Q) args s 0 0 (WA o)) (F0 m 22 ls [])) h ?_ ?_
  · clear h hw hl; clear ls; intro x h H locs ls hw hl
    obtain ⟨v6, M7⟩ := x
    replace hl : lv_has ls 2 [(1, .int v6)] := hl
    dsimp only at h hw
    refine lv_iload_n hx hb dX0_smallestFree_22 rfl (lv_at hl 0 rfl) ?_
    exact g_iret hx hb hr hlocks hw h dX0_smallestFree_23
  clear h; intro K3 hK3 h
  refine loop_W (body := w_X0_smallestFree_L2 x0 K3) (fun (x : Int32 × Mm) => ∀ (H : Heap) (locs : List Loc) (ls : Array Slot), WO o (WA o) s s.heap H locs x.2 → lv_has ls 2 [(0, .int x0), (1, .int x.1)] → W p l e rm_X0_smallestFree s m args below meth c H locs 0 0 (MQ below (QI o Q) args s 0 0 (WA o)) (F0 m 2 ls [])) ?_ n _ h _ _ _ hw (lv_sub hl [1, 0] rfl)
  clear h hw hl; clear ls; intro R4 x hR4 h H locs ls hw hl
  obtain ⟨v1, M2⟩ := x
  replace hl : lv_has ls 2 [(0, .int x0), (1, .int v1)] := hl
  dsimp only at hw
  unfold w_X0_smallestFree_L2 at h
  dsimp only at h
  refine lv_iload_n hx hb dX0_smallestFree_2 rfl (lv_at hl 1 rfl) ?_
  refine lv_bipush (v := 24) hx hb dX0_smallestFree_3 (by decide) ?_
  refine g_icmp_ge (tgt := 22) hx hb h dX0_smallestFree_5 (by decide) ?_ ?_
  · clear h; intro h
    exact hK3 (v1, M2) h _ _ _ hw (lv_sub hl [1] rfl)
  · clear h; intro h
    refine lv_iload_n hx hb dX0_smallestFree_8 rfl (lv_at hl 0 rfl) ?_
    refine lv_iload_n hx hb dX0_smallestFree_9 rfl (lv_at hl 1 rfl) ?_
    refine lv_ishr hx hb dX0_smallestFree_10 ?_
    refine lv_iconst (v := 1) hx hb dX0_smallestFree_11 (by decide) ?_
    refine lv_iand hx hb dX0_smallestFree_12 ?_
    refine g_if_eq (tgt := 22) hx hb h dX0_smallestFree_13 (by decide) ?_ ?_
    · clear h; intro h
      exact hK3 (v1, M2) h _ _ _ hw (lv_sub hl [1] rfl)
    · clear h; intro h
      refine g_iinc (k := 1) (v := (v1 + (1 : Int32))) (lv' := fun v5 => [(1, .int v5), (0, .int x0)]) hx hb dX0_smallestFree_16 hl rfl rfl (by decide) (fun _ => rfl) h ?_
      clear h hl; clear ls; intro v5 ls h hl
      refine lv_goto (tgt := 2) hx hb dX0_smallestFree_19 (by decide) ?_
      exact hR4 (v5, M2) h _ _ _ hw (lv_sub hl [1, 0] rfl)
