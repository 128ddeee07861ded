abbrev rm_X0_cutWeeks : Room := { frames := 0, cells := 0, slots := 0, locals := 0 }
set_option maxHeartbeats 4000000 in
set_option maxRecDepth 100000 in
theorem c_X0_cutWeeks {o : Om} {l : Launch} (hn : 115 ≤ o.2.2.2) {p : Nat} (hp : p < 2) {M : Mm} {Q : Mm → Prop} (h : w_X0_cutWeeks p M Q) : CV o l yX0_cutWeeks cX0_cutWeeks 2 rm_X0_cutWeeks [.ref (o.2.1 5 p)] M Q := by
  refine g_start (by decide +kernel) (Nat.le_of_ble_eq_true rfl) ?_
  intro p' e s m args below meth c hx hb hr hlocks hml hown hts hw ls hl
  replace hl : lv_has ls 2 [(0, .ref (o.2.1 5 p))] := hl
  unfold w_X0_cutWeeks at h
  refine lv_aload_n hx hb dX0_cutWeeks_0 rfl (lv_at hl 0 rfl) ?_
  refine lv_iconst (v := 0) hx hb dX0_cutWeeks_1 (by decide) ?_
  refine g_putf hx hb hts in_X0 tyX0 tyX0_ok nmX0 hown hw 5 p (ci_5 hp) (bi_5 hp hn) rfl 1 (by decide) rfl rfl kX0_18 (by decide +kernel) (by decide +kernel) (by simp) h dX0_cutWeeks_2 ?_
  clear h hw; intro M1 H locs hw h
  refine lv_aload_n hx hb dX0_cutWeeks_5 rfl (lv_at hl 0 rfl) ?_
  refine g_getf hx hb hts in_X0 hown hw 5 p (ci_5 hp) (bi_5 hp hn) rfl rfl 0 (by decide) kX0_12 rfl dX0_cutWeeks_6 ?_
  refine g_getf hx hb hts in_X2 hown hw 11 p (ci_11 (Nat.lt_of_lt_of_le hp (by decide))) (bi_11 (Nat.lt_of_lt_of_le hp (by decide)) hn) rfl rfl 0 (by decide) kX0_63 rfl dX0_cutWeeks_9 ?_
  refine g_topi h ?_
  clear h; intro v2 h
  refine lv_istore_n (lv' := [(1, .int v2), (0, .ref (o.2.1 5 p))]) hx hb dX0_cutWeeks_12 rfl hl (by decide) rfl ?_
  clear hl; clear ls; intro ls hl
  obtain ⟨n, h⟩ := h
  refine letK_W (body := fun K => w_X0_cutWeeks_L13 p K) (fun (x : Int32 × Mm) => ∀ (H : Heap) (locs : List Loc) (ls : Array Slot), WO o (WA o) s s.heap H locs x.2 → lv_has ls 2 [(0, .ref (o.2.1 5 p))] → W p' l e rm_X0_cutWeeks s m args below meth c H locs 0 0 (MQ below (QV o Q) args s 0 0 (WA o)) (F0 m 84 ls [])) h ?_ ?_
  · clear h hw hl; clear ls; intro x h H locs ls hw hl
    obtain ⟨v12, M13⟩ := x
    replace hl : lv_has ls 2 [(0, .ref (o.2.1 5 p))] := hl
    dsimp only at h hw
    refine lv_aload_n hx hb dX0_cutWeeks_84 rfl (lv_at hl 0 rfl) ?_
    refine g_getf hx hb hts in_X0 hown hw 5 p (ci_5 hp) (bi_5 hp hn) rfl rfl 2 (by decide) kX0_22 rfl dX0_cutWeeks_85 ?_
    refine lv_aload_n hx hb dX0_cutWeeks_88 rfl (lv_at hl 0 rfl) ?_
    refine g_getf hx hb hts in_X0 hown hw 5 p (ci_5 hp) (bi_5 hp hn) rfl rfl 1 (by decide) kX0_18 rfl dX0_cutWeeks_89 ?_
    refine lv_aload_n hx hb dX0_cutWeeks_92 rfl (lv_at hl 0 rfl) ?_
    refine g_getf hx hb hts in_X0 hown hw 5 p (ci_5 hp) (bi_5 hp hn) rfl rfl 0 (by decide) kX0_12 rfl dX0_cutWeeks_93 ?_
    refine g_getf hx hb hts in_X2 hown hw 11 p (ci_11 (Nat.lt_of_lt_of_le hp (by decide))) (bi_11 (Nat.lt_of_lt_of_le hp (by decide)) hn) rfl rfl 1 (by decide) kX0_66 rfl dX0_cutWeeks_96 ?_
    refine lv_iconst (v := 1) hx hb dX0_cutWeeks_99 (by decide) ?_
    refine lv_iadd hx hb dX0_cutWeeks_100 ?_
    refine g_iast hx hb hw 6 p (ci_6 hp) (bi_6 hp hn) (fun _ => rfl) h dX0_cutWeeks_101 ?_
    clear h hw; intro M14 H locs hw h
    exact g_vret hx hb hr hlocks hw h dX0_cutWeeks_102
  clear h; intro K5 hK5 h
  refine loop_W (body := w_X0_cutWeeks_L13 p K5) (fun (x : Int32 × Mm) => ∀ (H : Heap) (locs : List Loc) (ls : Array Slot), WO o (WA o) s s.heap H locs x.2 → lv_has ls 2 [(0, .ref (o.2.1 5 p)), (1, .int x.1)] → W p' l e rm_X0_cutWeeks s m args below meth c H locs 0 0 (MQ below (QV o Q) args s 0 0 (WA o)) (F0 m 13 ls [])) ?_ n _ h _ _ _ hw (lv_sub hl [1, 0] rfl)
  clear h hw hl; clear ls; intro R6 x hR6 h H locs ls hw hl
  obtain ⟨v3, M4⟩ := x
  replace hl : lv_has ls 2 [(0, .ref (o.2.1 5 p)), (1, .int v3)] := hl
  dsimp only at hw
  unfold w_X0_cutWeeks_L13 at h
  dsimp only at h
  refine lv_iload_n hx hb dX0_cutWeeks_13 rfl (lv_at hl 1 rfl) ?_
  refine lv_aload_n hx hb dX0_cutWeeks_14 rfl (lv_at hl 0 rfl) ?_
  refine g_getf hx hb hts in_X0 hown hw 5 p (ci_5 hp) (bi_5 hp hn) rfl rfl 0 (by decide) kX0_12 rfl dX0_cutWeeks_15 ?_
  refine g_getf hx hb hts in_X2 hown hw 11 p (ci_11 (Nat.lt_of_lt_of_le hp (by decide))) (bi_11 (Nat.lt_of_lt_of_le hp (by decide)) hn) rfl rfl 1 (by decide) kX0_66 rfl dX0_cutWeeks_18 ?_
  refine g_icmp_gt (tgt := 84) hx hb h dX0_cutWeeks_21 (by decide) ?_ ?_
  · clear h; intro h
    exact hK5 (v3, M4) h _ _ _ hw (lv_sub hl [0] rfl)
  · clear h; intro h
    refine lv_aload_n hx hb dX0_cutWeeks_24 rfl (lv_at hl 0 rfl) ?_
    refine g_getf hx hb hts in_X0 hown hw 5 p (ci_5 hp) (bi_5 hp hn) rfl rfl 1 (by decide) kX0_18 rfl dX0_cutWeeks_25 ?_
    refine lv_bipush (v := 7) hx hb dX0_cutWeeks_28 (by decide) ?_
    refine g_icmp_ge (tgt := 84) hx hb h dX0_cutWeeks_30 (by decide) ?_ ?_
    · clear h; intro h
      exact hK5 (v3, M4) h _ _ _ hw (lv_sub hl [0] rfl)
    · clear h; intro h
      refine lv_iload_n hx hb dX0_cutWeeks_33 rfl (lv_at hl 1 rfl) ?_
      refine lv_aload_n hx hb dX0_cutWeeks_34 rfl (lv_at hl 0 rfl) ?_
      refine g_getf hx hb hts in_X0 hown hw 5 p (ci_5 hp) (bi_5 hp hn) rfl rfl 0 (by decide) kX0_12 rfl dX0_cutWeeks_35 ?_
      refine g_getf hx hb hts in_X2 hown hw 11 p (ci_11 (Nat.lt_of_lt_of_le hp (by decide))) (bi_11 (Nat.lt_of_lt_of_le hp (by decide)) hn) rfl rfl 0 (by decide) kX0_63 rfl dX0_cutWeeks_38 ?_
      refine letJ_W (fun (x : Unit) => ∀ (H : Heap) (locs : List Loc) (ls : Array Slot), WO o (WA o) s s.heap H locs M4 → lv_has ls 2 [(0, .ref (o.2.1 5 p)), (1, .int v3)] → W p' l e rm_X0_cutWeeks s m args below meth c H locs 0 0 (MQ below (QV o Q) args s 0 0 (WA o)) (F0 m 58 ls [])) h ?_ ?_
      · clear h hw hl; clear ls; intro x h H locs ls hw hl
        replace hl : lv_has ls 2 [(0, .ref (o.2.1 5 p)), (1, .int v3)] := hl
        refine lv_aload_n hx hb dX0_cutWeeks_58 rfl (lv_at hl 0 rfl) ?_
        refine g_getf hx hb hts in_X0 hown hw 5 p (ci_5 hp) (bi_5 hp hn) rfl rfl 2 (by decide) kX0_22 rfl dX0_cutWeeks_59 ?_
        refine lv_aload_n hx hb dX0_cutWeeks_62 rfl (lv_at hl 0 rfl) ?_
        refine g_getf hx hb hts in_X0 hown hw 5 p (ci_5 hp) (bi_5 hp hn) rfl rfl 1 (by decide) kX0_18 rfl dX0_cutWeeks_63 ?_
        refine lv_iload_n hx hb dX0_cutWeeks_66 rfl (lv_at hl 1 rfl) ?_
        refine g_iast hx hb hw 6 p (ci_6 hp) (bi_6 hp hn) (fun _ => rfl) h dX0_cutWeeks_67 ?_
        clear h hw; intro M8 H locs hw h
        refine lv_aload_n hx hb dX0_cutWeeks_68 rfl (lv_at hl 0 rfl) ?_
        refine lv_dup hx hb dX0_cutWeeks_69 rfl ?_
        refine g_getf hx hb hts in_X0 hown hw 5 p (ci_5 hp) (bi_5 hp hn) rfl rfl 1 (by decide) kX0_18 rfl dX0_cutWeeks_70 ?_
        refine lv_iconst (v := 1) hx hb dX0_cutWeeks_73 (by decide) ?_
        refine lv_iadd hx hb dX0_cutWeeks_74 ?_
        refine g_putf hx hb hts in_X0 tyX0 tyX0_ok nmX0 hown hw 5 p (ci_5 hp) (bi_5 hp hn) rfl 1 (by decide) rfl rfl kX0_18 (by decide +kernel) (by decide +kernel) (by simp) h dX0_cutWeeks_75 ?_
        clear h hw; intro M9 H locs hw h
        refine g_iinc (k := 1) (v := (v3 + (1 : Int32))) (lv' := fun v10 => [(1, .int v10), (0, .ref (o.2.1 5 p))]) hx hb dX0_cutWeeks_78 hl rfl rfl (by decide) (fun _ => rfl) h ?_
        clear h hl; clear ls; intro v10 ls h hl
        refine lv_goto (tgt := 13) hx hb dX0_cutWeeks_81 (by decide) ?_
        exact hR6 (v10, M9) h _ _ _ hw (lv_sub hl [1, 0] rfl)
      clear h; intro J7 hJ7 h
      refine g_icmp_eq (tgt := 58) hx hb h dX0_cutWeeks_41 (by decide) ?_ ?_
      · clear h; intro h
        exact hJ7 () h _ _ _ hw (lv_sub hl [0, 1] rfl)
      · clear h; intro h
        refine lv_iload_n hx hb dX0_cutWeeks_44 rfl (lv_at hl 1 rfl) ?_
        refine lv_bipush (v := 7) hx hb dX0_cutWeeks_45 (by decide) ?_
        refine lv_irem hx hb dX0_cutWeeks_47 (by decide) ?_
        refine lv_aload_n hx hb dX0_cutWeeks_48 rfl (lv_at hl 0 rfl) ?_
        refine g_getf hx hb hts in_X0 hown hw 5 p (ci_5 hp) (bi_5 hp hn) rfl rfl 0 (by decide) kX0_12 rfl dX0_cutWeeks_49 ?_
        refine g_getf hx hb hts in_X2 hown hw 11 p (ci_11 (Nat.lt_of_lt_of_le hp (by decide))) (bi_11 (Nat.lt_of_lt_of_le hp (by decide)) hn) rfl rfl 2 (by decide) kX0_69 rfl dX0_cutWeeks_52 ?_
        refine g_icmp_ne (tgt := 78) hx hb h dX0_cutWeeks_55 (by decide) ?_ ?_
        · clear h; intro h
          refine g_iinc (k := 1) (v := (v3 + (1 : Int32))) (lv' := fun v11 => [(1, .int v11), (0, .ref (o.2.1 5 p))]) hx hb dX0_cutWeeks_78 hl rfl rfl (by decide) (fun _ => rfl) h ?_
          clear h hl; clear ls; intro v11 ls h hl
          refine lv_goto (tgt := 13) hx hb dX0_cutWeeks_81 (by decide) ?_
          exact hR6 (v11, M4) h _ _ _ hw (lv_sub hl [1, 0] rfl)
        · clear h; intro h
          exact hJ7 () h _ _ _ hw (lv_sub hl [0, 1] rfl)
abbrev rm_X0_wipe : Room := { frames := 0, cells := 0, slots := 0, locals := 0 }
set_option maxHeartbeats 4000000 in
set_option maxRecDepth 100000 in
theorem c_X0_wipe {o : Om} {l : Launch} (hn : 115 ≤ o.2.2.2) {p : Nat} (hp : p < 2) {M : Mm} {Q : Mm → Prop} (h : w_X0_wipe p M Q) : CV o l yX0_wipe cX0_wipe 3 rm_X0_wipe [.ref (o.2.1 5 p)] M Q := by
  refine g_start (by decide +kernel) (Nat.le_of_ble_eq_true rfl) ?_
  intro p' e s m args below meth c hx hb hr hlocks hml hown hts hw ls hl
  replace hl : lv_has ls 3 [(0, .ref (o.2.1 5 p))] := hl
  unfold w_X0_wipe at h
  refine lv_iconst (v := 0) hx hb dX0_wipe_0 (by decide) ?_
  refine lv_istore_n (lv' := [(1, .int (0 : Int32)), (0, .ref (o.2.1 5 p))]) hx hb dX0_wipe_1 rfl hl (by decide) rfl ?_
  clear hl; clear ls; intro ls hl
  obtain ⟨n, h⟩ := h
  refine letK_W (body := fun K => w_X0_wipe_L2 p K) (fun (x : Int32 × Mm) => ∀ (H : Heap) (locs : List Loc) (ls : Array Slot), WO o (WA o) s s.heap H locs x.2 → lv_has ls 3 [(0, .ref (o.2.1 5 p))] → W p' l e rm_X0_wipe s m args below meth c H locs 0 0 (MQ below (QV o Q) args s 0 0 (WA o)) (F0 m 21 ls [])) h ?_ ?_
  · clear h hw hl; clear ls; intro x h H locs ls hw hl
    obtain ⟨v7, M8⟩ := x
    replace hl : lv_has ls 3 [(0, .ref (o.2.1 5 p))] := hl
    dsimp only at h hw
    refine lv_iconst (v := 0) hx hb dX0_wipe_21 (by decide) ?_
    refine lv_istore_n (lv' := [(1, .int (0 : Int32)), (0, .ref (o.2.1 5 p))]) hx hb dX0_wipe_22 rfl hl (by decide) rfl ?_
    clear hl; clear ls; intro ls hl
    obtain ⟨n, h⟩ := h
    refine letK_W (body := fun K => w_X0_wipe_L23 p K) (fun (x : Int32 × Mm) => ∀ (H : Heap) (locs : List Loc) (ls : Array Slot), WO o (WA o) s s.heap H locs x.2 → lv_has ls 3 [] → W p' l e rm_X0_wipe s m args below meth c H locs 0 0 (MQ below (QV o Q) args s 0 0 (WA o)) (F0 m 67 ls [])) h ?_ ?_
    · clear h hw hl; clear ls; intro x h H locs ls hw hl
      obtain ⟨v24, M25⟩ := x
      replace hl : lv_has ls 3 [] := hl
      dsimp only at h hw
      exact g_vret hx hb hr hlocks hw h dX0_wipe_67
    clear h; intro K11 hK11 h
    refine loop_W (body := w_X0_wipe_L23 p K11) (fun (x : Int32 × Mm) => ∀ (H : Heap) (locs : List Loc) (ls : Array Slot), WO o (WA o) s s.heap H locs x.2 → lv_has ls 3 [(0, .ref (o.2.1 5 p)), (1, .int x.1)] → W p' l e rm_X0_wipe s m args below meth c H locs 0 0 (MQ below (QV o Q) args s 0 0 (WA o)) (F0 m 23 ls [])) ?_ n _ h _ _ _ hw (lv_sub hl [1, 0] rfl)
    clear h hw hl; clear ls; intro R12 x hR12 h H locs ls hw hl
    obtain ⟨v9, M10⟩ := x
    replace hl : lv_has ls 3 [(0, .ref (o.2.1 5 p)), (1, .int v9)] := hl
    dsimp only at hw
    unfold w_X0_wipe_L23 at h
    dsimp only at h
    refine lv_iload_n hx hb dX0_wipe_23 rfl (lv_at hl 1 rfl) ?_
    refine lv_bipush (v := 24) hx hb dX0_wipe_24 (by decide) ?_
    refine g_icmp_ge (tgt := 67) hx hb h dX0_wipe_26 (by decide) ?_ ?_
    · clear h; intro h
      exact hK11 (v9, M10) h _ _ _ hw (lv_sub hl [] rfl)
    · clear h; intro h
      refine lv_aload_n hx hb dX0_wipe_29 rfl (lv_at hl 0 rfl) ?_
      refine g_getf hx hb hts in_X0 hown hw 5 p (ci_5 hp) (bi_5 hp hn) rfl rfl 4 (by decide) kX0_31 rfl dX0_wipe_30 ?_
      refine lv_iload_n hx hb dX0_wipe_33 rfl (lv_at hl 1 rfl) ?_
      refine lv_bipush (v := (-9)) hx hb dX0_wipe_34 (by decide) ?_
      refine g_iast hx hb hw 8 p (ci_8 hp) (bi_8 hp hn) (fun _ => rfl) h dX0_wipe_36 ?_
      clear h hw; intro M13 H locs hw h
      refine lv_iconst (v := 0) hx hb dX0_wipe_37 (by decide) ?_
      refine lv_istore_n (lv' := [(2, .int (0 : Int32)), (0, .ref (o.2.1 5 p)), (1, .int v9)]) hx hb dX0_wipe_38 rfl hl (by decide) rfl ?_
      clear hl; clear ls; intro ls hl
      obtain ⟨n, h⟩ := h
      refine letK_W (body := fun K => w_X0_wipe_L39 p v9 K) (fun (x : Int32 × Mm) => ∀ (H : Heap) (locs : List Loc) (ls : Array Slot), WO o (WA o) s s.heap H locs x.2 → lv_has ls 3 [(0, .ref (o.2.1 5 p)), (1, .int v9)] → W p' l e rm_X0_wipe s m args below meth c H locs 0 0 (MQ below (QV o Q) args s 0 0 (WA o)) (F0 m 61 ls [])) h ?_ ?_
      · clear h hw hl; clear ls; intro x h H locs ls hw hl
        obtain ⟨v21, M22⟩ := x
        replace hl : lv_has ls 3 [(0, .ref (o.2.1 5 p)), (1, .int v9)] := hl
        dsimp only at h hw
        refine g_iinc (k := 1) (v := (v9 + (1 : Int32))) (lv' := fun v23 => [(1, .int v23), (0, .ref (o.2.1 5 p))]) hx hb dX0_wipe_61 hl rfl rfl (by decide) (fun _ => rfl) h ?_
        clear h hl; clear ls; intro v23 ls h hl
        refine lv_goto (tgt := 23) hx hb dX0_wipe_64 (by decide) ?_
        exact hR12 (v23, M22) h _ _ _ hw (lv_sub hl [1, 0] rfl)
      clear h; intro K16 hK16 h
      refine loop_W (body := w_X0_wipe_L39 p v9 K16) (fun (x : Int32 × Mm) => ∀ (H : Heap) (locs : List Loc) (ls : Array Slot), WO o (WA o) s s.heap H locs x.2 → lv_has ls 3 [(0, .ref (o.2.1 5 p)), (1, .int v9), (2, .int x.1)] → W p' l e rm_X0_wipe s m args below meth c H locs 0 0 (MQ below (QV o Q) args s 0 0 (WA o)) (F0 m 39 ls [])) ?_ n _ h _ _ _ hw (lv_sub hl [1, 2, 0] rfl)
      clear h hw hl; clear ls; intro R17 x hR17 h H locs ls hw hl
      obtain ⟨v14, M15⟩ := x
      replace hl : lv_has ls 3 [(0, .ref (o.2.1 5 p)), (1, .int v9), (2, .int v14)] := hl
      dsimp only at hw
      unfold w_X0_wipe_L39 at h
      dsimp only at h
      refine lv_iload_n hx hb dX0_wipe_39 rfl (lv_at hl 2 rfl) ?_
      refine lv_bipush (v := 7) hx hb dX0_wipe_40 (by decide) ?_
      refine g_icmp_ge (tgt := 61) hx hb h dX0_wipe_42 (by decide) ?_ ?_
      · clear h; intro h
        exact hK16 (v14, M15) h _ _ _ hw (lv_sub hl [0, 1] rfl)
      · clear h; intro h
        refine lv_aload_n hx hb dX0_wipe_45 rfl (lv_at hl 0 rfl) ?_
        refine g_getf hx hb hts in_X0 hown hw 5 p (ci_5 hp) (bi_5 hp hn) rfl rfl 3 (by decide) kX0_28 rfl dX0_wipe_46 ?_
        refine lv_iload_n hx hb dX0_wipe_49 rfl (lv_at hl 1 rfl) ?_
        refine g_aldR hx hb hw hp hn h dX0_wipe_50 ?_
        clear h; intro k18 hk18 h
        refine lv_iload_n hx hb dX0_wipe_51 rfl (lv_at hl 2 rfl) ?_
        refine lv_bipush (v := (-9)) hx hb dX0_wipe_52 (by decide) ?_
        refine g_iast hx hb hw 12 (24 * p + k18) (ci_12 (r_48 hp hk18)) (bi_12 (r_48 hp hk18) hn) (fun _ => rfl) h dX0_wipe_54 ?_
        clear h hw; intro M19 H locs hw h
        refine g_iinc (k := 2) (v := (v14 + (1 : Int32))) (lv' := fun v20 => [(2, .int v20), (0, .ref (o.2.1 5 p)), (1, .int v9)]) hx hb dX0_wipe_55 hl rfl rfl (by decide) (fun _ => rfl) h ?_
        clear h hl; clear ls; intro v20 ls h hl
        refine lv_goto (tgt := 39) hx hb dX0_wipe_58 (by decide) ?_
        exact hR17 (v20, M19) h _ _ _ hw (lv_sub hl [1, 2, 0] rfl)
  clear h; intro K3 hK3 h
  refine loop_W (body := w_X0_wipe_L2 p K3) (fun (x : Int32 × Mm) => ∀ (H : Heap) (locs : List Loc) (ls : Array Slot), WO o (WA o) s s.heap H locs x.2 → lv_has ls 3 [(0, .ref (o.2.1 5 p)), (1, .int x.1)] → W p' l e rm_X0_wipe s m args below meth c H locs 0 0 (MQ below (QV o Q) args s 0 0 (WA o)) (F0 m 2 ls [])) ?_ n _ h _ _ _ hw (lv_sub hl [1, 0] rfl)
  clear h hw hl; clear ls; intro R4 x hR4 h H locs ls hw hl
  obtain ⟨v1, M2⟩ := x
  replace hl : lv_has ls 3 [(0, .ref (o.2.1 5 p)), (1, .int v1)] := hl
  dsimp only at hw
  unfold w_X0_wipe_L2 at h
  dsimp only at h
  refine lv_iload_n hx hb dX0_wipe_2 rfl (lv_at hl 1 rfl) ?_
  refine lv_bipush (v := 42) hx hb dX0_wipe_3 (by decide) ?_
  refine g_icmp_ge (tgt := 21) hx hb h dX0_wipe_5 (by decide) ?_ ?_
  · clear h; intro h
    exact hK3 (v1, M2) h _ _ _ hw (lv_sub hl [0] rfl)
  · clear h; intro h
    refine lv_aload_n hx hb dX0_wipe_8 rfl (lv_at hl 0 rfl) ?_
    refine g_getf hx hb hts in_X0 hown hw 5 p (ci_5 hp) (bi_5 hp hn) rfl rfl 5 (by decide) kX0_34 rfl dX0_wipe_9 ?_
    refine lv_iload_n hx hb dX0_wipe_12 rfl (lv_at hl 1 rfl) ?_
    refine lv_iconst (v := 0) hx hb dX0_wipe_13 (by decide) ?_
    refine g_iast hx hb hw 9 p (ci_9 hp) (bi_9 hp hn) (fun _ => rfl) h dX0_wipe_14 ?_
    clear h hw; intro M5 H locs hw h
    refine g_iinc (k := 1) (v := (v1 + (1 : Int32))) (lv' := fun v6 => [(1, .int v6), (0, .ref (o.2.1 5 p))]) hx hb dX0_wipe_15 hl rfl rfl (by decide) (fun _ => rfl) h ?_
    clear h hl; clear ls; intro v6 ls h hl
    refine lv_goto (tgt := 2) hx hb dX0_wipe_18 (by decide) ?_
    exact hR4 (v6, M5) h _ _ _ hw (lv_sub hl [1, 0] rfl)
abbrev rm_X2_isLong : Room := { frames := 0, cells := 0, slots := 0, locals := 0 }
set_option maxHeartbeats 4000000 in
set_option maxRecDepth 100000 in
theorem c_X2_isLong {o : Om} {l : Launch} (hn : 115 ≤ o.2.2.2) {i : Nat} (hi : i < 10) {M : Mm} {x1 : Int32} {Q : Int32 → Mm → Prop} (h : w_X2_isLong i M x1 Q) : CZ o l yX2_isLong cX2_isLong 2 rm_X2_isLong [.ref (o.2.1 11 i), .int x1] M Q := by
  refine g_start (by decide +kernel) (Nat.le_of_ble_eq_true rfl) ?_
  intro p e s m args below meth c hx hb hr hlocks hml hown hts hw ls hl
  replace hl : lv_has ls 2 [(0, .ref (o.2.1 11 i)), (1, .int x1)] := hl
  unfold w_X2_isLong at h
  refine lv_aload_n hx hb dX2_isLong_0 rfl (lv_at hl 0 rfl) ?_
  refine g_getf hx hb hts in_X2 hown hw 11 i (ci_11 hi) (bi_11 hi hn) rfl rfl 6 (by decide) kX2_31 rfl dX2_isLong_1 ?_
  refine lv_iload_n hx hb dX2_isLong_4 rfl (lv_at hl 1 rfl) ?_
  refine g_iald hx hb hw 14 i (ci_14 hi) (bi_14 hi hn) rfl h dX2_isLong_5 ?_
  clear h; intro v1 h
  refine lv_aload_n hx hb dX2_isLong_6 rfl (lv_at hl 0 rfl) ?_
  refine g_getf hx hb hts in_X2 hown hw 11 i (ci_11 hi) (bi_11 hi hn) rfl rfl 5 (by decide) kX2_27 rfl dX2_isLong_7 ?_
  refine lv_iload_n hx hb dX2_isLong_10 rfl (lv_at hl 1 rfl) ?_
  refine g_iald hx hb hw 13 i (ci_13 hi) (bi_13 hi hn) rfl h dX2_isLong_11 ?_
  clear h; intro v2 h
  refine g_icmp_gt (tgt := 26) hx hb h dX2_isLong_12 (by decide) ?_ ?_
  · clear h; intro h
    refine lv_iconst (v := 1) hx hb dX2_isLong_26 (by decide) ?_
    refine lv_goto (tgt := 31) hx hb dX2_isLong_27 (by decide) ?_
    exact g_zret hx hb hr hlocks hw (Or.inr rfl) h dX2_isLong_31
  · clear h; intro h
    refine lv_aload_n hx hb dX2_isLong_15 rfl (lv_at hl 0 rfl) ?_
    refine g_getf hx hb hts in_X2 hown hw 11 i (ci_11 hi) (bi_11 hi hn) rfl rfl 7 (by decide) kX2_34 rfl dX2_isLong_16 ?_
    refine lv_iload_n hx hb dX2_isLong_19 rfl (lv_at hl 1 rfl) ?_
    refine g_iald hx hb hw 15 i (ci_15 hi) (bi_15 hi hn) rfl h dX2_isLong_20 ?_
    clear h; intro v3 h
    refine lv_bipush (v := (-9)) hx hb dX2_isLong_21 (by decide) ?_
    refine g_icmp_ne (tgt := 30) hx hb h dX2_isLong_23 (by decide) ?_ ?_
    · clear h; intro h
      refine lv_iconst (v := 0) hx hb dX2_isLong_30 (by decide) ?_
      exact g_zret hx hb hr hlocks hw (Or.inl rfl) h dX2_isLong_31
    · clear h; intro h
      refine lv_iconst (v := 1) hx hb dX2_isLong_26 (by decide) ?_
      refine lv_goto (tgt := 31) hx hb dX2_isLong_27 (by decide) ?_
      exact g_zret hx hb hr hlocks hw (Or.inr rfl) h dX2_isLong_31
abbrev rm_X0_firstOfWeek : Room := { frames := 0, cells := 0, slots := 0, locals := 0 }
set_option maxHeartbeats 4000000 in
set_option maxRecDepth 100000 in
theorem c_X0_firstOfWeek {o : Om} {l : Launch} (hn : 115 ≤ o.2.2.2) {p : Nat} (hp : p < 2) {M : Mm} {x1 : Int32} {Q : Int32 → Mm → Prop} (h : w_X0_firstOfWeek p M x1 Q) : CI o l yX0_firstOfWeek cX0_firstOfWeek 2 rm_X0_firstOfWeek [.ref (o.2.1 5 p), .int x1] M Q := by
  refine g_start (by decide +kernel) (Nat.le_of_ble_eq_true rfl) ?_
  intro p' e s m args below meth c hx hb hr hlocks hml hown hts hw ls hl
  replace hl : lv_has ls 2 [(0, .ref (o.2.1 5 p)), (1, .int x1)] := hl
  unfold w_X0_firstOfWeek at h
  refine lv_aload_n hx hb dX0_firstOfWeek_0 rfl (lv_at hl 0 rfl) ?_
  refine g_getf hx hb hts in_X0 hown hw 5 p (ci_5 hp) (bi_5 hp hn) rfl rfl 2 (by decide) kX0_22 rfl dX0_firstOfWeek_1 ?_
  refine lv_iload_n hx hb dX0_firstOfWeek_4 rfl (lv_at hl 1 rfl) ?_
  refine g_iald hx hb hw 6 p (ci_6 hp) (bi_6 hp hn) rfl h dX0_firstOfWeek_5 ?_
  clear h; intro v1 h
  exact g_iret hx hb hr hlocks hw h dX0_firstOfWeek_6
abbrev rm_X0_lastOfWeek : Room := { frames := 0, cells := 0, slots := 0, locals := 0 }
set_option maxHeartbeats 4000000 in
set_option maxRecDepth 100000 in
theorem c_X0_lastOfWeek {o : Om} {l : Launch} (hn : 115 ≤ o.2.2.2) {p : Nat} (hp : p < 2) {M : Mm} {x1 : Int32} {Q : Int32 → Mm → Prop} (h : w_X0_lastOfWeek p M x1 Q) : CI o l yX0_lastOfWeek cX0_lastOfWeek 2 rm_X0_lastOfWeek [.ref (o.2.1 5 p), .int x1] M Q := by
  refine g_start (by decide +kernel) (Nat.le_of_ble_eq_true rfl) ?_
  intro p' e s m args below meth c hx hb hr hlocks hml hown hts hw ls hl
  replace hl : lv_has ls 2 [(0, .ref (o.2.1 5 p)), (1, .int x1)] := hl
  unfold w_X0_lastOfWeek at h
  refine lv_aload_n hx hb dX0_lastOfWeek_0 rfl (lv_at hl 0 rfl) ?_
  refine g_getf hx hb hts in_X0 hown hw 5 p (ci_5 hp) (bi_5 hp hn) rfl rfl 2 (by decide) kX0_22 rfl dX0_lastOfWeek_1 ?_
  refine lv_iload_n hx hb dX0_lastOfWeek_4 rfl (lv_at hl 1 rfl) ?_
  refine lv_iconst (v := 1) hx hb dX0_lastOfWeek_5 (by decide) ?_
  refine lv_iadd hx hb dX0_lastOfWeek_6 ?_
  refine g_iald hx hb hw 6 p (ci_6 hp) (bi_6 hp hn) rfl h dX0_lastOfWeek_7 ?_
  clear h; intro v1 h
  refine lv_iconst (v := 1) hx hb dX0_lastOfWeek_8 (by decide) ?_
  refine lv_isub hx hb dX0_lastOfWeek_9 ?_
  exact g_iret hx hb hr hlocks hw h dX0_lastOfWeek_10
abbrev rm_X2_meets : Room := { frames := 0, cells := 0, slots := 0, locals := 0 }
set_option maxHeartbeats 4000000 in
set_option maxRecDepth 100000 in
theorem c_X2_meets {o : Om} {l : Launch} (hn : 115 ≤ o.2.2.2) {i : Nat} (hi : i < 10) {M : Mm} {x1 : Int32} {x2 : Int32} {x3 : Int32} {Q : Int32 → Mm → Prop} (h : w_X2_meets i M x1 x2 x3 Q) : CZ o l yX2_meets cX2_meets 4 rm_X2_meets [.ref (o.2.1 11 i), .int x1, .int x2, .int x3] M Q := by
  refine g_start (by decide +kernel) (Nat.le_of_ble_eq_true rfl) ?_
  intro p e s m args below meth c hx hb hr hlocks hml hown hts hw ls hl
  replace hl : lv_has ls 4 [(0, .ref (o.2.1 11 i)), (1, .int x1), (2, .int x2), (3, .int x3)] := hl
  unfold w_X2_meets at h
  refine lv_aload_n hx hb dX2_meets_0 rfl (lv_at hl 0 rfl) ?_
  refine g_getf hx hb hts in_X2 hown hw 11 i (ci_11 hi) (bi_11 hi hn) rfl rfl 5 (by decide) kX2_27 rfl dX2_meets_1 ?_
  refine lv_iload_n hx hb dX2_meets_4 rfl (lv_at hl 1 rfl) ?_
  refine g_iald hx hb hw 13 i (ci_13 hi) (bi_13 hi hn) rfl h dX2_meets_5 ?_
  clear h; intro v1 h
  refine lv_iload_n hx hb dX2_meets_6 rfl (lv_at hl 3 rfl) ?_
  refine g_icmp_gt (tgt := 24) hx hb h dX2_meets_7 (by decide) ?_ ?_
  · clear h; intro h
    refine lv_iconst (v := 0) hx hb dX2_meets_24 (by decide) ?_
    exact g_zret hx hb hr hlocks hw (Or.inl rfl) h dX2_meets_25
  · clear h; intro h
    refine lv_aload_n hx hb dX2_meets_10 rfl (lv_at hl 0 rfl) ?_
    refine g_getf hx hb hts in_X2 hown hw 11 i (ci_11 hi) (bi_11 hi hn) rfl rfl 6 (by decide) kX2_31 rfl dX2_meets_11 ?_
    refine lv_iload_n hx hb dX2_meets_14 rfl (lv_at hl 1 rfl) ?_
    refine g_iald hx hb hw 14 i (ci_14 hi) (bi_14 hi hn) rfl h dX2_meets_15 ?_
    clear h; intro v2 h
    refine lv_iload_n hx hb dX2_meets_16 rfl (lv_at hl 2 rfl) ?_
    refine g_icmp_lt (tgt := 24) hx hb h dX2_meets_17 (by decide) ?_ ?_
    · clear h; intro h
      refine lv_iconst (v := 0) hx hb dX2_meets_24 (by decide) ?_
      exact g_zret hx hb hr hlocks hw (Or.inl rfl) h dX2_meets_25
    · clear h; intro h
      refine lv_iconst (v := 1) hx hb dX2_meets_20 (by decide) ?_
      refine lv_goto (tgt := 25) hx hb dX2_meets_21 (by decide) ?_
      exact g_zret hx hb hr hlocks hw (Or.inr rfl) h dX2_meets_25
abbrev rm_X0_isBarBefore : Room := { frames := 1, cells := 0, slots := 0, locals := 21 }
set_option maxHeartbeats 4000000 in
set_option maxRecDepth 100000 in
theorem c_X0_isBarBefore {o : Om} {l : Launch} (hn : 115 ≤ o.2.2.2) {p : Nat} (hp : p < 2) {M : Mm} {x1 : Int32} {x2 : Int32} {x3 : Int32} {Q : Int32 → Mm → Prop} (h : w_X0_isBarBefore p M x1 x2 x3 Q) : CZ o l yX0_isBarBefore cX0_isBarBefore 6 rm_X0_isBarBefore [.ref (o.2.1 5 p), .int x1, .int x2, .int x3] M Q := by
  refine g_start (by decide +kernel) (Nat.le_of_ble_eq_true rfl) ?_
  intro p' e s m args below meth c hx hb hr hlocks hml hown hts hw ls hl
  replace hl : lv_has ls 6 [(0, .ref (o.2.1 5 p)), (1, .int x1), (2, .int x2), (3, .int x3)] := hl
  unfold w_X0_isBarBefore at h
  refine lv_aload_n hx hb dX0_isBarBefore_0 rfl (lv_at hl 0 rfl) ?_
  refine g_getf hx hb hts in_X0 hown hw 5 p (ci_5 hp) (bi_5 hp hn) rfl rfl 0 (by decide) kX0_12 rfl dX0_isBarBefore_1 ?_
  refine g_getf hx hb hts in_X2 hown hw 11 p (ci_11 (Nat.lt_of_lt_of_le hp (by decide))) (bi_11 (Nat.lt_of_lt_of_le hp (by decide)) hn) rfl rfl 5 (by decide) kX0_93 rfl dX0_isBarBefore_4 ?_
  refine lv_iload_n hx hb dX0_isBarBefore_7 rfl (lv_at hl 1 rfl) ?_
  refine g_iald hx hb hw 13 p (ci_13 (Nat.lt_of_lt_of_le hp (by decide))) (bi_13 (Nat.lt_of_lt_of_le hp (by decide)) hn) rfl h dX0_isBarBefore_8 ?_
  clear h; intro v1 h
  refine lv_aload_n hx hb dX0_isBarBefore_9 rfl (lv_at hl 0 rfl) ?_
  refine lv_iload_n hx hb dX0_isBarBefore_10 rfl (lv_at hl 3 rfl) ?_
  refine g_ci hw (g_runV (As := [.int x3]) (rest := [.int v1]) hx hb hml hown hts mX0_firstOfWeek vX0_firstOfWeek kX0_79 hw 5 p (ci_5 hp) (bi_5 hp hn) rfl rfl (c_X0_firstOfWeek hn hp h) rfl rfl ⟨Nat.le_of_ble_eq_true rfl, Nat.le_of_ble_eq_true rfl⟩ rfl hl.1 rfl (Nat.le_of_ble_eq_true rfl) dX0_isBarBefore_11 ⟨Nat.zero_le _, Nat.zero_le _⟩) ?_
  clear h hw; intro v3 M2 H locs hw h
  refine letJ_W (fun (x : Int32) => ∀ (H : Heap) (locs : List Loc) (ls : Array Slot), WO o (WA o) s s.heap H locs M2 → lv_has ls 6 [(0, .ref (o.2.1 5 p)), (1, .int x1), (2, .int x2), (3, .int x3)] → W p' l e rm_X0_isBarBefore s m args below meth c H locs 0 0 (MQ below (QZ o Q) args s 0 0 (WA o)) (F0 m 22 ls [.int x])) h ?_ ?_
  · clear h hw hl; clear ls; intro x h H locs ls hw hl
    obtain ⟨v4, rfl⟩ : ∃ z, z = x := ⟨_, rfl⟩
    replace hl : lv_has ls 6 [(0, .ref (o.2.1 5 p)), (1, .int x1), (2, .int x2), (3, .int x3)] := hl
    refine lv_istore (lv' := [(4, .int v4), (0, .ref (o.2.1 5 p)), (1, .int x1), (2, .int x2), (3, .int x3)]) hx hb dX0_isBarBefore_22 hl (by decide) rfl ?_
    clear hl; clear ls; intro ls hl
    refine lv_aload_n hx hb dX0_isBarBefore_24 rfl (lv_at hl 1 rfl) ?_
    refine g_getf hx hb hts in_X0 hown hw 5 p (ci_5 hp) (bi_5 hp hn) rfl rfl 0 (by decide) kX0_12 rfl dX0_isBarBefore_25 ?_
    refine g_getf hx hb hts in_X2 hown hw 11 p (ci_11 (Nat.lt_of_lt_of_le hp (by decide))) (bi_11 (Nat.lt_of_lt_of_le hp (by decide)) hn) rfl rfl 5 (by decide) kX0_93 rfl dX0_isBarBefore_28 ?_
    refine lv_iload_n hx hb dX0_isBarBefore_31 rfl (lv_at hl 3 rfl) ?_
    refine g_iald hx hb hw 13 p (ci_13 (Nat.lt_of_lt_of_le hp (by decide))) (bi_13 (Nat.lt_of_lt_of_le hp (by decide)) hn) rfl h dX0_isBarBefore_32 ?_
    clear h; intro v6 h
    refine lv_aload_n hx hb dX0_isBarBefore_33 rfl (lv_at hl 1 rfl) ?_
    refine lv_iload_n hx hb dX0_isBarBefore_34 rfl (lv_at hl 4 rfl) ?_
    refine g_ci hw (g_runV (As := [.int x3]) (rest := [.int v6]) hx hb hml hown hts mX0_firstOfWeek vX0_firstOfWeek kX0_79 hw 5 p (ci_5 hp) (bi_5 hp hn) rfl rfl (c_X0_firstOfWeek hn hp h) rfl rfl ⟨Nat.le_of_ble_eq_true rfl, Nat.le_of_ble_eq_true rfl⟩ rfl hl.1 rfl (Nat.le_of_ble_eq_true rfl) dX0_isBarBefore_35 ⟨Nat.zero_le _, Nat.zero_le _⟩) ?_
    clear h hw; intro v8 M7 H locs hw h
    refine letJ_W (fun (x : Int32) => ∀ (H : Heap) (locs : List Loc) (ls : Array Slot), WO o (WA o) s s.heap H locs M7 → lv_has ls 6 [(0, .ref (o.2.1 5 p)), (1, .int x1), (2, .int x2), (3, .int x3), (4, .int v4)] → W p' l e rm_X0_isBarBefore s m args below meth c H locs 0 0 (MQ below (QZ o Q) args s 0 0 (WA o)) (F0 m 46 ls [.int x])) h ?_ ?_
    · clear h hw hl; clear ls; intro x h H locs ls hw hl
      obtain ⟨v9, rfl⟩ : ∃ z, z = x := ⟨_, rfl⟩
      replace hl : lv_has ls 6 [(0, .ref (o.2.1 5 p)), (1, .int x1), (2, .int x2), (3, .int x3), (4, .int v4)] := hl
      refine lv_istore (lv' := [(5, .int v9), (0, .ref (o.2.1 5 p)), (1, .int x1), (2, .int x2), (3, .int x3), (4, .int v4)]) hx hb dX0_isBarBefore_46 hl (by decide) rfl ?_
      clear hl; clear ls; intro ls hl
      refine lv_iload hx hb dX0_isBarBefore_48 (lv_at hl 5 rfl) ?_
      refine lv_iload hx hb dX0_isBarBefore_50 (lv_at hl 0 rfl) ?_
      refine g_icmp_eq (tgt := 58) hx hb h dX0_isBarBefore_52 (by decide) ?_ ?_
      · clear h; intro h
        refine lv_iload hx hb dX0_isBarBefore_58 (lv_at hl 5 rfl) ?_
        refine g_if_eq (tgt := 96) hx hb h dX0_isBarBefore_60 (by decide) ?_ ?_
        · clear h; intro h
          refine lv_aload_n hx hb dX0_isBarBefore_96 rfl (lv_at hl 1 rfl) ?_
          refine g_getf hx hb hts in_X0 hown hw 5 p (ci_5 hp) (bi_5 hp hn) rfl rfl 0 (by decide) kX0_12 rfl dX0_isBarBefore_97 ?_
          refine g_getf hx hb hts in_X2 hown hw 11 p (ci_11 (Nat.lt_of_lt_of_le hp (by decide))) (bi_11 (Nat.lt_of_lt_of_le hp (by decide)) hn) rfl rfl 5 (by decide) kX0_93 rfl dX0_isBarBefore_100 ?_
          refine lv_iload_n hx hb dX0_isBarBefore_103 rfl (lv_at hl 2 rfl) ?_
          refine g_iald hx hb hw 13 p (ci_13 (Nat.lt_of_lt_of_le hp (by decide))) (bi_13 (Nat.lt_of_lt_of_le hp (by decide)) hn) rfl h dX0_isBarBefore_104 ?_
          clear h; intro v11 h
          refine lv_aload_n hx hb dX0_isBarBefore_105 rfl (lv_at hl 1 rfl) ?_
          refine g_getf hx hb hts in_X0 hown hw 5 p (ci_5 hp) (bi_5 hp hn) rfl rfl 0 (by decide) kX0_12 rfl dX0_isBarBefore_106 ?_
          refine g_getf hx hb hts in_X2 hown hw 11 p (ci_11 (Nat.lt_of_lt_of_le hp (by decide))) (bi_11 (Nat.lt_of_lt_of_le hp (by decide)) hn) rfl rfl 5 (by decide) kX0_93 rfl dX0_isBarBefore_109 ?_
          refine lv_iload_n hx hb dX0_isBarBefore_112 rfl (lv_at hl 3 rfl) ?_
          refine g_iald hx hb hw 13 p (ci_13 (Nat.lt_of_lt_of_le hp (by decide))) (bi_13 (Nat.lt_of_lt_of_le hp (by decide)) hn) rfl h dX0_isBarBefore_113 ?_
          clear h; intro v12 h
          refine g_icmp_eq (tgt := 144) hx hb h dX0_isBarBefore_114 (by decide) ?_ ?_
          · clear h; intro h
            refine lv_aload_n hx hb dX0_isBarBefore_144 rfl (lv_at hl 1 rfl) ?_
            refine g_getf hx hb hts in_X0 hown hw 5 p (ci_5 hp) (bi_5 hp hn) rfl rfl 0 (by decide) kX0_12 rfl dX0_isBarBefore_145 ?_
            refine g_getf hx hb hts in_X2 hown hw 11 p (ci_11 (Nat.lt_of_lt_of_le hp (by decide))) (bi_11 (Nat.lt_of_lt_of_le hp (by decide)) hn) rfl rfl 6 (by decide) kX0_96 rfl dX0_isBarBefore_148 ?_
            refine lv_iload_n hx hb dX0_isBarBefore_151 rfl (lv_at hl 2 rfl) ?_
            refine g_iald hx hb hw 14 p (ci_14 (Nat.lt_of_lt_of_le hp (by decide))) (bi_14 (Nat.lt_of_lt_of_le hp (by decide)) hn) rfl h dX0_isBarBefore_152 ?_
            clear h; intro v13 h
            refine lv_aload_n hx hb dX0_isBarBefore_153 rfl (lv_at hl 1 rfl) ?_
            refine g_getf hx hb hts in_X0 hown hw 5 p (ci_5 hp) (bi_5 hp hn) rfl rfl 0 (by decide) kX0_12 rfl dX0_isBarBefore_154 ?_
            refine g_getf hx hb hts in_X2 hown hw 11 p (ci_11 (Nat.lt_of_lt_of_le hp (by decide))) (bi_11 (Nat.lt_of_lt_of_le hp (by decide)) hn) rfl rfl 6 (by decide) kX0_96 rfl dX0_isBarBefore_157 ?_
            refine lv_iload_n hx hb dX0_isBarBefore_160 rfl (lv_at hl 3 rfl) ?_
            refine g_iald hx hb hw 14 p (ci_14 (Nat.lt_of_lt_of_le hp (by decide))) (bi_14 (Nat.lt_of_lt_of_le hp (by decide)) hn) rfl h dX0_isBarBefore_161 ?_
            clear h; intro v14 h
            refine g_icmp_eq (tgt := 192) hx hb h dX0_isBarBefore_162 (by decide) ?_ ?_
            · clear h; intro h
              refine lv_aload_n hx hb dX0_isBarBefore_192 rfl (lv_at hl 1 rfl) ?_
              refine g_getf hx hb hts in_X0 hown hw 5 p (ci_5 hp) (bi_5 hp hn) rfl rfl 0 (by decide) kX0_12 rfl dX0_isBarBefore_193 ?_
              refine g_getf hx hb hts in_X2 hown hw 11 p (ci_11 (Nat.lt_of_lt_of_le hp (by decide))) (bi_11 (Nat.lt_of_lt_of_le hp (by decide)) hn) rfl rfl 8 (by decide) kX0_99 rfl dX0_isBarBefore_196 ?_
              refine lv_iload_n hx hb dX0_isBarBefore_199 rfl (lv_at hl 2 rfl) ?_
              refine g_iald hx hb hw 16 p (ci_16 (Nat.lt_of_lt_of_le hp (by decide))) (bi_16 (Nat.lt_of_lt_of_le hp (by decide)) hn) rfl h dX0_isBarBefore_200 ?_
              clear h; intro v15 h
              refine lv_aload_n hx hb dX0_isBarBefore_201 rfl (lv_at hl 1 rfl) ?_
              refine g_getf hx hb hts in_X0 hown hw 5 p (ci_5 hp) (bi_5 hp hn) rfl rfl 0 (by decide) kX0_12 rfl dX0_isBarBefore_202 ?_
              refine g_getf hx hb hts in_X2 hown hw 11 p (ci_11 (Nat.lt_of_lt_of_le hp (by decide))) (bi_11 (Nat.lt_of_lt_of_le hp (by decide)) hn) rfl rfl 8 (by decide) kX0_99 rfl dX0_isBarBefore_205 ?_
              refine lv_iload_n hx hb dX0_isBarBefore_208 rfl (lv_at hl 3 rfl) ?_
              refine g_iald hx hb hw 16 p (ci_16 (Nat.lt_of_lt_of_le hp (by decide))) (bi_16 (Nat.lt_of_lt_of_le hp (by decide)) hn) rfl h dX0_isBarBefore_209 ?_
              clear h; intro v16 h
              refine g_icmp_le (tgt := 217) hx hb h dX0_isBarBefore_210 (by decide) ?_ ?_
              · clear h; intro h
                refine lv_iconst (v := 0) hx hb dX0_isBarBefore_217 (by decide) ?_
                exact g_zret hx hb hr hlocks hw (Or.inl rfl) h dX0_isBarBefore_218
              · clear h; intro h
                refine lv_iconst (v := 1) hx hb dX0_isBarBefore_213 (by decide) ?_
                refine lv_goto (tgt := 218) hx hb dX0_isBarBefore_214 (by decide) ?_
                exact g_zret hx hb hr hlocks hw (Or.inr rfl) h dX0_isBarBefore_218
            · clear h; intro h
              refine lv_aload_n hx hb dX0_isBarBefore_165 rfl (lv_at hl 1 rfl) ?_
              refine g_getf hx hb hts in_X0 hown hw 5 p (ci_5 hp) (bi_5 hp hn) rfl rfl 0 (by decide) kX0_12 rfl dX0_isBarBefore_166 ?_
              refine g_getf hx hb hts in_X2 hown hw 11 p (ci_11 (Nat.lt_of_lt_of_le hp (by decide))) (bi_11 (Nat.lt_of_lt_of_le hp (by decide)) hn) rfl rfl 6 (by decide) kX0_96 rfl dX0_isBarBefore_169 ?_
              refine lv_iload_n hx hb dX0_isBarBefore_172 rfl (lv_at hl 2 rfl) ?_
              refine g_iald hx hb hw 14 p (ci_14 (Nat.lt_of_lt_of_le hp (by decide))) (bi_14 (Nat.lt_of_lt_of_le hp (by decide)) hn) rfl h dX0_isBarBefore_173 ?_
              clear h; intro v17 h
              refine lv_aload_n hx hb dX0_isBarBefore_174 rfl (lv_at hl 1 rfl) ?_
              refine g_getf hx hb hts in_X0 hown hw 5 p (ci_5 hp) (bi_5 hp hn) rfl rfl 0 (by decide) kX0_12 rfl dX0_isBarBefore_175 ?_
              refine g_getf hx hb hts in_X2 hown hw 11 p (ci_11 (Nat.lt_of_lt_of_le hp (by decide))) (bi_11 (Nat.lt_of_lt_of_le hp (by decide)) hn) rfl rfl 6 (by decide) kX0_96 rfl dX0_isBarBefore_178 ?_
              refine lv_iload_n hx hb dX0_isBarBefore_181 rfl (lv_at hl 3 rfl) ?_
              refine g_iald hx hb hw 14 p (ci_14 (Nat.lt_of_lt_of_le hp (by decide))) (bi_14 (Nat.lt_of_lt_of_le hp (by decide)) hn) rfl h dX0_isBarBefore_182 ?_
              clear h; intro v18 h
              refine g_icmp_le (tgt := 190) hx hb h dX0_isBarBefore_183 (by decide) ?_ ?_
              · clear h; intro h
                refine lv_iconst (v := 0) hx hb dX0_isBarBefore_190 (by decide) ?_
                exact g_zret hx hb hr hlocks hw (Or.inl rfl) h dX0_isBarBefore_191
              · clear h; intro h
                refine lv_iconst (v := 1) hx hb dX0_isBarBefore_186 (by decide) ?_
                refine lv_goto (tgt := 191) hx hb dX0_isBarBefore_187 (by decide) ?_
                exact g_zret hx hb hr hlocks hw (Or.inr rfl) h dX0_isBarBefore_191
          · clear h; intro h
            refine lv_aload_n hx hb dX0_isBarBefore_117 rfl (lv_at hl 1 rfl) ?_
            refine g_getf hx hb hts in_X0 hown hw 5 p (ci_5 hp) (bi_5 hp hn) rfl rfl 0 (by decide) kX0_12 rfl dX0_isBarBefore_118 ?_
            refine g_getf hx hb hts in_X2 hown hw 11 p (ci_11 (Nat.lt_of_lt_of_le hp (by decide))) (bi_11 (Nat.lt_of_lt_of_le hp (by decide)) hn) rfl rfl 5 (by decide) kX0_93 rfl dX0_isBarBefore_121 ?_
            refine lv_iload_n hx hb dX0_isBarBefore_124 rfl (lv_at hl 2 rfl) ?_
            refine g_iald hx hb hw 13 p (ci_13 (Nat.lt_of_lt_of_le hp (by decide))) (bi_13 (Nat.lt_of_lt_of_le hp (by decide)) hn) rfl h dX0_isBarBefore_125 ?_
            clear h; intro v19 h
            refine lv_aload_n hx hb dX0_isBarBefore_126 rfl (lv_at hl 1 rfl) ?_
            refine g_getf hx hb hts in_X0 hown hw 5 p (ci_5 hp) (bi_5 hp hn) rfl rfl 0 (by decide) kX0_12 rfl dX0_isBarBefore_127 ?_
            refine g_getf hx hb hts in_X2 hown hw 11 p (ci_11 (Nat.lt_of_lt_of_le hp (by decide))) (bi_11 (Nat.lt_of_lt_of_le hp (by decide)) hn) rfl rfl 5 (by decide) kX0_93 rfl dX0_isBarBefore_130 ?_
            refine lv_iload_n hx hb dX0_isBarBefore_133 rfl (lv_at hl 3 rfl) ?_
            refine g_iald hx hb hw 13 p (ci_13 (Nat.lt_of_lt_of_le hp (by decide))) (bi_13 (Nat.lt_of_lt_of_le hp (by decide)) hn) rfl h dX0_isBarBefore_134 ?_
            clear h; intro v20 h
            refine g_icmp_ge (tgt := 142) hx hb h dX0_isBarBefore_135 (by decide) ?_ ?_
            · clear h; intro h
              refine lv_iconst (v := 0) hx hb dX0_isBarBefore_142 (by decide) ?_
              exact g_zret hx hb hr hlocks hw (Or.inl rfl) h dX0_isBarBefore_143
            · clear h; intro h
              refine lv_iconst (v := 1) hx hb dX0_isBarBefore_138 (by decide) ?_
              refine lv_goto (tgt := 143) hx hb dX0_isBarBefore_139 (by decide) ?_
              exact g_zret hx hb hr hlocks hw (Or.inr rfl) h dX0_isBarBefore_143
        · clear h; intro h
          refine lv_iload_n hx hb dX0_isBarBefore_63 rfl (lv_at hl 4 rfl) ?_
          refine g_if_le (tgt := 94) hx hb h dX0_isBarBefore_64 (by decide) ?_ ?_
          · clear h; intro h
            refine lv_iconst (v := 0) hx hb dX0_isBarBefore_94 (by decide) ?_
            exact g_zret hx hb hr hlocks hw (Or.inl rfl) h dX0_isBarBefore_95
          · clear h; intro h
            refine lv_aload_n hx hb dX0_isBarBefore_67 rfl (lv_at hl 1 rfl) ?_
            refine g_getf hx hb hts in_X0 hown hw 5 p (ci_5 hp) (bi_5 hp hn) rfl rfl 3 (by decide) kX0_28 rfl dX0_isBarBefore_68 ?_
            refine lv_iload_n hx hb dX0_isBarBefore_71 rfl (lv_at hl 2 rfl) ?_
            refine g_aldR hx hb hw hp hn h dX0_isBarBefore_72 ?_
            clear h; intro k21 hk21 h
            refine lv_iload_n hx hb dX0_isBarBefore_73 rfl (lv_at hl 4 rfl) ?_
            refine lv_iconst (v := 1) hx hb dX0_isBarBefore_74 (by decide) ?_
            refine lv_isub hx hb dX0_isBarBefore_75 ?_
            refine g_iald hx hb hw 12 (24 * p + k21) (ci_12 (r_48 hp hk21)) (bi_12 (r_48 hp hk21) hn) rfl h dX0_isBarBefore_76 ?_
            clear h; intro v22 h
            refine lv_aload_n hx hb dX0_isBarBefore_77 rfl (lv_at hl 1 rfl) ?_
            refine g_getf hx hb hts in_X0 hown hw 5 p (ci_5 hp) (bi_5 hp hn) rfl rfl 3 (by decide) kX0_28 rfl dX0_isBarBefore_78 ?_
            refine lv_iload_n hx hb dX0_isBarBefore_81 rfl (lv_at hl 3 rfl) ?_
            refine g_aldR hx hb hw hp hn h dX0_isBarBefore_82 ?_
            clear h; intro k23 hk23 h
            refine lv_iload_n hx hb dX0_isBarBefore_83 rfl (lv_at hl 4 rfl) ?_
            refine lv_iconst (v := 1) hx hb dX0_isBarBefore_84 (by decide) ?_
            refine lv_isub hx hb dX0_isBarBefore_85 ?_
            refine g_iald hx hb hw 12 (24 * p + k23) (ci_12 (r_48 hp hk23)) (bi_12 (r_48 hp hk23) hn) rfl h dX0_isBarBefore_86 ?_
            clear h; intro v24 h
            refine g_icmp_ge (tgt := 94) hx hb h dX0_isBarBefore_87 (by decide) ?_ ?_
            · clear h; intro h
              refine lv_iconst (v := 0) hx hb dX0_isBarBefore_94 (by decide) ?_
              exact g_zret hx hb hr hlocks hw (Or.inl rfl) h dX0_isBarBefore_95
            · clear h; intro h
              refine lv_iconst (v := 1) hx hb dX0_isBarBefore_90 (by decide) ?_
              refine lv_goto (tgt := 95) hx hb dX0_isBarBefore_91 (by decide) ?_
              exact g_zret hx hb hr hlocks hw (Or.inr rfl) h dX0_isBarBefore_95
      · clear h; intro h
        refine lv_iload hx hb dX0_isBarBefore_55 (lv_at hl 5 rfl) ?_
        exact g_zret hx hb hr hlocks hw h.1 h.2 dX0_isBarBefore_57
    clear h; intro J10 hJ10 h
    refine g_icmp_ge (tgt := 45) hx hb h dX0_isBarBefore_38 (by decide) ?_ ?_
    · clear h; intro h
      refine lv_iconst (v := 0) hx hb dX0_isBarBefore_45 (by decide) ?_
      exact hJ10 (0 : Int32) h _ _ _ hw (lv_sub hl [1, 2, 3, 4, 0] rfl)
    · clear h; intro h
      refine lv_iconst (v := 1) hx hb dX0_isBarBefore_41 (by decide) ?_
      refine lv_goto (tgt := 46) hx hb dX0_isBarBefore_42 (by decide) ?_
      exact hJ10 (1 : Int32) h _ _ _ hw (lv_sub hl [1, 2, 3, 4, 0] rfl)
  clear h; intro J5 hJ5 h
  refine g_icmp_ge (tgt := 21) hx hb h dX0_isBarBefore_14 (by decide) ?_ ?_
  · clear h; intro h
    refine lv_iconst (v := 0) hx hb dX0_isBarBefore_21 (by decide) ?_
    exact hJ5 (0 : Int32) h _ _ _ hw (lv_sub hl [0, 1, 2, 3] rfl)
  · clear h; intro h
    refine lv_iconst (v := 1) hx hb dX0_isBarBefore_17 (by decide) ?_
    refine lv_goto (tgt := 22) hx hb dX0_isBarBefore_18 (by decide) ?_
    exact hJ5 (1 : Int32) h _ _ _ hw (lv_sub hl [0, 1, 2, 3] rfl)
abbrev rm_X0_orderBars : Room := { frames := 2, cells := 0, slots := 0, locals := 46 }
set_option maxHeartbeats 4000000 in
set_option maxRecDepth 100000 in
theorem c_X0_orderBars {o : Om} {l : Launch} (hn : 115 ≤ o.2.2.2) {p : Nat} (hp : p < 2) {M : Mm} {x1 : Int32} {Q : Mm → Prop} (h : w_X0_orderBars p M x1 Q) : CV o l yX0_orderBars cX0_orderBars 4 rm_X0_orderBars [.ref (o.2.1 5 p), .int x1] M Q := by
  refine g_start (by decide +kernel) (Nat.le_of_ble_eq_true rfl) ?_
  intro p' e s m args below meth c hx hb hr hlocks hml hown hts hw ls hl
  replace hl : lv_has ls 4 [(0, .ref (o.2.1 5 p)), (1, .int x1)] := hl
  unfold w_X0_orderBars at h
  refine lv_aload_n hx hb dX0_orderBars_0 rfl (lv_at hl 0 rfl) ?_
  refine lv_iconst (v := 0) hx hb dX0_orderBars_1 (by decide) ?_
  refine g_putf hx hb hts in_X0 tyX0 tyX0_ok nmX0 hown hw 5 p (ci_5 hp) (bi_5 hp hn) rfl 7 (by decide) rfl rfl kX0_40 (by decide +kernel) (by decide +kernel) (by simp) h dX0_orderBars_2 ?_
  clear h hw; intro M1 H locs hw h
  refine lv_iconst (v := 0) hx hb dX0_orderBars_5 (by decide) ?_
  refine lv_istore_n (lv' := [(2, .int (0 : Int32)), (0, .ref (o.2.1 5 p)), (1, .int x1)]) hx hb dX0_orderBars_6 rfl hl (by decide) rfl ?_
  clear hl; clear ls; intro ls hl
  obtain ⟨n, h⟩ := h
  refine letK_W (body := fun K => w_X0_orderBars_L7 p x1 K) (fun (x : Int32 × Mm) => ∀ (H : Heap) (locs : List Loc) (ls : Array Slot), WO o (WA o) s s.heap H locs x.2 → lv_has ls 4 [] → W p' l e rm_X0_orderBars s m args below meth c H locs 0 0 (MQ below (QV o Q) args s 0 0 (WA o)) (F0 m 119 ls [])) h ?_ ?_
  · clear h hw hl; clear ls; intro x h H locs ls hw hl
    obtain ⟨v32, M33⟩ := x
    replace hl : lv_has ls 4 [] := hl
    dsimp only at h hw
    exact g_vret hx hb hr hlocks hw h dX0_orderBars_119
  clear h; intro K4 hK4 h
  refine loop_W (body := w_X0_orderBars_L7 p x1 K4) (fun (x : Int32 × Mm) => ∀ (H : Heap) (locs : List Loc) (ls : Array Slot), WO o (WA o) s s.heap H locs x.2 → lv_has ls 4 [(0, .ref (o.2.1 5 p)), (1, .int x1), (2, .int x.1)] → W p' l e rm_X0_orderBars s m args below meth c H locs 0 0 (MQ below (QV o Q) args s 0 0 (WA o)) (F0 m 7 ls [])) ?_ n _ h _ _ _ hw (lv_sub hl [1, 2, 0] rfl)
  clear h hw hl; clear ls; intro R5 x hR5 h H locs ls hw hl
  obtain ⟨v2, M3⟩ := x
  replace hl : lv_has ls 4 [(0, .ref (o.2.1 5 p)), (1, .int x1), (2, .int v2)] := hl
  dsimp only at hw
  unfold w_X0_orderBars_L7 at h
  dsimp only at h
  refine lv_iload_n hx hb dX0_orderBars_7 rfl (lv_at hl 2 rfl) ?_
  refine lv_aload_n hx hb dX0_orderBars_8 rfl (lv_at hl 0 rfl) ?_
  refine g_getf hx hb hts in_X0 hown hw 5 p (ci_5 hp) (bi_5 hp hn) rfl rfl 0 (by decide) kX0_12 rfl dX0_orderBars_9 ?_
  refine g_getf hx hb hts in_X2 hown hw 11 p (ci_11 (Nat.lt_of_lt_of_le hp (by decide))) (bi_11 (Nat.lt_of_lt_of_le hp (by decide)) hn) rfl rfl 4 (by decide) kX0_72 rfl dX0_orderBars_12 ?_
  refine g_icmp_ge (tgt := 119) hx hb h dX0_orderBars_15 (by decide) ?_ ?_
  · clear h; intro h
    exact hK4 (v2, M3) h _ _ _ hw (lv_sub hl [] rfl)
  · clear h; intro h
    refine lv_aload_n hx hb dX0_orderBars_18 rfl (lv_at hl 0 rfl) ?_
    refine g_getf hx hb hts in_X0 hown hw 5 p (ci_5 hp) (bi_5 hp hn) rfl rfl 0 (by decide) kX0_12 rfl dX0_orderBars_19 ?_
    refine lv_iload_n hx hb dX0_orderBars_22 rfl (lv_at hl 2 rfl) ?_
    refine g_cz hw (g_runV (As := [.int v2]) (rest := []) hx hb hml hown hts mX2_isLong vX2_isLong kX0_75 hw 11 p (ci_11 (Nat.lt_of_lt_of_le hp (by decide))) (bi_11 (Nat.lt_of_lt_of_le hp (by decide)) hn) rfl rfl (c_X2_isLong hn (Nat.lt_of_lt_of_le hp (by decide)) h) rfl rfl ⟨Nat.le_of_ble_eq_true rfl, Nat.le_of_ble_eq_true rfl⟩ rfl hl.1 rfl (Nat.le_of_ble_eq_true rfl) dX0_orderBars_23 ⟨Nat.zero_le _, Nat.zero_le _⟩) ?_
    clear h hw; intro v7 M6 H locs hw hz_v7 h
    refine g_if_eq (tgt := 113) hx hb h dX0_orderBars_26 (by decide) ?_ ?_
    · clear h; intro h
      refine g_iinc (k := 2) (v := (v2 + (1 : Int32))) (lv' := fun v8 => [(2, .int v8), (0, .ref (o.2.1 5 p)), (1, .int x1)]) hx hb dX0_orderBars_113 hl rfl rfl (by decide) (fun _ => rfl) h ?_
      clear h hl; clear ls; intro v8 ls h hl
      refine lv_goto (tgt := 7) hx hb dX0_orderBars_116 (by decide) ?_
      exact hR5 (v8, M6) h _ _ _ hw (lv_sub hl [1, 2, 0] rfl)
    · clear h; intro h
      refine lv_aload_n hx hb dX0_orderBars_29 rfl (lv_at hl 0 rfl) ?_
      refine g_getf hx hb hts in_X0 hown hw 5 p (ci_5 hp) (bi_5 hp hn) rfl rfl 0 (by decide) kX0_12 rfl dX0_orderBars_30 ?_
      refine lv_iload_n hx hb dX0_orderBars_33 rfl (lv_at hl 2 rfl) ?_
      refine lv_aload_n hx hb dX0_orderBars_34 rfl (lv_at hl 0 rfl) ?_
      refine lv_iload_n hx hb dX0_orderBars_35 rfl (lv_at hl 1 rfl) ?_
      refine g_ci hw (g_runV (As := [.int x1]) (rest := [.int v2, .ref (o.2.1 11 p)]) hx hb hml hown hts mX0_firstOfWeek vX0_firstOfWeek kX0_79 hw 5 p (ci_5 hp) (bi_5 hp hn) rfl rfl (c_X0_firstOfWeek hn hp h) rfl rfl ⟨Nat.le_of_ble_eq_true rfl, Nat.le_of_ble_eq_true rfl⟩ rfl hl.1 rfl (Nat.le_of_ble_eq_true rfl) dX0_orderBars_36 ⟨Nat.zero_le _, Nat.zero_le _⟩) ?_
      clear h hw; intro v10 M9 H locs hw h
      refine lv_aload_n hx hb dX0_orderBars_39 rfl (lv_at hl 0 rfl) ?_
      refine lv_iload_n hx hb dX0_orderBars_40 rfl (lv_at hl 1 rfl) ?_
      refine g_ci hw (g_runV (As := [.int x1]) (rest := [.int v10, .int v2, .ref (o.2.1 11 p)]) hx hb hml hown hts mX0_lastOfWeek vX0_lastOfWeek kX0_83 hw 5 p (ci_5 hp) (bi_5 hp hn) rfl rfl (c_X0_lastOfWeek hn hp h) rfl rfl ⟨Nat.le_of_ble_eq_true rfl, Nat.le_of_ble_eq_true rfl⟩ rfl hl.1 rfl (Nat.le_of_ble_eq_true rfl) dX0_orderBars_41 ⟨Nat.zero_le _, Nat.zero_le _⟩) ?_
      clear h hw; intro v12 M11 H locs hw h
      refine g_cz hw (g_runV (As := [.int v2, .int v10, .int v12]) (rest := []) hx hb hml hown hts mX2_meets vX2_meets kX0_86 hw 11 p (ci_11 (Nat.lt_of_lt_of_le hp (by decide))) (bi_11 (Nat.lt_of_lt_of_le hp (by decide)) hn) rfl rfl (c_X2_meets hn (Nat.lt_of_lt_of_le hp (by decide)) h) rfl rfl ⟨Nat.le_of_ble_eq_true rfl, Nat.le_of_ble_eq_true rfl⟩ rfl hl.1 rfl (Nat.le_of_ble_eq_true rfl) dX0_orderBars_44 ⟨Nat.zero_le _, Nat.zero_le _⟩) ?_
      clear h hw; intro v14 M13 H locs hw hz_v14 h
      refine g_if_eq (tgt := 113) hx hb h dX0_orderBars_47 (by decide) ?_ ?_
      · clear h; intro h
        refine g_iinc (k := 2) (v := (v2 + (1 : Int32))) (lv' := fun v15 => [(2, .int v15), (0, .ref (o.2.1 5 p)), (1, .int x1)]) hx hb dX0_orderBars_113 hl rfl rfl (by decide) (fun _ => rfl) h ?_
        clear h hl; clear ls; intro v15 ls h hl
        refine lv_goto (tgt := 7) hx hb dX0_orderBars_116 (by decide) ?_
        exact hR5 (v15, M13) h _ _ _ hw (lv_sub hl [1, 2, 0] rfl)
      · clear h; intro h
        refine lv_aload_n hx hb dX0_orderBars_50 rfl (lv_at hl 0 rfl) ?_
        refine g_getf hx hb hts in_X0 hown hw 5 p (ci_5 hp) (bi_5 hp hn) rfl rfl 7 (by decide) kX0_40 rfl dX0_orderBars_51 ?_
        refine g_topi h ?_
        clear h; intro v16 h
        refine lv_istore_n (lv' := [(3, .int v16), (0, .ref (o.2.1 5 p)), (1, .int x1), (2, .int v2)]) hx hb dX0_orderBars_54 rfl hl (by decide) rfl ?_
        clear hl; clear ls; intro ls hl
        obtain ⟨n, h⟩ := h
        refine letK_W (body := fun K => w_X0_orderBars_L55 p x1 v2 K) (fun (x : Int32 × Mm) => ∀ (H : Heap) (locs : List Loc) (ls : Array Slot), WO o (WA o) s s.heap H locs x.2 → lv_has ls 4 [(0, .ref (o.2.1 5 p)), (1, .int x1), (2, .int v2), (3, .int x.1)] → W p' l e rm_X0_orderBars s m args below meth c H locs 0 0 (MQ below (QV o Q) args s 0 0 (WA o)) (F0 m 96 ls [])) h ?_ ?_
        · clear h hw hl; clear ls; intro x h H locs ls hw hl
          obtain ⟨v27, M28⟩ := x
          replace hl : lv_has ls 4 [(0, .ref (o.2.1 5 p)), (1, .int x1), (2, .int v2), (3, .int v27)] := hl
          dsimp only at h hw
          refine lv_aload_n hx hb dX0_orderBars_96 rfl (lv_at hl 0 rfl) ?_
          refine g_getf hx hb hts in_X0 hown hw 5 p (ci_5 hp) (bi_5 hp hn) rfl rfl 6 (by decide) kX0_37 rfl dX0_orderBars_97 ?_
          refine lv_iload_n hx hb dX0_orderBars_100 rfl (lv_at hl 3 rfl) ?_
          refine lv_iload_n hx hb dX0_orderBars_101 rfl (lv_at hl 2 rfl) ?_
          refine g_iast hx hb hw 10 p (ci_10 hp) (bi_10 hp hn) (fun _ => rfl) h dX0_orderBars_102 ?_
          clear h hw; intro M29 H locs hw h
          refine lv_aload_n hx hb dX0_orderBars_103 rfl (lv_at hl 0 rfl) ?_
          refine lv_dup hx hb dX0_orderBars_104 rfl ?_
          refine g_getf hx hb hts in_X0 hown hw 5 p (ci_5 hp) (bi_5 hp hn) rfl rfl 7 (by decide) kX0_40 rfl dX0_orderBars_105 ?_
          refine lv_iconst (v := 1) hx hb dX0_orderBars_108 (by decide) ?_
          refine lv_iadd hx hb dX0_orderBars_109 ?_
          refine g_putf hx hb hts in_X0 tyX0 tyX0_ok nmX0 hown hw 5 p (ci_5 hp) (bi_5 hp hn) rfl 7 (by decide) rfl rfl kX0_40 (by decide +kernel) (by decide +kernel) (by simp) h dX0_orderBars_110 ?_
          clear h hw; intro M30 H locs hw h
          refine g_iinc (k := 2) (v := (v2 + (1 : Int32))) (lv' := fun v31 => [(2, .int v31), (0, .ref (o.2.1 5 p)), (1, .int x1), (3, .int v27)]) hx hb dX0_orderBars_113 hl rfl rfl (by decide) (fun _ => rfl) h ?_
          clear h hl; clear ls; intro v31 ls h hl
          refine lv_goto (tgt := 7) hx hb dX0_orderBars_116 (by decide) ?_
          exact hR5 (v31, M30) h _ _ _ hw (lv_sub hl [1, 2, 0] rfl)
        clear h; intro K19 hK19 h
        refine loop_W (body := w_X0_orderBars_L55 p x1 v2 K19) (fun (x : Int32 × Mm) => ∀ (H : Heap) (locs : List Loc) (ls : Array Slot), WO o (WA o) s s.heap H locs x.2 → lv_has ls 4 [(0, .ref (o.2.1 5 p)), (1, .int x1), (2, .int v2), (3, .int x.1)] → W p' l e rm_X0_orderBars s m args below meth c H locs 0 0 (MQ below (QV o Q) args s 0 0 (WA o)) (F0 m 55 ls [])) ?_ n _ h _ _ _ hw (lv_sub hl [1, 2, 3, 0] rfl)
        clear h hw hl; clear ls; intro R20 x hR20 h H locs ls hw hl
        obtain ⟨v17, M18⟩ := x
        replace hl : lv_has ls 4 [(0, .ref (o.2.1 5 p)), (1, .int x1), (2, .int v2), (3, .int v17)] := hl
        dsimp only at hw
        unfold w_X0_orderBars_L55 at h
        dsimp only at h
        refine lv_iload_n hx hb dX0_orderBars_55 rfl (lv_at hl 3 rfl) ?_
        refine g_if_le (tgt := 96) hx hb h dX0_orderBars_56 (by decide) ?_ ?_
        · clear h; intro h
          exact hK19 (v17, M18) h _ _ _ hw (lv_sub hl [0, 1, 2, 3] rfl)
        · clear h; intro h
          refine lv_aload_n hx hb dX0_orderBars_59 rfl (lv_at hl 0 rfl) ?_
          refine lv_iload_n hx hb dX0_orderBars_60 rfl (lv_at hl 2 rfl) ?_
          refine lv_aload_n hx hb dX0_orderBars_61 rfl (lv_at hl 0 rfl) ?_
          refine g_getf hx hb hts in_X0 hown hw 5 p (ci_5 hp) (bi_5 hp hn) rfl rfl 6 (by decide) kX0_37 rfl dX0_orderBars_62 ?_
          refine lv_iload_n hx hb dX0_orderBars_65 rfl (lv_at hl 3 rfl) ?_
          refine lv_iconst (v := 1) hx hb dX0_orderBars_66 (by decide) ?_
          refine lv_isub hx hb dX0_orderBars_67 ?_
          refine g_iald hx hb hw 10 p (ci_10 hp) (bi_10 hp hn) rfl h dX0_orderBars_68 ?_
          clear h; intro v21 h
          refine lv_iload_n hx hb dX0_orderBars_69 rfl (lv_at hl 1 rfl) ?_
          refine g_cz hw (g_runV (As := [.int v2, .int v21, .int x1]) (rest := []) hx hb hml hown hts mX0_isBarBefore vX0_isBarBefore kX0_90 hw 5 p (ci_5 hp) (bi_5 hp hn) rfl rfl (c_X0_isBarBefore hn hp h) rfl rfl ⟨Nat.le_of_ble_eq_true rfl, Nat.le_of_ble_eq_true rfl⟩ rfl hl.1 rfl (Nat.le_of_ble_eq_true rfl) dX0_orderBars_70 ⟨Nat.zero_le _, Nat.zero_le _⟩) ?_
          clear h hw; intro v23 M22 H locs hw hz_v23 h
          refine g_if_eq (tgt := 96) hx hb h dX0_orderBars_73 (by decide) ?_ ?_
          · clear h; intro h
            exact hK19 (v17, M22) h _ _ _ hw (lv_sub hl [0, 1, 2, 3] rfl)
          · clear h; intro h
            refine lv_aload_n hx hb dX0_orderBars_76 rfl (lv_at hl 0 rfl) ?_
            refine g_getf hx hb hts in_X0 hown hw 5 p (ci_5 hp) (bi_5 hp hn) rfl rfl 6 (by decide) kX0_37 rfl dX0_orderBars_77 ?_
            refine lv_iload_n hx hb dX0_orderBars_80 rfl (lv_at hl 3 rfl) ?_
            refine lv_aload_n hx hb dX0_orderBars_81 rfl (lv_at hl 0 rfl) ?_
            refine g_getf hx hb hts in_X0 hown hw 5 p (ci_5 hp) (bi_5 hp hn) rfl rfl 6 (by decide) kX0_37 rfl dX0_orderBars_82 ?_
            refine lv_iload_n hx hb dX0_orderBars_85 rfl (lv_at hl 3 rfl) ?_
            refine lv_iconst (v := 1) hx hb dX0_orderBars_86 (by decide) ?_
            refine lv_isub hx hb dX0_orderBars_87 ?_
            refine g_iald hx hb hw 10 p (ci_10 hp) (bi_10 hp hn) rfl h dX0_orderBars_88 ?_
            clear h; intro v24 h
            refine g_iast hx hb hw 10 p (ci_10 hp) (bi_10 hp hn) (fun _ => rfl) h dX0_orderBars_89 ?_
            clear h hw; intro M25 H locs hw h
            refine g_iinc (k := 3) (v := (v17 + (-1 : Int32))) (lv' := fun v26 => [(3, .int v26), (0, .ref (o.2.1 5 p)), (1, .int x1), (2, .int v2)]) hx hb dX0_orderBars_90 hl rfl rfl (by decide) (fun _ => rfl) h ?_
            clear h hl; clear ls; intro v26 ls h hl
            refine lv_goto (tgt := 55) hx hb dX0_orderBars_93 (by decide) ?_
            exact hR20 (v26, M25) h _ _ _ hw (lv_sub hl [1, 2, 3, 0] rfl)
abbrev rm_X0_smallestFree : Room := { frames := 0, cells := 0, slots := 0, locals := 0 }
set_option maxHeartbeats 4000000 in
set_option maxRecDepth 100000 in
theorem c_X0_smallestFree {o : Om} {l : Launch} (hn : 115 ≤ o.2.2.2) {M : Mm} {x0 : Int32} {Q : Int32 → Mm → Prop} (h : w_X0_smallestFree M x0 Q) : CI o l yX0_smallestFree cX0_smallestFree 2 rm_X0_smallestFree [.int x0] M Q := by
  refine g_start (by decide +kernel) (Nat.le_of_ble_eq_true rfl) ?_
  intro p e s m args below meth c hx hb hr hlocks hml hown hts hw ls hl
  replace hl : lv_has ls 2 [(0, .int x0)] := hl
  unfold w_X0_smallestFree at h
  refine lv_iconst (v := 0) hx hb dX0_smallestFree_0 (by decide) ?_
  refine lv_istore_n (lv' := [(1, .int (0 : Int32)), (0, .int x0)]) hx hb dX0_smallestFree_1 rfl hl (by decide) rfl ?_
  clear hl; clear ls; intro ls hl
  obtain ⟨n, h⟩ := h
  refine letK_W (body := fun K => w_X0_smallestFree_L2 x0 K) (fun (x : Int32 × Mm) => ∀ (H : Heap) (locs : List Loc) (ls : Array Slot), WO o (WA o) s s.heap H locs x.2 → lv_has ls 2 [(1, .int x.1)] → W p l e rm_X0_smallestFree s m args below meth c H locs 0 0 (MQ below (QI o Q) args s 0 0 (WA o)) (F0 m 22 ls [])) h ?_ ?_
  · clear h hw hl; clear ls; intro x h H locs ls hw hl
    obtain ⟨v6, M7⟩ := x
    replace hl : lv_has ls 2 [(1, .int v6)] := hl
    dsimp only at h hw
    refine lv_iload_n hx hb dX0_smallestFree_22 rfl (lv_at hl 0 rfl) ?_
    exact g_iret hx hb hr hlocks hw h dX0_smallestFree_23
  clear h; intro K3 hK3 h
  refine loop_W (body := w_X0_smallestFree_L2 x0 K3) (fun (x : Int32 × Mm) => ∀ (H : Heap) (locs : List Loc) (ls : Array Slot), WO o (WA o) s s.heap H locs x.2 → lv_has ls 2 [(0, .int x0), (1, .int x.1)] → W p l e rm_X0_smallestFree s m args below meth c H locs 0 0 (MQ below (QI o Q) args s 0 0 (WA o)) (F0 m 2 ls [])) ?_ n _ h _ _ _ hw (lv_sub hl [1, 0] rfl)
  clear h hw hl; clear ls; intro R4 x hR4 h H locs ls hw hl
  obtain ⟨v1, M2⟩ := x
  replace hl : lv_has ls 2 [(0, .int x0), (1, .int v1)] := hl
  dsimp only at hw
  unfold w_X0_smallestFree_L2 at h
  dsimp only at h
  refine lv_iload_n hx hb dX0_smallestFree_2 rfl (lv_at hl 1 rfl) ?_
  refine lv_bipush (v := 24) hx hb dX0_smallestFree_3 (by decide) ?_
  refine g_icmp_ge (tgt := 22) hx hb h dX0_smallestFree_5 (by decide) ?_ ?_
  · clear h; intro h
    exact hK3 (v1, M2) h _ _ _ hw (lv_sub hl [1] rfl)
  · clear h; intro h
    refine lv_iload_n hx hb dX0_smallestFree_8 rfl (lv_at hl 0 rfl) ?_
    refine lv_iload_n hx hb dX0_smallestFree_9 rfl (lv_at hl 1 rfl) ?_
    refine lv_ishr hx hb dX0_smallestFree_10 ?_
    refine lv_iconst (v := 1) hx hb dX0_smallestFree_11 (by decide) ?_
    refine lv_iand hx hb dX0_smallestFree_12 ?_
    refine g_if_eq (tgt := 22) hx hb h dX0_smallestFree_13 (by decide) ?_ ?_
    · clear h; intro h
      exact hK3 (v1, M2) h _ _ _ hw (lv_sub hl [1] rfl)
    · clear h; intro h
      refine g_iinc (k := 1) (v := (v1 + (1 : Int32))) (lv' := fun v5 => [(1, .int v5), (0, .int x0)]) hx hb dX0_smallestFree_16 hl rfl rfl (by decide) (fun _ => rfl) h ?_
      clear h hl; clear ls; intro v5 ls h hl
      refine lv_goto (tgt := 2) hx hb dX0_smallestFree_19 (by decide) ?_
      exact hR4 (v5, M2) h _ _ _ hw (lv_sub hl [1, 0] rfl)
abbrev rm_X0_layBar : Room := { frames := 1, cells := 0, slots := 0, locals := 21 }
set_option maxHeartbeats 4000000 in
set_option maxRecDepth 100000 in
theorem c_X0_layBar {o : Om} {l : Launch} (hn : 115 ≤ o.2.2.2) {p : Nat} (hp : p < 2) {M : Mm} {x1 : Int32} {x2 : Int32} {Q : Mm → Prop} (h : w_X0_layBar p M x1 x2 Q) : CV o l yX0_layBar cX0_layBar 10 rm_X0_layBar [.ref (o.2.1 5 p), .int x1, .int x2] M Q := by
  refine g_start (by decide +kernel) (Nat.le_of_ble_eq_true rfl) ?_
  intro p' e s m args below meth c hx hb hr hlocks hml hown hts hw ls hl
  replace hl : lv_has ls 10 [(0, .ref (o.2.1 5 p)), (1, .int x1), (2, .int x2)] := hl
  unfold w_X0_layBar at h
  refine lv_aload_n hx hb dX0_layBar_0 rfl (lv_at hl 0 rfl) ?_
  refine g_getf hx hb hts in_X0 hown hw 5 p (ci_5 hp) (bi_5 hp hn) rfl rfl 0 (by decide) kX0_12 rfl dX0_layBar_1 ?_
  refine g_getf hx hb hts in_X2 hown hw 11 p (ci_11 (Nat.lt_of_lt_of_le hp (by decide))) (bi_11 (Nat.lt_of_lt_of_le hp (by decide)) hn) rfl rfl 5 (by decide) kX0_93 rfl dX0_layBar_4 ?_
  refine lv_iload_n hx hb dX0_layBar_7 rfl (lv_at hl 1 rfl) ?_
  refine g_iald hx hb hw 13 p (ci_13 (Nat.lt_of_lt_of_le hp (by decide))) (bi_13 (Nat.lt_of_lt_of_le hp (by decide)) hn) rfl h dX0_layBar_8 ?_
  clear h; intro v1 h
  refine lv_aload_n hx hb dX0_layBar_9 rfl (lv_at hl 0 rfl) ?_
  refine lv_iload_n hx hb dX0_layBar_10 rfl (lv_at hl 2 rfl) ?_
  refine g_ci hw (g_runV (As := [.int x2]) (rest := [.int v1]) hx hb hml hown hts mX0_firstOfWeek vX0_firstOfWeek kX0_79 hw 5 p (ci_5 hp) (bi_5 hp hn) rfl rfl (c_X0_firstOfWeek hn hp h) rfl rfl ⟨Nat.le_of_ble_eq_true rfl, Nat.le_of_ble_eq_true rfl⟩ rfl hl.1 rfl (Nat.le_of_ble_eq_true rfl) dX0_layBar_11 ⟨Nat.zero_le _, Nat.zero_le _⟩) ?_
  clear h hw; intro v3 M2 H locs hw h
  refine g_max hx hb hml hl.1 hown hts kX0_102 (Nat.le_of_ble_eq_true rfl) (Nat.le_of_ble_eq_true rfl) (Nat.zero_le _) (Nat.zero_le _) dX0_layBar_14 ?_
  refine lv_aload_n hx hb dX0_layBar_17 rfl (lv_at hl 0 rfl) ?_
  refine g_getf hx hb hts in_X0 hown hw 5 p (ci_5 hp) (bi_5 hp hn) rfl rfl 0 (by decide) kX0_12 rfl dX0_layBar_18 ?_
  refine g_getf hx hb hts in_X2 hown hw 11 p (ci_11 (Nat.lt_of_lt_of_le hp (by decide))) (bi_11 (Nat.lt_of_lt_of_le hp (by decide)) hn) rfl rfl 0 (by decide) kX0_63 rfl dX0_layBar_21 ?_
  refine lv_isub hx hb dX0_layBar_24 ?_
  refine g_topi h ?_
  clear h; intro v4 h
  refine lv_istore_n (lv' := [(3, .int v4), (0, .ref (o.2.1 5 p)), (1, .int x1), (2, .int x2)]) hx hb dX0_layBar_25 rfl hl (by decide) rfl ?_
  clear hl; clear ls; intro ls hl
  refine lv_aload_n hx hb dX0_layBar_26 rfl (lv_at hl 1 rfl) ?_
  refine g_getf hx hb hts in_X0 hown hw 5 p (ci_5 hp) (bi_5 hp hn) rfl rfl 0 (by decide) kX0_12 rfl dX0_layBar_27 ?_
  refine g_getf hx hb hts in_X2 hown hw 11 p (ci_11 (Nat.lt_of_lt_of_le hp (by decide))) (bi_11 (Nat.lt_of_lt_of_le hp (by decide)) hn) rfl rfl 6 (by decide) kX0_96 rfl dX0_layBar_30 ?_
  refine lv_iload_n hx hb dX0_layBar_33 rfl (lv_at hl 2 rfl) ?_
  refine g_iald hx hb hw 14 p (ci_14 (Nat.lt_of_lt_of_le hp (by decide))) (bi_14 (Nat.lt_of_lt_of_le hp (by decide)) hn) rfl h dX0_layBar_34 ?_
  clear h; intro v5 h
  refine lv_aload_n hx hb dX0_layBar_35 rfl (lv_at hl 1 rfl) ?_
  refine lv_iload_n hx hb dX0_layBar_36 rfl (lv_at hl 3 rfl) ?_
  refine g_ci hw (g_runV (As := [.int x2]) (rest := [.int v5]) hx hb hml hown hts mX0_lastOfWeek vX0_lastOfWeek kX0_83 hw 5 p (ci_5 hp) (bi_5 hp hn) rfl rfl (c_X0_lastOfWeek hn hp h) rfl rfl ⟨Nat.le_of_ble_eq_true rfl, Nat.le_of_ble_eq_true rfl⟩ rfl hl.1 rfl (Nat.le_of_ble_eq_true rfl) dX0_layBar_37 ⟨Nat.zero_le _, Nat.zero_le _⟩) ?_
  clear h hw; intro v7 M6 H locs hw h
  refine g_min hx hb hml hl.1 hown hts kX0_108 (Nat.le_of_ble_eq_true rfl) (Nat.le_of_ble_eq_true rfl) (Nat.zero_le _) (Nat.zero_le _) dX0_layBar_40 ?_
  refine lv_aload_n hx hb dX0_layBar_43 rfl (lv_at hl 1 rfl) ?_
  refine g_getf hx hb hts in_X0 hown hw 5 p (ci_5 hp) (bi_5 hp hn) rfl rfl 0 (by decide) kX0_12 rfl dX0_layBar_44 ?_
  refine g_getf hx hb hts in_X2 hown hw 11 p (ci_11 (Nat.lt_of_lt_of_le hp (by decide))) (bi_11 (Nat.lt_of_lt_of_le hp (by decide)) hn) rfl rfl 0 (by decide) kX0_63 rfl dX0_layBar_47 ?_
  refine lv_isub hx hb dX0_layBar_50 ?_
  refine g_topi h ?_
  clear h; intro v8 h
  refine lv_istore (lv' := [(4, .int v8), (3, .int v4), (0, .ref (o.2.1 5 p)), (1, .int x1), (2, .int x2)]) hx hb dX0_layBar_51 hl (by decide) rfl ?_
  clear hl; clear ls; intro ls hl
  refine lv_iconst (v := 0) hx hb dX0_layBar_53 (by decide) ?_
  refine lv_istore (lv' := [(5, .int (0 : Int32)), (4, .int v8), (3, .int v4), (0, .ref (o.2.1 5 p)), (1, .int x1), (2, .int x2)]) hx hb dX0_layBar_54 hl (by decide) rfl ?_
  clear hl; clear ls; intro ls hl
  refine lv_iload_n hx hb dX0_layBar_56 rfl (lv_at hl 2 rfl) ?_
  refine lv_istore (lv' := [(6, .int v4), (5, .int (0 : Int32)), (4, .int v8), (3, .int v4), (0, .ref (o.2.1 5 p)), (1, .int x1), (2, .int x2)]) hx hb dX0_layBar_57 hl (by decide) rfl ?_
  clear hl; clear ls; intro ls hl
  obtain ⟨n, h⟩ := h
  refine letK_W (body := fun K => w_X0_layBar_L59 p x1 x2 v4 v8 K) (fun (x : Int32 × Int32 × Mm) => ∀ (H : Heap) (locs : List Loc) (ls : Array Slot), WO o (WA o) s s.heap H locs x.2.2 → lv_has ls 10 [(0, .ref (o.2.1 5 p)), (1, .int x1), (2, .int x2), (3, .int v4), (4, .int v8), (5, .int x.1)] → W p' l e rm_X0_layBar s m args below meth c H locs 0 0 (MQ below (QV o Q) args s 0 0 (WA o)) (F0 m 84 ls [])) h ?_ ?_
  · clear h hw hl; clear ls; intro x h H locs ls hw hl
    obtain ⟨v17, v18, M19⟩ := x
    replace hl : lv_has ls 10 [(0, .ref (o.2.1 5 p)), (1, .int x1), (2, .int x2), (3, .int v4), (4, .int v8), (5, .int v17)] := hl
    dsimp only at h hw
    refine lv_iload_n hx hb dX0_layBar_84 rfl (lv_at hl 2 rfl) ?_
    refine letJ_W (fun (x : Int32) => ∀ (H : Heap) (locs : List Loc) (ls : Array Slot), WO o (WA o) s s.heap H locs M19 → lv_has ls 10 [(0, .ref (o.2.1 5 p)), (1, .int x1), (2, .int x2), (3, .int v4), (4, .int v8), (5, .int v17)] → W p' l e rm_X0_layBar s m args below meth c H locs 0 0 (MQ below (QV o Q) args s 0 0 (WA o)) (F0 m 103 ls [.int x])) h ?_ ?_
    · clear h hw hl; clear ls; intro x h H locs ls hw hl
      obtain ⟨v20, rfl⟩ : ∃ z, z = x := ⟨_, rfl⟩
      replace hl : lv_has ls 10 [(0, .ref (o.2.1 5 p)), (1, .int x1), (2, .int x2), (3, .int v4), (4, .int v8), (5, .int v17)] := hl
      refine lv_istore (lv' := [(6, .int v20), (0, .ref (o.2.1 5 p)), (1, .int x1), (2, .int x2), (3, .int v4), (4, .int v8), (5, .int v17)]) hx hb dX0_layBar_103 hl (by decide) rfl ?_
      clear hl; clear ls; intro ls hl
      refine lv_iload hx hb dX0_layBar_105 (lv_at hl 0 rfl) ?_
      refine lv_bipush (v := (-9)) hx hb dX0_layBar_107 (by decide) ?_
      refine letJ_W (fun (x : Int32) => ∀ (H : Heap) (locs : List Loc) (ls : Array Slot), WO o (WA o) s s.heap H locs M19 → lv_has ls 10 [(0, .ref (o.2.1 5 p)), (1, .int x1), (2, .int x2), (3, .int v4), (4, .int v8), (5, .int v17), (6, .int v20)] → W p' l e rm_X0_layBar s m args below meth c H locs 0 0 (MQ below (QV o Q) args s 0 0 (WA o)) (F0 m 127 ls [.int x])) h ?_ ?_
      · clear h hw hl; clear ls; intro x h H locs ls hw hl
        obtain ⟨v22, rfl⟩ : ∃ z, z = x := ⟨_, rfl⟩
        replace hl : lv_has ls 10 [(0, .ref (o.2.1 5 p)), (1, .int x1), (2, .int x2), (3, .int v4), (4, .int v8), (5, .int v17), (6, .int v20)] := hl
        refine lv_istore (lv' := [(7, .int v22), (0, .ref (o.2.1 5 p)), (1, .int x1), (2, .int x2), (3, .int v4), (4, .int v8), (5, .int v17), (6, .int v20)]) hx hb dX0_layBar_127 hl (by decide) rfl ?_
        clear hl; clear ls; intro ls hl
        refine lv_iload hx hb dX0_layBar_129 (lv_at hl 0 rfl) ?_
        refine letJ_W (fun (x : Int32 × Mm) => ∀ (H : Heap) (locs : List Loc) (ls : Array Slot), WO o (WA o) s s.heap H locs x.2 → lv_has ls 10 [(0, .ref (o.2.1 5 p)), (1, .int x1), (2, .int x2), (3, .int v4), (4, .int v8)] → W p' l e rm_X0_layBar s m args below meth c H locs 0 0 (MQ below (QV o Q) args s 0 0 (WA o)) (F0 m 144 ls [.int x.1])) h ?_ ?_
        · clear h hw hl; clear ls; intro x h H locs ls hw hl
          obtain ⟨v24, M26⟩ := x
          replace hl : lv_has ls 10 [(0, .ref (o.2.1 5 p)), (1, .int x1), (2, .int x2), (3, .int v4), (4, .int v8)] := hl
          dsimp only at h
          dsimp only at hw
          refine lv_istore (lv' := [(8, .int v24), (0, .ref (o.2.1 5 p)), (1, .int x1), (2, .int x2), (3, .int v4), (4, .int v8)]) hx hb dX0_layBar_144 hl (by decide) rfl ?_
          clear hl; clear ls; intro ls hl
          refine lv_aload_n hx hb dX0_layBar_146 rfl (lv_at hl 1 rfl) ?_
          refine g_getf hx hb hts in_X0 hown hw 5 p (ci_5 hp) (bi_5 hp hn) rfl rfl 3 (by decide) kX0_28 rfl dX0_layBar_147 ?_
          refine lv_iload_n hx hb dX0_layBar_150 rfl (lv_at hl 2 rfl) ?_
          refine g_aldR hx hb hw hp hn h dX0_layBar_151 ?_
          clear h; intro k27 hk27 h
          refine lv_iload_n hx hb dX0_layBar_152 rfl (lv_at hl 3 rfl) ?_
          refine lv_iload hx hb dX0_layBar_153 (lv_at hl 0 rfl) ?_
          refine g_iast hx hb hw 12 (24 * p + k27) (ci_12 (r_48 hp hk27)) (bi_12 (r_48 hp hk27) hn) (fun _ => rfl) h dX0_layBar_155 ?_
          clear h hw; intro M28 H locs hw h
          refine lv_iload_n hx hb dX0_layBar_156 rfl (lv_at hl 4 rfl) ?_
          refine lv_istore (lv' := [(9, .int v4), (8, .int v24), (0, .ref (o.2.1 5 p)), (1, .int x1), (2, .int x2), (3, .int v4), (4, .int v8)]) hx hb dX0_layBar_157 hl (by decide) rfl ?_
          clear hl; clear ls; intro ls hl
          obtain ⟨n, h⟩ := h
          refine letK_W (body := fun K => w_X0_layBar_L159 p v8 v24 K) (fun (x : Int32 × Mm) => ∀ (H : Heap) (locs : List Loc) (ls : Array Slot), WO o (WA o) s s.heap H locs x.2 → lv_has ls 10 [] → W p' l e rm_X0_layBar s m args below meth c H locs 0 0 (MQ below (QV o Q) args s 0 0 (WA o)) (F0 m 186 ls [])) h ?_ ?_
          · clear h hw hl; clear ls; intro x h H locs ls hw hl
            obtain ⟨v36, M37⟩ := x
            replace hl : lv_has ls 10 [] := hl
            dsimp only at h hw
            exact g_vret hx hb hr hlocks hw h dX0_layBar_186
          clear h; intro K31 hK31 h
          refine loop_W (body := w_X0_layBar_L159 p v8 v24 K31) (fun (x : Int32 × Mm) => ∀ (H : Heap) (locs : List Loc) (ls : Array Slot), WO o (WA o) s s.heap H locs x.2 → lv_has ls 10 [(0, .ref (o.2.1 5 p)), (4, .int v8), (8, .int v24), (9, .int x.1)] → W p' l e rm_X0_layBar s m args below meth c H locs 0 0 (MQ below (QV o Q) args s 0 0 (WA o)) (F0 m 159 ls [])) ?_ n _ h _ _ _ hw (lv_sub hl [2, 6, 1, 0] rfl)
          clear h hw hl; clear ls; intro R32 x hR32 h H locs ls hw hl
          obtain ⟨v29, M30⟩ := x
          replace hl : lv_has ls 10 [(0, .ref (o.2.1 5 p)), (4, .int v8), (8, .int v24), (9, .int v29)] := hl
          dsimp only at hw
          unfold w_X0_layBar_L159 at h
          dsimp only at h
          refine lv_iload hx hb dX0_layBar_159 (lv_at hl 3 rfl) ?_
          refine lv_iload hx hb dX0_layBar_161 (lv_at hl 1 rfl) ?_
          refine g_icmp_gt (tgt := 186) hx hb h dX0_layBar_163 (by decide) ?_ ?_
          · clear h; intro h
            exact hK31 (v29, M30) h _ _ _ hw (lv_sub hl [] rfl)
          · clear h; intro h
            refine lv_aload_n hx hb dX0_layBar_166 rfl (lv_at hl 0 rfl) ?_
            refine g_getf hx hb hts in_X0 hown hw 5 p (ci_5 hp) (bi_5 hp hn) rfl rfl 5 (by decide) kX0_34 rfl dX0_layBar_167 ?_
            refine lv_iload hx hb dX0_layBar_170 (lv_at hl 3 rfl) ?_
            refine lv_dup2_11 hx hb dX0_layBar_172 rfl rfl ?_
            refine g_iald hx hb hw 9 p (ci_9 hp) (bi_9 hp hn) rfl h dX0_layBar_173 ?_
            clear h; intro v33 h
            refine lv_iconst (v := 1) hx hb dX0_layBar_174 (by decide) ?_
            refine lv_iload hx hb dX0_layBar_175 (lv_at hl 2 rfl) ?_
            refine lv_ishl hx hb dX0_layBar_177 ?_
            refine lv_ior hx hb dX0_layBar_178 ?_
            refine g_iast hx hb hw 9 p (ci_9 hp) (bi_9 hp hn) (fun _ => rfl) h dX0_layBar_179 ?_
            clear h hw; intro M34 H locs hw h
            refine g_iinc (k := 3) (v := (v29 + (1 : Int32))) (lv' := fun v35 => [(9, .int v35), (0, .ref (o.2.1 5 p)), (4, .int v8), (8, .int v24)]) hx hb dX0_layBar_180 hl rfl rfl (by decide) (fun _ => rfl) h ?_
            clear h hl; clear ls; intro v35 ls h hl
            refine lv_goto (tgt := 159) hx hb dX0_layBar_183 (by decide) ?_
            exact hR32 (v35, M34) h _ _ _ hw (lv_sub hl [1, 2, 3, 0] rfl)
        clear h; intro J25 hJ25 h
        refine g_if_eq (tgt := 139) hx hb h dX0_layBar_131 (by decide) ?_ ?_
        · clear h; intro h
          refine lv_iload hx hb dX0_layBar_139 (lv_at hl 6 rfl) ?_
          refine g_ci hw (g_runS (As := [.int v17]) (rest := []) hx hb hml hown hts mX0_smallestFree sX0_smallestFree kX0_111 hw (c_X0_smallestFree hn h) rfl rfl ⟨Nat.le_of_ble_eq_true rfl, Nat.le_of_ble_eq_true rfl⟩ rfl hl.1 rfl (Nat.le_of_ble_eq_true rfl) dX0_layBar_141 ⟨Nat.zero_le _, Nat.zero_le _⟩) ?_
          clear h hw; intro v39 M38 H locs hw h
          exact hJ25 (v39, M38) h _ _ _ hw (lv_sub hl [1, 2, 3, 4, 5] rfl)
        · clear h; intro h
          refine lv_iload hx hb dX0_layBar_134 (lv_at hl 7 rfl) ?_
          refine lv_goto (tgt := 144) hx hb dX0_layBar_136 (by decide) ?_
          exact hJ25 (v20, M19) h _ _ _ hw (lv_sub hl [1, 2, 3, 4, 5] rfl)
      clear h; intro J23 hJ23 h
      refine letJ_W (fun (x : Unit) => ∀ (H : Heap) (locs : List Loc) (ls : Array Slot), WO o (WA o) s s.heap H locs M19 → lv_has ls 10 [(0, .ref (o.2.1 5 p)), (1, .int x1), (2, .int x2), (3, .int v4), (4, .int v8), (5, .int v17), (6, .int v20)] → W p' l e rm_X0_layBar s m args below meth c H locs 0 0 (MQ below (QV o Q) args s 0 0 (WA o)) (F0 m 126 ls [])) h ?_ ?_
      · clear h hw hl; clear ls; intro x h H locs ls hw hl
        replace hl : lv_has ls 10 [(0, .ref (o.2.1 5 p)), (1, .int x1), (2, .int x2), (3, .int v4), (4, .int v8), (5, .int v17), (6, .int v20)] := hl
        refine lv_iconst (v := 0) hx hb dX0_layBar_126 (by decide) ?_
        exact hJ23 (0 : Int32) h _ _ _ hw (lv_sub hl [0, 1, 2, 3, 4, 5, 6] rfl)
      clear h; intro J40 hJ40 h
      refine g_icmp_eq (tgt := 126) hx hb h dX0_layBar_109 (by decide) ?_ ?_
      · clear h; intro h
        exact hJ40 () h _ _ _ hw (lv_sub hl [1, 2, 3, 4, 5, 6, 0] rfl)
      · clear h; intro h
        refine lv_iload hx hb dX0_layBar_112 (lv_at hl 6 rfl) ?_
        refine lv_iload hx hb dX0_layBar_114 (lv_at hl 0 rfl) ?_
        refine lv_ishr hx hb dX0_layBar_116 ?_
        refine lv_iconst (v := 1) hx hb dX0_layBar_117 (by decide) ?_
        refine lv_iand hx hb dX0_layBar_118 ?_
        refine g_if_ne (tgt := 126) hx hb h dX0_layBar_119 (by decide) ?_ ?_
        · clear h; intro h
          exact hJ40 () h _ _ _ hw (lv_sub hl [1, 2, 3, 4, 5, 6, 0] rfl)
        · clear h; intro h
          refine lv_iconst (v := 1) hx hb dX0_layBar_122 (by decide) ?_
          refine lv_goto (tgt := 127) hx hb dX0_layBar_123 (by decide) ?_
          exact hJ23 (1 : Int32) h _ _ _ hw (lv_sub hl [1, 2, 3, 4, 5, 6, 0] rfl)
    clear h; intro J21 hJ21 h
    refine g_if_le (tgt := 101) hx hb h dX0_layBar_85 (by decide) ?_ ?_
    · clear h; intro h
      refine lv_bipush (v := (-9)) hx hb dX0_layBar_101 (by decide) ?_
      exact hJ21 (-9 : Int32) h _ _ _ hw (lv_sub hl [0, 1, 2, 3, 4, 5] rfl)
    · clear h; intro h
      refine lv_aload_n hx hb dX0_layBar_88 rfl (lv_at hl 0 rfl) ?_
      refine g_getf hx hb hts in_X0 hown hw 5 p (ci_5 hp) (bi_5 hp hn) rfl rfl 3 (by decide) kX0_28 rfl dX0_layBar_89 ?_
      refine lv_iload_n hx hb dX0_layBar_92 rfl (lv_at hl 1 rfl) ?_
      refine g_aldR hx hb hw hp hn h dX0_layBar_93 ?_
      clear h; intro k41 hk41 h
      refine lv_iload_n hx hb dX0_layBar_94 rfl (lv_at hl 2 rfl) ?_
      refine lv_iconst (v := 1) hx hb dX0_layBar_95 (by decide) ?_
      refine lv_isub hx hb dX0_layBar_96 ?_
      refine g_iald hx hb hw 12 (24 * p + k41) (ci_12 (r_48 hp hk41)) (bi_12 (r_48 hp hk41) hn) rfl h dX0_layBar_97 ?_
      clear h; intro v42 h
      refine lv_goto (tgt := 103) hx hb dX0_layBar_98 (by decide) ?_
      exact hJ21 v42 h _ _ _ hw (lv_sub hl [0, 1, 2, 3, 4, 5] rfl)
  clear h; intro K12 hK12 h
  refine loop_W (body := w_X0_layBar_L59 p x1 x2 v4 v8 K12) (fun (x : Int32 × Int32 × Mm) => ∀ (H : Heap) (locs : List Loc) (ls : Array Slot), WO o (WA o) s s.heap H locs x.2.2 → lv_has ls 10 [(0, .ref (o.2.1 5 p)), (1, .int x1), (2, .int x2), (3, .int v4), (4, .int v8), (5, .int x.1), (6, .int x.2.1)] → W p' l e rm_X0_layBar s m args below meth c H locs 0 0 (MQ below (QV o Q) args s 0 0 (WA o)) (F0 m 59 ls [])) ?_ n _ h _ _ _ hw (lv_sub hl [4, 5, 6, 3, 2, 1, 0] rfl)
  clear h hw hl; clear ls; intro R13 x hR13 h H locs ls hw hl
  obtain ⟨v9, v10, M11⟩ := x
  replace hl : lv_has ls 10 [(0, .ref (o.2.1 5 p)), (1, .int x1), (2, .int x2), (3, .int v4), (4, .int v8), (5, .int v9), (6, .int v10)] := hl
  dsimp only at hw
  unfold w_X0_layBar_L59 at h
  dsimp only at h
  refine lv_iload hx hb dX0_layBar_59 (lv_at hl 6 rfl) ?_
  refine lv_iload hx hb dX0_layBar_61 (lv_at hl 4 rfl) ?_
  refine g_icmp_gt (tgt := 84) hx hb h dX0_layBar_63 (by decide) ?_ ?_
  · clear h; intro h
    exact hK12 (v9, v10, M11) h _ _ _ hw (lv_sub hl [0, 1, 2, 3, 4, 5] rfl)
  · clear h; intro h
    refine lv_iload hx hb dX0_layBar_66 (lv_at hl 5 rfl) ?_
    refine lv_aload_n hx hb dX0_layBar_68 rfl (lv_at hl 0 rfl) ?_
    refine g_getf hx hb hts in_X0 hown hw 5 p (ci_5 hp) (bi_5 hp hn) rfl rfl 5 (by decide) kX0_34 rfl dX0_layBar_69 ?_
    refine lv_iload hx hb dX0_layBar_72 (lv_at hl 6 rfl) ?_
    refine g_iald hx hb hw 9 p (ci_9 hp) (bi_9 hp hn) rfl h dX0_layBar_74 ?_
    clear h; intro v14 h
    refine lv_ior hx hb dX0_layBar_75 ?_
    refine g_topi h ?_
    clear h; intro v15 h
    refine lv_istore (lv' := [(5, .int v15), (0, .ref (o.2.1 5 p)), (1, .int x1), (2, .int x2), (3, .int v4), (4, .int v8), (6, .int v10)]) hx hb dX0_layBar_76 hl (by decide) rfl ?_
    clear hl; clear ls; intro ls hl
    refine g_iinc (k := 6) (v := (v10 + (1 : Int32))) (lv' := fun v16 => [(6, .int v16), (5, .int v15), (0, .ref (o.2.1 5 p)), (1, .int x1), (2, .int x2), (3, .int v4), (4, .int v8)]) hx hb dX0_layBar_78 hl rfl rfl (by decide) (fun _ => rfl) h ?_
    clear h hl; clear ls; intro v16 ls h hl
    refine lv_goto (tgt := 59) hx hb dX0_layBar_81 (by decide) ?_
    exact hR13 (v15, v16, M11) h _ _ _ hw (lv_sub hl [2, 3, 4, 5, 6, 1, 0] rfl)
abbrev rm_X0_isStackedBefore : Room := { frames := 0, cells := 0, slots := 0, locals := 0 }
set_option maxHeartbeats 4000000 in
set_option maxRecDepth 100000 in
theorem c_X0_isStackedBefore {o : Om} {l : Launch} (hn : 115 ≤ o.2.2.2) {p : Nat} (hp : p < 2) {M : Mm} {x1 : Int32} {x2 : Int32} {Q : Int32 → Mm → Prop} (h : w_X0_isStackedBefore p M x1 x2 Q) : CZ o l yX0_isStackedBefore cX0_isStackedBefore 3 rm_X0_isStackedBefore [.ref (o.2.1 5 p), .int x1, .int x2] M Q := by
  refine g_start (by decide +kernel) (Nat.le_of_ble_eq_true rfl) ?_
  intro p' e s m args below meth c hx hb hr hlocks hml hown hts hw ls hl
  replace hl : lv_has ls 3 [(0, .ref (o.2.1 5 p)), (1, .int x1), (2, .int x2)] := hl
  unfold w_X0_isStackedBefore at h
  refine lv_aload_n hx hb dX0_isStackedBefore_0 rfl (lv_at hl 0 rfl) ?_
  refine g_getf hx hb hts in_X0 hown hw 5 p (ci_5 hp) (bi_5 hp hn) rfl rfl 0 (by decide) kX0_12 rfl dX0_isStackedBefore_1 ?_
  refine g_getf hx hb hts in_X2 hown hw 11 p (ci_11 (Nat.lt_of_lt_of_le hp (by decide))) (bi_11 (Nat.lt_of_lt_of_le hp (by decide)) hn) rfl rfl 8 (by decide) kX0_99 rfl dX0_isStackedBefore_4 ?_
  refine lv_iload_n hx hb dX0_isStackedBefore_7 rfl (lv_at hl 1 rfl) ?_
  refine g_iald hx hb hw 16 p (ci_16 (Nat.lt_of_lt_of_le hp (by decide))) (bi_16 (Nat.lt_of_lt_of_le hp (by decide)) hn) rfl h dX0_isStackedBefore_8 ?_
  clear h; intro v1 h
  refine lv_aload_n hx hb dX0_isStackedBefore_9 rfl (lv_at hl 0 rfl) ?_
  refine g_getf hx hb hts in_X0 hown hw 5 p (ci_5 hp) (bi_5 hp hn) rfl rfl 0 (by decide) kX0_12 rfl dX0_isStackedBefore_10 ?_
  refine g_getf hx hb hts in_X2 hown hw 11 p (ci_11 (Nat.lt_of_lt_of_le hp (by decide))) (bi_11 (Nat.lt_of_lt_of_le hp (by decide)) hn) rfl rfl 8 (by decide) kX0_99 rfl dX0_isStackedBefore_13 ?_
  refine lv_iload_n hx hb dX0_isStackedBefore_16 rfl (lv_at hl 2 rfl) ?_
  refine g_iald hx hb hw 16 p (ci_16 (Nat.lt_of_lt_of_le hp (by decide))) (bi_16 (Nat.lt_of_lt_of_le hp (by decide)) hn) rfl h dX0_isStackedBefore_17 ?_
  clear h; intro v2 h
  refine g_icmp_eq (tgt := 48) hx hb h dX0_isStackedBefore_18 (by decide) ?_ ?_
  · clear h; intro h
    refine lv_aload_n hx hb dX0_isStackedBefore_48 rfl (lv_at hl 0 rfl) ?_
    refine g_getf hx hb hts in_X0 hown hw 5 p (ci_5 hp) (bi_5 hp hn) rfl rfl 0 (by decide) kX0_12 rfl dX0_isStackedBefore_49 ?_
    refine g_getf hx hb hts in_X2 hown hw 11 p (ci_11 (Nat.lt_of_lt_of_le hp (by decide))) (bi_11 (Nat.lt_of_lt_of_le hp (by decide)) hn) rfl rfl 7 (by decide) kX0_118 rfl dX0_isStackedBefore_52 ?_
    refine lv_iload_n hx hb dX0_isStackedBefore_55 rfl (lv_at hl 1 rfl) ?_
    refine g_iald hx hb hw 15 p (ci_15 (Nat.lt_of_lt_of_le hp (by decide))) (bi_15 (Nat.lt_of_lt_of_le hp (by decide)) hn) rfl h dX0_isStackedBefore_56 ?_
    clear h; intro v3 h
    refine lv_aload_n hx hb dX0_isStackedBefore_57 rfl (lv_at hl 0 rfl) ?_
    refine g_getf hx hb hts in_X0 hown hw 5 p (ci_5 hp) (bi_5 hp hn) rfl rfl 0 (by decide) kX0_12 rfl dX0_isStackedBefore_58 ?_
    refine g_getf hx hb hts in_X2 hown hw 11 p (ci_11 (Nat.lt_of_lt_of_le hp (by decide))) (bi_11 (Nat.lt_of_lt_of_le hp (by decide)) hn) rfl rfl 7 (by decide) kX0_118 rfl dX0_isStackedBefore_61 ?_
    refine lv_iload_n hx hb dX0_isStackedBefore_64 rfl (lv_at hl 2 rfl) ?_
    refine g_iald hx hb hw 15 p (ci_15 (Nat.lt_of_lt_of_le hp (by decide))) (bi_15 (Nat.lt_of_lt_of_le hp (by decide)) hn) rfl h dX0_isStackedBefore_65 ?_
    clear h; intro v4 h
    refine g_icmp_ge (tgt := 73) hx hb h dX0_isStackedBefore_66 (by decide) ?_ ?_
    · clear h; intro h
      refine lv_iconst (v := 0) hx hb dX0_isStackedBefore_73 (by decide) ?_
      exact g_zret hx hb hr hlocks hw (Or.inl rfl) h dX0_isStackedBefore_74
    · clear h; intro h
      refine lv_iconst (v := 1) hx hb dX0_isStackedBefore_69 (by decide) ?_
      refine lv_goto (tgt := 74) hx hb dX0_isStackedBefore_70 (by decide) ?_
      exact g_zret hx hb hr hlocks hw (Or.inr rfl) h dX0_isStackedBefore_74
  · clear h; intro h
    refine lv_aload_n hx hb dX0_isStackedBefore_21 rfl (lv_at hl 0 rfl) ?_
    refine g_getf hx hb hts in_X0 hown hw 5 p (ci_5 hp) (bi_5 hp hn) rfl rfl 0 (by decide) kX0_12 rfl dX0_isStackedBefore_22 ?_
    refine g_getf hx hb hts in_X2 hown hw 11 p (ci_11 (Nat.lt_of_lt_of_le hp (by decide))) (bi_11 (Nat.lt_of_lt_of_le hp (by decide)) hn) rfl rfl 8 (by decide) kX0_99 rfl dX0_isStackedBefore_25 ?_
    refine lv_iload_n hx hb dX0_isStackedBefore_28 rfl (lv_at hl 1 rfl) ?_
    refine g_iald hx hb hw 16 p (ci_16 (Nat.lt_of_lt_of_le hp (by decide))) (bi_16 (Nat.lt_of_lt_of_le hp (by decide)) hn) rfl h dX0_isStackedBefore_29 ?_
    clear h; intro v5 h
    refine lv_aload_n hx hb dX0_isStackedBefore_30 rfl (lv_at hl 0 rfl) ?_
    refine g_getf hx hb hts in_X0 hown hw 5 p (ci_5 hp) (bi_5 hp hn) rfl rfl 0 (by decide) kX0_12 rfl dX0_isStackedBefore_31 ?_
    refine g_getf hx hb hts in_X2 hown hw 11 p (ci_11 (Nat.lt_of_lt_of_le hp (by decide))) (bi_11 (Nat.lt_of_lt_of_le hp (by decide)) hn) rfl rfl 8 (by decide) kX0_99 rfl dX0_isStackedBefore_34 ?_
    refine lv_iload_n hx hb dX0_isStackedBefore_37 rfl (lv_at hl 2 rfl) ?_
    refine g_iald hx hb hw 16 p (ci_16 (Nat.lt_of_lt_of_le hp (by decide))) (bi_16 (Nat.lt_of_lt_of_le hp (by decide)) hn) rfl h dX0_isStackedBefore_38 ?_
    clear h; intro v6 h
    refine g_icmp_le (tgt := 46) hx hb h dX0_isStackedBefore_39 (by decide) ?_ ?_
    · clear h; intro h
      refine lv_iconst (v := 0) hx hb dX0_isStackedBefore_46 (by decide) ?_
      exact g_zret hx hb hr hlocks hw (Or.inl rfl) h dX0_isStackedBefore_47
    · clear h; intro h
      refine lv_iconst (v := 1) hx hb dX0_isStackedBefore_42 (by decide) ?_
      refine lv_goto (tgt := 47) hx hb dX0_isStackedBefore_43 (by decide) ?_
      exact g_zret hx hb hr hlocks hw (Or.inr rfl) h dX0_isStackedBefore_47
abbrev rm_X0_orderShortOnes : Room := { frames := 1, cells := 0, slots := 0, locals := 23 }
set_option maxHeartbeats 4000000 in
set_option maxRecDepth 100000 in
theorem c_X0_orderShortOnes {o : Om} {l : Launch} (hn : 115 ≤ o.2.2.2) {p : Nat} (hp : p < 2) {M : Mm} {Q : Mm → Prop} (h : w_X0_orderShortOnes p M Q) : CV o l yX0_orderShortOnes cX0_orderShortOnes 3 rm_X0_orderShortOnes [.ref (o.2.1 5 p)] M Q := by
  refine g_start (by decide +kernel) (Nat.le_of_ble_eq_true rfl) ?_
  intro p' e s m args below meth c hx hb hr hlocks hml hown hts hw ls hl
  replace hl : lv_has ls 3 [(0, .ref (o.2.1 5 p))] := hl
  unfold w_X0_orderShortOnes at h
  refine lv_aload_n hx hb dX0_orderShortOnes_0 rfl (lv_at hl 0 rfl) ?_
  refine lv_iconst (v := 0) hx hb dX0_orderShortOnes_1 (by decide) ?_
  refine g_putf hx hb hts in_X0 tyX0 tyX0_ok nmX0 hown hw 5 p (ci_5 hp) (bi_5 hp hn) rfl 7 (by decide) rfl rfl kX0_40 (by decide +kernel) (by decide +kernel) (by simp) h dX0_orderShortOnes_2 ?_
  clear h hw; intro M1 H locs hw h
  refine lv_iconst (v := 0) hx hb dX0_orderShortOnes_5 (by decide) ?_
  refine lv_istore_n (lv' := [(1, .int (0 : Int32)), (0, .ref (o.2.1 5 p))]) hx hb dX0_orderShortOnes_6 rfl hl (by decide) rfl ?_
  clear hl; clear ls; intro ls hl
  obtain ⟨n, h⟩ := h
  refine letK_W (body := fun K => w_X0_orderShortOnes_L7 p K) (fun (x : Int32 × Mm) => ∀ (H : Heap) (locs : List Loc) (ls : Array Slot), WO o (WA o) s s.heap H locs x.2 → lv_has ls 3 [] → W p' l e rm_X0_orderShortOnes s m args below meth c H locs 0 0 (MQ below (QV o Q) args s 0 0 (WA o)) (F0 m 122 ls [])) h ?_ ?_
  · clear h hw hl; clear ls; intro x h H locs ls hw hl
    obtain ⟨v28, M29⟩ := x
    replace hl : lv_has ls 3 [] := hl
    dsimp only at h hw
    exact g_vret hx hb hr hlocks hw h dX0_orderShortOnes_122
  clear h; intro K4 hK4 h
  refine loop_W (body := w_X0_orderShortOnes_L7 p K4) (fun (x : Int32 × Mm) => ∀ (H : Heap) (locs : List Loc) (ls : Array Slot), WO o (WA o) s s.heap H locs x.2 → lv_has ls 3 [(0, .ref (o.2.1 5 p)), (1, .int x.1)] → W p' l e rm_X0_orderShortOnes s m args below meth c H locs 0 0 (MQ below (QV o Q) args s 0 0 (WA o)) (F0 m 7 ls [])) ?_ n _ h _ _ _ hw (lv_sub hl [1, 0] rfl)
  clear h hw hl; clear ls; intro R5 x hR5 h H locs ls hw hl
  obtain ⟨v2, M3⟩ := x
  replace hl : lv_has ls 3 [(0, .ref (o.2.1 5 p)), (1, .int v2)] := hl
  dsimp only at hw
  unfold w_X0_orderShortOnes_L7 at h
  dsimp only at h
  refine lv_iload_n hx hb dX0_orderShortOnes_7 rfl (lv_at hl 1 rfl) ?_
  refine lv_aload_n hx hb dX0_orderShortOnes_8 rfl (lv_at hl 0 rfl) ?_
  refine g_getf hx hb hts in_X0 hown hw 5 p (ci_5 hp) (bi_5 hp hn) rfl rfl 0 (by decide) kX0_12 rfl dX0_orderShortOnes_9 ?_
  refine g_getf hx hb hts in_X2 hown hw 11 p (ci_11 (Nat.lt_of_lt_of_le hp (by decide))) (bi_11 (Nat.lt_of_lt_of_le hp (by decide)) hn) rfl rfl 4 (by decide) kX0_72 rfl dX0_orderShortOnes_12 ?_
  refine g_icmp_ge (tgt := 122) hx hb h dX0_orderShortOnes_15 (by decide) ?_ ?_
  · clear h; intro h
    exact hK4 (v2, M3) h _ _ _ hw (lv_sub hl [] rfl)
  · clear h; intro h
    refine lv_aload_n hx hb dX0_orderShortOnes_18 rfl (lv_at hl 0 rfl) ?_
    refine g_getf hx hb hts in_X0 hown hw 5 p (ci_5 hp) (bi_5 hp hn) rfl rfl 0 (by decide) kX0_12 rfl dX0_orderShortOnes_19 ?_
    refine lv_iload_n hx hb dX0_orderShortOnes_22 rfl (lv_at hl 1 rfl) ?_
    refine g_cz hw (g_runV (As := [.int v2]) (rest := []) hx hb hml hown hts mX2_isLong vX2_isLong kX0_75 hw 11 p (ci_11 (Nat.lt_of_lt_of_le hp (by decide))) (bi_11 (Nat.lt_of_lt_of_le hp (by decide)) hn) rfl rfl (c_X2_isLong hn (Nat.lt_of_lt_of_le hp (by decide)) h) rfl rfl ⟨Nat.le_of_ble_eq_true rfl, Nat.le_of_ble_eq_true rfl⟩ rfl hl.1 rfl (Nat.le_of_ble_eq_true rfl) dX0_orderShortOnes_23 ⟨Nat.zero_le _, Nat.zero_le _⟩) ?_
    clear h hw; intro v7 M6 H locs hw hz_v7 h
    refine g_if_ne (tgt := 116) hx hb h dX0_orderShortOnes_26 (by decide) ?_ ?_
    · clear h; intro h
      refine g_iinc (k := 1) (v := (v2 + (1 : Int32))) (lv' := fun v8 => [(1, .int v8), (0, .ref (o.2.1 5 p))]) hx hb dX0_orderShortOnes_116 hl rfl rfl (by decide) (fun _ => rfl) h ?_
      clear h hl; clear ls; intro v8 ls h hl
      refine lv_goto (tgt := 7) hx hb dX0_orderShortOnes_119 (by decide) ?_
      exact hR5 (v8, M6) h _ _ _ hw (lv_sub hl [1, 0] rfl)
    · clear h; intro h
      refine lv_aload_n hx hb dX0_orderShortOnes_29 rfl (lv_at hl 0 rfl) ?_
      refine g_getf hx hb hts in_X0 hown hw 5 p (ci_5 hp) (bi_5 hp hn) rfl rfl 0 (by decide) kX0_12 rfl dX0_orderShortOnes_30 ?_
      refine lv_iload_n hx hb dX0_orderShortOnes_33 rfl (lv_at hl 1 rfl) ?_
      refine lv_aload_n hx hb dX0_orderShortOnes_34 rfl (lv_at hl 0 rfl) ?_
      refine g_getf hx hb hts in_X0 hown hw 5 p (ci_5 hp) (bi_5 hp hn) rfl rfl 0 (by decide) kX0_12 rfl dX0_orderShortOnes_35 ?_
      refine g_getf hx hb hts in_X2 hown hw 11 p (ci_11 (Nat.lt_of_lt_of_le hp (by decide))) (bi_11 (Nat.lt_of_lt_of_le hp (by decide)) hn) rfl rfl 0 (by decide) kX0_63 rfl dX0_orderShortOnes_38 ?_
      refine lv_aload_n hx hb dX0_orderShortOnes_41 rfl (lv_at hl 0 rfl) ?_
      refine g_getf hx hb hts in_X0 hown hw 5 p (ci_5 hp) (bi_5 hp hn) rfl rfl 0 (by decide) kX0_12 rfl dX0_orderShortOnes_42 ?_
      refine g_getf hx hb hts in_X2 hown hw 11 p (ci_11 (Nat.lt_of_lt_of_le hp (by decide))) (bi_11 (Nat.lt_of_lt_of_le hp (by decide)) hn) rfl rfl 1 (by decide) kX0_66 rfl dX0_orderShortOnes_45 ?_
      refine g_cz hw (g_runV (As := [.int v2, .int (M6 11 p 0), .int (M6 11 p 1)]) (rest := []) hx hb hml hown hts mX2_meets vX2_meets kX0_86 hw 11 p (ci_11 (Nat.lt_of_lt_of_le hp (by decide))) (bi_11 (Nat.lt_of_lt_of_le hp (by decide)) hn) rfl rfl (c_X2_meets hn (Nat.lt_of_lt_of_le hp (by decide)) h) rfl rfl ⟨Nat.le_of_ble_eq_true rfl, Nat.le_of_ble_eq_true rfl⟩ rfl hl.1 rfl (Nat.le_of_ble_eq_true rfl) dX0_orderShortOnes_48 ⟨Nat.zero_le _, Nat.zero_le _⟩) ?_
      clear h hw; intro v10 M9 H locs hw hz_v10 h
      refine g_if_eq (tgt := 116) hx hb h dX0_orderShortOnes_51 (by decide) ?_ ?_
      · clear h; intro h
        refine g_iinc (k := 1) (v := (v2 + (1 : Int32))) (lv' := fun v11 => [(1, .int v11), (0, .ref (o.2.1 5 p))]) hx hb dX0_orderShortOnes_116 hl rfl rfl (by decide) (fun _ => rfl) h ?_
        clear h hl; clear ls; intro v11 ls h hl
        refine lv_goto (tgt := 7) hx hb dX0_orderShortOnes_119 (by decide) ?_
        exact hR5 (v11, M9) h _ _ _ hw (lv_sub hl [1, 0] rfl)
      · clear h; intro h
        refine lv_aload_n hx hb dX0_orderShortOnes_54 rfl (lv_at hl 0 rfl) ?_
        refine g_getf hx hb hts in_X0 hown hw 5 p (ci_5 hp) (bi_5 hp hn) rfl rfl 7 (by decide) kX0_40 rfl dX0_orderShortOnes_55 ?_
        refine g_topi h ?_
        clear h; intro v12 h
        refine lv_istore_n (lv' := [(2, .int v12), (0, .ref (o.2.1 5 p)), (1, .int v2)]) hx hb dX0_orderShortOnes_58 rfl hl (by decide) rfl ?_
        clear hl; clear ls; intro ls hl
        obtain ⟨n, h⟩ := h
        refine letK_W (body := fun K => w_X0_orderShortOnes_L59 p v2 K) (fun (x : Int32 × Mm) => ∀ (H : Heap) (locs : List Loc) (ls : Array Slot), WO o (WA o) s s.heap H locs x.2 → lv_has ls 3 [(0, .ref (o.2.1 5 p)), (1, .int v2), (2, .int x.1)] → W p' l e rm_X0_orderShortOnes s m args below meth c H locs 0 0 (MQ below (QV o Q) args s 0 0 (WA o)) (F0 m 99 ls [])) h ?_ ?_
        · clear h hw hl; clear ls; intro x h H locs ls hw hl
          obtain ⟨v23, M24⟩ := x
          replace hl : lv_has ls 3 [(0, .ref (o.2.1 5 p)), (1, .int v2), (2, .int v23)] := hl
          dsimp only at h hw
          refine lv_aload_n hx hb dX0_orderShortOnes_99 rfl (lv_at hl 0 rfl) ?_
          refine g_getf hx hb hts in_X0 hown hw 5 p (ci_5 hp) (bi_5 hp hn) rfl rfl 6 (by decide) kX0_37 rfl dX0_orderShortOnes_100 ?_
          refine lv_iload_n hx hb dX0_orderShortOnes_103 rfl (lv_at hl 2 rfl) ?_
          refine lv_iload_n hx hb dX0_orderShortOnes_104 rfl (lv_at hl 1 rfl) ?_
          refine g_iast hx hb hw 10 p (ci_10 hp) (bi_10 hp hn) (fun _ => rfl) h dX0_orderShortOnes_105 ?_
          clear h hw; intro M25 H locs hw h
          refine lv_aload_n hx hb dX0_orderShortOnes_106 rfl (lv_at hl 0 rfl) ?_
          refine lv_dup hx hb dX0_orderShortOnes_107 rfl ?_
          refine g_getf hx hb hts in_X0 hown hw 5 p (ci_5 hp) (bi_5 hp hn) rfl rfl 7 (by decide) kX0_40 rfl dX0_orderShortOnes_108 ?_
          refine lv_iconst (v := 1) hx hb dX0_orderShortOnes_111 (by decide) ?_
          refine lv_iadd hx hb dX0_orderShortOnes_112 ?_
          refine g_putf hx hb hts in_X0 tyX0 tyX0_ok nmX0 hown hw 5 p (ci_5 hp) (bi_5 hp hn) rfl 7 (by decide) rfl rfl kX0_40 (by decide +kernel) (by decide +kernel) (by simp) h dX0_orderShortOnes_113 ?_
          clear h hw; intro M26 H locs hw h
          refine g_iinc (k := 1) (v := (v2 + (1 : Int32))) (lv' := fun v27 => [(1, .int v27), (0, .ref (o.2.1 5 p)), (2, .int v23)]) hx hb dX0_orderShortOnes_116 hl rfl rfl (by decide) (fun _ => rfl) h ?_
          clear h hl; clear ls; intro v27 ls h hl
          refine lv_goto (tgt := 7) hx hb dX0_orderShortOnes_119 (by decide) ?_
          exact hR5 (v27, M26) h _ _ _ hw (lv_sub hl [1, 0] rfl)
        clear h; intro K15 hK15 h
        refine loop_W (body := w_X0_orderShortOnes_L59 p v2 K15) (fun (x : Int32 × Mm) => ∀ (H : Heap) (locs : List Loc) (ls : Array Slot), WO o (WA o) s s.heap H locs x.2 → lv_has ls 3 [(0, .ref (o.2.1 5 p)), (1, .int v2), (2, .int x.1)] → W p' l e rm_X0_orderShortOnes s m args below meth c H locs 0 0 (MQ below (QV o Q) args s 0 0 (WA o)) (F0 m 59 ls [])) ?_ n _ h _ _ _ hw (lv_sub hl [1, 2, 0] rfl)
        clear h hw hl; clear ls; intro R16 x hR16 h H locs ls hw hl
        obtain ⟨v13, M14⟩ := x
        replace hl : lv_has ls 3 [(0, .ref (o.2.1 5 p)), (1, .int v2), (2, .int v13)] := hl
        dsimp only at hw
        unfold w_X0_orderShortOnes_L59 at h
        dsimp only at h
        refine lv_iload_n hx hb dX0_orderShortOnes_59 rfl (lv_at hl 2 rfl) ?_
        refine g_if_le (tgt := 99) hx hb h dX0_orderShortOnes_60 (by decide) ?_ ?_
        · clear h; intro h
          exact hK15 (v13, M14) h _ _ _ hw (lv_sub hl [0, 1, 2] rfl)
        · clear h; intro h
          refine lv_aload_n hx hb dX0_orderShortOnes_63 rfl (lv_at hl 0 rfl) ?_
          refine lv_iload_n hx hb dX0_orderShortOnes_64 rfl (lv_at hl 1 rfl) ?_
          refine lv_aload_n hx hb dX0_orderShortOnes_65 rfl (lv_at hl 0 rfl) ?_
          refine g_getf hx hb hts in_X0 hown hw 5 p (ci_5 hp) (bi_5 hp hn) rfl rfl 6 (by decide) kX0_37 rfl dX0_orderShortOnes_66 ?_
          refine lv_iload_n hx hb dX0_orderShortOnes_69 rfl (lv_at hl 2 rfl) ?_
          refine lv_iconst (v := 1) hx hb dX0_orderShortOnes_70 (by decide) ?_
          refine lv_isub hx hb dX0_orderShortOnes_71 ?_
          refine g_iald hx hb hw 10 p (ci_10 hp) (bi_10 hp hn) rfl h dX0_orderShortOnes_72 ?_
          clear h; intro v17 h
          refine g_cz hw (g_runV (As := [.int v2, .int v17]) (rest := []) hx hb hml hown hts mX0_isStackedBefore vX0_isStackedBefore kX0_114 hw 5 p (ci_5 hp) (bi_5 hp hn) rfl rfl (c_X0_isStackedBefore hn hp h) rfl rfl ⟨Nat.le_of_ble_eq_true rfl, Nat.le_of_ble_eq_true rfl⟩ rfl hl.1 rfl (Nat.le_of_ble_eq_true rfl) dX0_orderShortOnes_73 ⟨Nat.zero_le _, Nat.zero_le _⟩) ?_
          clear h hw; intro v19 M18 H locs hw hz_v19 h
          refine g_if_eq (tgt := 99) hx hb h dX0_orderShortOnes_76 (by decide) ?_ ?_
          · clear h; intro h
            exact hK15 (v13, M18) h _ _ _ hw (lv_sub hl [0, 1, 2] rfl)
          · clear h; intro h
            refine lv_aload_n hx hb dX0_orderShortOnes_79 rfl (lv_at hl 0 rfl) ?_
            refine g_getf hx hb hts in_X0 hown hw 5 p (ci_5 hp) (bi_5 hp hn) rfl rfl 6 (by decide) kX0_37 rfl dX0_orderShortOnes_80 ?_
            refine lv_iload_n hx hb dX0_orderShortOnes_83 rfl (lv_at hl 2 rfl) ?_
            refine lv_aload_n hx hb dX0_orderShortOnes_84 rfl (lv_at hl 0 rfl) ?_
            refine g_getf hx hb hts in_X0 hown hw 5 p (ci_5 hp) (bi_5 hp hn) rfl rfl 6 (by decide) kX0_37 rfl dX0_orderShortOnes_85 ?_
            refine lv_iload_n hx hb dX0_orderShortOnes_88 rfl (lv_at hl 2 rfl) ?_
            refine lv_iconst (v := 1) hx hb dX0_orderShortOnes_89 (by decide) ?_
            refine lv_isub hx hb dX0_orderShortOnes_90 ?_
            refine g_iald hx hb hw 10 p (ci_10 hp) (bi_10 hp hn) rfl h dX0_orderShortOnes_91 ?_
            clear h; intro v20 h
            refine g_iast hx hb hw 10 p (ci_10 hp) (bi_10 hp hn) (fun _ => rfl) h dX0_orderShortOnes_92 ?_
            clear h hw; intro M21 H locs hw h
            refine g_iinc (k := 2) (v := (v13 + (-1 : Int32))) (lv' := fun v22 => [(2, .int v22), (0, .ref (o.2.1 5 p)), (1, .int v2)]) hx hb dX0_orderShortOnes_93 hl rfl rfl (by decide) (fun _ => rfl) h ?_
            clear h hl; clear ls; intro v22 ls h hl
            refine lv_goto (tgt := 59) hx hb dX0_orderShortOnes_96 (by decide) ?_
            exact hR16 (v22, M21) h _ _ _ hw (lv_sub hl [1, 2, 0] rfl)
abbrev rm_X0_stack : Room := { frames := 1, cells := 0, slots := 0, locals := 21 }
set_option maxHeartbeats 4000000 in
set_option maxRecDepth 100000 in
theorem c_X0_stack {o : Om} {l : Launch} (hn : 115 ≤ o.2.2.2) {p : Nat} (hp : p < 2) {M : Mm} {x1 : Int32} {Q : Mm → Prop} (h : w_X0_stack p M x1 Q) : CV o l yX0_stack cX0_stack 4 rm_X0_stack [.ref (o.2.1 5 p), .int x1] M Q := by
  refine g_start (by decide +kernel) (Nat.le_of_ble_eq_true rfl) ?_
  intro p' e s m args below meth c hx hb hr hlocks hml hown hts hw ls hl
  replace hl : lv_has ls 4 [(0, .ref (o.2.1 5 p)), (1, .int x1)] := hl
  unfold w_X0_stack at h
  refine lv_aload_n hx hb dX0_stack_0 rfl (lv_at hl 0 rfl) ?_
  refine g_getf hx hb hts in_X0 hown hw 5 p (ci_5 hp) (bi_5 hp hn) rfl rfl 0 (by decide) kX0_12 rfl dX0_stack_1 ?_
  refine g_getf hx hb hts in_X2 hown hw 11 p (ci_11 (Nat.lt_of_lt_of_le hp (by decide))) (bi_11 (Nat.lt_of_lt_of_le hp (by decide)) hn) rfl rfl 5 (by decide) kX0_93 rfl dX0_stack_4 ?_
  refine lv_iload_n hx hb dX0_stack_7 rfl (lv_at hl 1 rfl) ?_
  refine g_iald hx hb hw 13 p (ci_13 (Nat.lt_of_lt_of_le hp (by decide))) (bi_13 (Nat.lt_of_lt_of_le hp (by decide)) hn) rfl h dX0_stack_8 ?_
  clear h; intro v1 h
  refine lv_aload_n hx hb dX0_stack_9 rfl (lv_at hl 0 rfl) ?_
  refine g_getf hx hb hts in_X0 hown hw 5 p (ci_5 hp) (bi_5 hp hn) rfl rfl 0 (by decide) kX0_12 rfl dX0_stack_10 ?_
  refine g_getf hx hb hts in_X2 hown hw 11 p (ci_11 (Nat.lt_of_lt_of_le hp (by decide))) (bi_11 (Nat.lt_of_lt_of_le hp (by decide)) hn) rfl rfl 0 (by decide) kX0_63 rfl dX0_stack_13 ?_
  refine lv_isub hx hb dX0_stack_16 ?_
  refine g_topi h ?_
  clear h; intro v2 h
  refine lv_istore_n (lv' := [(2, .int v2), (0, .ref (o.2.1 5 p)), (1, .int x1)]) hx hb dX0_stack_17 rfl hl (by decide) rfl ?_
  clear hl; clear ls; intro ls hl
  refine lv_aload_n hx hb dX0_stack_18 rfl (lv_at hl 1 rfl) ?_
  refine g_getf hx hb hts in_X0 hown hw 5 p (ci_5 hp) (bi_5 hp hn) rfl rfl 5 (by decide) kX0_34 rfl dX0_stack_19 ?_
  refine lv_iload_n hx hb dX0_stack_22 rfl (lv_at hl 0 rfl) ?_
  refine g_iald hx hb hw 9 p (ci_9 hp) (bi_9 hp hn) rfl h dX0_stack_23 ?_
  clear h; intro v3 h
  refine g_ci hw (g_runS (As := [.int v3]) (rest := []) hx hb hml hown hts mX0_smallestFree sX0_smallestFree kX0_111 hw (c_X0_smallestFree hn h) rfl rfl ⟨Nat.le_of_ble_eq_true rfl, Nat.le_of_ble_eq_true rfl⟩ rfl hl.1 rfl (Nat.le_of_ble_eq_true rfl) dX0_stack_24 ⟨Nat.zero_le _, Nat.zero_le _⟩) ?_
  clear h hw; intro v5 M4 H locs hw h
  refine lv_istore_n (lv' := [(3, .int v5), (2, .int v2), (0, .ref (o.2.1 5 p)), (1, .int x1)]) hx hb dX0_stack_27 rfl hl (by decide) rfl ?_
  clear hl; clear ls; intro ls hl
  refine lv_aload_n hx hb dX0_stack_28 rfl (lv_at hl 2 rfl) ?_
  refine g_getf hx hb hts in_X0 hown hw 5 p (ci_5 hp) (bi_5 hp hn) rfl rfl 4 (by decide) kX0_31 rfl dX0_stack_29 ?_
  refine lv_iload_n hx hb dX0_stack_32 rfl (lv_at hl 3 rfl) ?_
  refine lv_iload_n hx hb dX0_stack_33 rfl (lv_at hl 0 rfl) ?_
  refine g_iast hx hb hw 8 p (ci_8 hp) (bi_8 hp hn) (fun _ => rfl) h dX0_stack_34 ?_
  clear h hw; intro M6 H locs hw h
  refine lv_aload_n hx hb dX0_stack_35 rfl (lv_at hl 2 rfl) ?_
  refine g_getf hx hb hts in_X0 hown hw 5 p (ci_5 hp) (bi_5 hp hn) rfl rfl 5 (by decide) kX0_34 rfl dX0_stack_36 ?_
  refine lv_iload_n hx hb dX0_stack_39 rfl (lv_at hl 1 rfl) ?_
  refine lv_dup2_11 hx hb dX0_stack_40 rfl rfl ?_
  refine g_iald hx hb hw 9 p (ci_9 hp) (bi_9 hp hn) rfl h dX0_stack_41 ?_
  clear h; intro v7 h
  refine lv_iconst (v := 1) hx hb dX0_stack_42 (by decide) ?_
  refine lv_iload_n hx hb dX0_stack_43 rfl (lv_at hl 0 rfl) ?_
  refine lv_ishl hx hb dX0_stack_44 ?_
  refine lv_ior hx hb dX0_stack_45 ?_
  refine g_iast hx hb hw 9 p (ci_9 hp) (bi_9 hp hn) (fun _ => rfl) h dX0_stack_46 ?_
  clear h hw; intro M8 H locs hw h
  exact g_vret hx hb hr hlocks hw h dX0_stack_47
abbrev rm_X0_lay : Room := { frames := 3, cells := 0, slots := 0, locals := 69 }
set_option maxHeartbeats 4000000 in
set_option maxRecDepth 100000 in
theorem c_X0_lay {o : Om} {l : Launch} (hn : 115 ≤ o.2.2.2) {p : Nat} (hp : p < 2) {M : Mm} {Q : Mm → Prop} (h : w_X0_lay p M Q) : CV o l yX0_lay cX0_lay 3 rm_X0_lay [.ref (o.2.1 5 p)] M Q := by
  refine g_start (by decide +kernel) (Nat.le_of_ble_eq_true rfl) ?_
  intro p' e s m args below meth c hx hb hr hlocks hml hown hts hw ls hl
  replace hl : lv_has ls 3 [(0, .ref (o.2.1 5 p))] := hl
  unfold w_X0_lay at h
  refine lv_aload_n hx hb dX0_lay_0 rfl (lv_at hl 0 rfl) ?_
  refine g_cv hw (g_runV (As := []) (rest := []) hx hb hml hown hts mX0_cutWeeks vX0_cutWeeks kX0_43 hw 5 p (ci_5 hp) (bi_5 hp hn) rfl rfl (c_X0_cutWeeks hn hp h) rfl rfl ⟨Nat.le_of_ble_eq_true rfl, Nat.le_of_ble_eq_true rfl⟩ rfl hl.1 rfl (Nat.le_of_ble_eq_true rfl) dX0_lay_1 ⟨Nat.zero_le _, Nat.zero_le _⟩) ?_
  clear h hw; intro M1 H locs hw h
  refine lv_aload_n hx hb dX0_lay_4 rfl (lv_at hl 0 rfl) ?_
  refine g_cv hw (g_runV (As := []) (rest := []) hx hb hml hown hts mX0_wipe vX0_wipe kX0_46 hw 5 p (ci_5 hp) (bi_5 hp hn) rfl rfl (c_X0_wipe hn hp h) rfl rfl ⟨Nat.le_of_ble_eq_true rfl, Nat.le_of_ble_eq_true rfl⟩ rfl hl.1 rfl (Nat.le_of_ble_eq_true rfl) dX0_lay_5 ⟨Nat.zero_le _, Nat.zero_le _⟩) ?_
  clear h hw; intro M2 H locs hw h
  refine lv_iconst (v := 0) hx hb dX0_lay_8 (by decide) ?_
  refine lv_istore_n (lv' := [(1, .int (0 : Int32)), (0, .ref (o.2.1 5 p))]) hx hb dX0_lay_9 rfl hl (by decide) rfl ?_
  clear hl; clear ls; intro ls hl
  obtain ⟨n, h⟩ := h
  refine letK_W (body := fun K => w_X0_lay_L10 p K) (fun (x : Int32 × Mm) => ∀ (H : Heap) (locs : List Loc) (ls : Array Slot), WO o (WA o) s s.heap H locs x.2 → lv_has ls 3 [(0, .ref (o.2.1 5 p))] → W p' l e rm_X0_lay s m args below meth c H locs 0 0 (MQ below (QV o Q) args s 0 0 (WA o)) (F0 m 56 ls [])) h ?_ ?_
  · clear h hw hl; clear ls; intro x h H locs ls hw hl
    obtain ⟨v18, M19⟩ := x
    replace hl : lv_has ls 3 [(0, .ref (o.2.1 5 p))] := hl
    dsimp only at h hw
    refine lv_aload_n hx hb dX0_lay_56 rfl (lv_at hl 0 rfl) ?_
    refine g_cv hw (g_runV (As := []) (rest := []) hx hb hml hown hts mX0_orderShortOnes vX0_orderShortOnes kX0_57 hw 5 p (ci_5 hp) (bi_5 hp hn) rfl rfl (c_X0_orderShortOnes hn hp h) rfl rfl ⟨Nat.le_of_ble_eq_true rfl, Nat.le_of_ble_eq_true rfl⟩ rfl hl.1 rfl (Nat.le_of_ble_eq_true rfl) dX0_lay_57 ⟨Nat.zero_le _, Nat.zero_le _⟩) ?_
    clear h hw; intro M20 H locs hw h
    refine lv_iconst (v := 0) hx hb dX0_lay_60 (by decide) ?_
    refine lv_istore_n (lv' := [(1, .int (0 : Int32)), (0, .ref (o.2.1 5 p))]) hx hb dX0_lay_61 rfl hl (by decide) rfl ?_
    clear hl; clear ls; intro ls hl
    obtain ⟨n, h⟩ := h
    refine letK_W (body := fun K => w_X0_lay_L62 p K) (fun (x : Int32 × Mm) => ∀ (H : Heap) (locs : List Loc) (ls : Array Slot), WO o (WA o) s s.heap H locs x.2 → lv_has ls 3 [] → W p' l e rm_X0_lay s m args below meth c H locs 0 0 (MQ below (QV o Q) args s 0 0 (WA o)) (F0 m 86 ls [])) h ?_ ?_
    · clear h hw hl; clear ls; intro x h H locs ls hw hl
      obtain ⟨v28, M29⟩ := x
      replace hl : lv_has ls 3 [] := hl
      dsimp only at h hw
      exact g_vret hx hb hr hlocks hw h dX0_lay_86
    clear h; intro K23 hK23 h
    refine loop_W (body := w_X0_lay_L62 p K23) (fun (x : Int32 × Mm) => ∀ (H : Heap) (locs : List Loc) (ls : Array Slot), WO o (WA o) s s.heap H locs x.2 → lv_has ls 3 [(0, .ref (o.2.1 5 p)), (1, .int x.1)] → W p' l e rm_X0_lay s m args below meth c H locs 0 0 (MQ below (QV o Q) args s 0 0 (WA o)) (F0 m 62 ls [])) ?_ n _ h _ _ _ hw (lv_sub hl [1, 0] rfl)
    clear h hw hl; clear ls; intro R24 x hR24 h H locs ls hw hl
    obtain ⟨v21, M22⟩ := x
    replace hl : lv_has ls 3 [(0, .ref (o.2.1 5 p)), (1, .int v21)] := hl
    dsimp only at hw
    unfold w_X0_lay_L62 at h
    dsimp only at h
    refine lv_iload_n hx hb dX0_lay_62 rfl (lv_at hl 1 rfl) ?_
    refine lv_aload_n hx hb dX0_lay_63 rfl (lv_at hl 0 rfl) ?_
    refine g_getf hx hb hts in_X0 hown hw 5 p (ci_5 hp) (bi_5 hp hn) rfl rfl 7 (by decide) kX0_40 rfl dX0_lay_64 ?_
    refine g_icmp_ge (tgt := 86) hx hb h dX0_lay_67 (by decide) ?_ ?_
    · clear h; intro h
      exact hK23 (v21, M22) h _ _ _ hw (lv_sub hl [] rfl)
    · clear h; intro h
      refine lv_aload_n hx hb dX0_lay_70 rfl (lv_at hl 0 rfl) ?_
      refine lv_aload_n hx hb dX0_lay_71 rfl (lv_at hl 0 rfl) ?_
      refine g_getf hx hb hts in_X0 hown hw 5 p (ci_5 hp) (bi_5 hp hn) rfl rfl 6 (by decide) kX0_37 rfl dX0_lay_72 ?_
      refine lv_iload_n hx hb dX0_lay_75 rfl (lv_at hl 1 rfl) ?_
      refine g_iald hx hb hw 10 p (ci_10 hp) (bi_10 hp hn) rfl h dX0_lay_76 ?_
      clear h; intro v25 h
      refine g_cv hw (g_runV (As := [.int v25]) (rest := []) hx hb hml hown hts mX0_stack vX0_stack kX0_60 hw 5 p (ci_5 hp) (bi_5 hp hn) rfl rfl (c_X0_stack hn hp h) rfl rfl ⟨Nat.le_of_ble_eq_true rfl, Nat.le_of_ble_eq_true rfl⟩ rfl hl.1 rfl (Nat.le_of_ble_eq_true rfl) dX0_lay_77 ⟨Nat.zero_le _, Nat.zero_le _⟩) ?_
      clear h hw; intro M26 H locs hw h
      refine g_iinc (k := 1) (v := (v21 + (1 : Int32))) (lv' := fun v27 => [(1, .int v27), (0, .ref (o.2.1 5 p))]) hx hb dX0_lay_80 hl rfl rfl (by decide) (fun _ => rfl) h ?_
      clear h hl; clear ls; intro v27 ls h hl
      refine lv_goto (tgt := 62) hx hb dX0_lay_83 (by decide) ?_
      exact hR24 (v27, M26) h _ _ _ hw (lv_sub hl [1, 0] rfl)
  clear h; intro K5 hK5 h
  refine loop_W (body := w_X0_lay_L10 p K5) (fun (x : Int32 × Mm) => ∀ (H : Heap) (locs : List Loc) (ls : Array Slot), WO o (WA o) s s.heap H locs x.2 → lv_has ls 3 [(0, .ref (o.2.1 5 p)), (1, .int x.1)] → W p' l e rm_X0_lay s m args below meth c H locs 0 0 (MQ below (QV o Q) args s 0 0 (WA o)) (F0 m 10 ls [])) ?_ n _ h _ _ _ hw (lv_sub hl [1, 0] rfl)
  clear h hw hl; clear ls; intro R6 x hR6 h H locs ls hw hl
  obtain ⟨v3, M4⟩ := x
  replace hl : lv_has ls 3 [(0, .ref (o.2.1 5 p)), (1, .int v3)] := hl
  dsimp only at hw
  unfold w_X0_lay_L10 at h
  dsimp only at h
  refine lv_iload_n hx hb dX0_lay_10 rfl (lv_at hl 1 rfl) ?_
  refine lv_aload_n hx hb dX0_lay_11 rfl (lv_at hl 0 rfl) ?_
  refine g_getf hx hb hts in_X0 hown hw 5 p (ci_5 hp) (bi_5 hp hn) rfl rfl 1 (by decide) kX0_18 rfl dX0_lay_12 ?_
  refine g_icmp_ge (tgt := 56) hx hb h dX0_lay_15 (by decide) ?_ ?_
  · clear h; intro h
    exact hK5 (v3, M4) h _ _ _ hw (lv_sub hl [0] rfl)
  · clear h; intro h
    refine lv_aload_n hx hb dX0_lay_18 rfl (lv_at hl 0 rfl) ?_
    refine lv_iload_n hx hb dX0_lay_19 rfl (lv_at hl 1 rfl) ?_
    refine g_cv hw (g_runV (As := [.int v3]) (rest := []) hx hb hml hown hts mX0_orderBars vX0_orderBars kX0_49 hw 5 p (ci_5 hp) (bi_5 hp hn) rfl rfl (c_X0_orderBars hn hp h) rfl rfl ⟨Nat.le_of_ble_eq_true rfl, Nat.le_of_ble_eq_true rfl⟩ rfl hl.1 rfl (Nat.le_of_ble_eq_true rfl) dX0_lay_20 ⟨Nat.zero_le _, Nat.zero_le _⟩) ?_
    clear h hw; intro M7 H locs hw h
    refine lv_iconst (v := 0) hx hb dX0_lay_23 (by decide) ?_
    refine lv_istore_n (lv' := [(2, .int (0 : Int32)), (0, .ref (o.2.1 5 p)), (1, .int v3)]) hx hb dX0_lay_24 rfl hl (by decide) rfl ?_
    clear hl; clear ls; intro ls hl
    obtain ⟨n, h⟩ := h
    refine letK_W (body := fun K => w_X0_lay_L25 p v3 K) (fun (x : Int32 × Mm) => ∀ (H : Heap) (locs : List Loc) (ls : Array Slot), WO o (WA o) s s.heap H locs x.2 → lv_has ls 3 [(0, .ref (o.2.1 5 p)), (1, .int v3)] → W p' l e rm_X0_lay s m args below meth c H locs 0 0 (MQ below (QV o Q) args s 0 0 (WA o)) (F0 m 50 ls [])) h ?_ ?_
    · clear h hw hl; clear ls; intro x h H locs ls hw hl
      obtain ⟨v15, M16⟩ := x
      replace hl : lv_has ls 3 [(0, .ref (o.2.1 5 p)), (1, .int v3)] := hl
      dsimp only at h hw
      refine g_iinc (k := 1) (v := (v3 + (1 : Int32))) (lv' := fun v17 => [(1, .int v17), (0, .ref (o.2.1 5 p))]) hx hb dX0_lay_50 hl rfl rfl (by decide) (fun _ => rfl) h ?_
      clear h hl; clear ls; intro v17 ls h hl
      refine lv_goto (tgt := 10) hx hb dX0_lay_53 (by decide) ?_
      exact hR6 (v17, M16) h _ _ _ hw (lv_sub hl [1, 0] rfl)
    clear h; intro K10 hK10 h
    refine loop_W (body := w_X0_lay_L25 p v3 K10) (fun (x : Int32 × Mm) => ∀ (H : Heap) (locs : List Loc) (ls : Array Slot), WO o (WA o) s s.heap H locs x.2 → lv_has ls 3 [(0, .ref (o.2.1 5 p)), (1, .int v3), (2, .int x.1)] → W p' l e rm_X0_lay s m args below meth c H locs 0 0 (MQ below (QV o Q) args s 0 0 (WA o)) (F0 m 25 ls [])) ?_ n _ h _ _ _ hw (lv_sub hl [1, 2, 0] rfl)
    clear h hw hl; clear ls; intro R11 x hR11 h H locs ls hw hl
    obtain ⟨v8, M9⟩ := x
    replace hl : lv_has ls 3 [(0, .ref (o.2.1 5 p)), (1, .int v3), (2, .int v8)] := hl
    dsimp only at hw
    unfold w_X0_lay_L25 at h
    dsimp only at h
    refine lv_iload_n hx hb dX0_lay_25 rfl (lv_at hl 2 rfl) ?_
    refine lv_aload_n hx hb dX0_lay_26 rfl (lv_at hl 0 rfl) ?_
    refine g_getf hx hb hts in_X0 hown hw 5 p (ci_5 hp) (bi_5 hp hn) rfl rfl 7 (by decide) kX0_40 rfl dX0_lay_27 ?_
    refine g_icmp_ge (tgt := 50) hx hb h dX0_lay_30 (by decide) ?_ ?_
    · clear h; intro h
      exact hK10 (v8, M9) h _ _ _ hw (lv_sub hl [0, 1] rfl)
    · clear h; intro h
      refine lv_aload_n hx hb dX0_lay_33 rfl (lv_at hl 0 rfl) ?_
      refine lv_aload_n hx hb dX0_lay_34 rfl (lv_at hl 0 rfl) ?_
      refine g_getf hx hb hts in_X0 hown hw 5 p (ci_5 hp) (bi_5 hp hn) rfl rfl 6 (by decide) kX0_37 rfl dX0_lay_35 ?_
      refine lv_iload_n hx hb dX0_lay_38 rfl (lv_at hl 2 rfl) ?_
      refine g_iald hx hb hw 10 p (ci_10 hp) (bi_10 hp hn) rfl h dX0_lay_39 ?_
      clear h; intro v12 h
      refine lv_iload_n hx hb dX0_lay_40 rfl (lv_at hl 1 rfl) ?_
      refine g_cv hw (g_runV (As := [.int v12, .int v3]) (rest := []) hx hb hml hown hts mX0_layBar vX0_layBar kX0_53 hw 5 p (ci_5 hp) (bi_5 hp hn) rfl rfl (c_X0_layBar hn hp h) rfl rfl ⟨Nat.le_of_ble_eq_true rfl, Nat.le_of_ble_eq_true rfl⟩ rfl hl.1 rfl (Nat.le_of_ble_eq_true rfl) dX0_lay_41 ⟨Nat.zero_le _, Nat.zero_le _⟩) ?_
      clear h hw; intro M13 H locs hw h
      refine g_iinc (k := 2) (v := (v8 + (1 : Int32))) (lv' := fun v14 => [(2, .int v14), (0, .ref (o.2.1 5 p)), (1, .int v3)]) hx hb dX0_lay_44 hl rfl rfl (by decide) (fun _ => rfl) h ?_
      clear h hl; clear ls; intro v14 ls h hl
      refine lv_goto (tgt := 25) hx hb dX0_lay_47 (by decide) ?_
      exact hR11 (v14, M13) h _ _ _ hw (lv_sub hl [1, 2, 0] rfl)
