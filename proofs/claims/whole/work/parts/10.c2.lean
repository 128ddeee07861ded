abbrev rm_X3_append : Room := { frames := 0, cells := 0, slots := 0, locals := 0 }
set_option maxHeartbeats 4000000 in
set_option maxRecDepth 100000 in
theorem c_X3_append {o : Om} {l : Launch} (hn : 115 ≤ o.2.2.2) {M : Mm} {x1 : Int32} {Q : Mm → Prop} (h : w_X3_append M x1 Q) : CV o l yX3_append cX3_append 2 rm_X3_append [.ref (o.2.1 3 0), .int x1] M Q := by
  refine g_start (by decide +kernel) (Nat.le_of_ble_eq_true rfl) ?_
  intro p e s m args below meth c hx hb hr hlocks hml hown hts hw ls hl
  replace hl : lv_has ls 2 [(0, .ref (o.2.1 3 0)), (1, .int x1)] := hl
  unfold w_X3_append at h
  refine lv_aload_n hx hb dX3_append_0 rfl (lv_at hl 0 rfl) ?_
  refine g_getf hx hb hts in_X3 hown hw 3 0 (ci_3 (by decide)) (bi_3 (by decide) hn) rfl rfl 1 (by decide) kX3_15 rfl dX3_append_1 ?_
  refine lv_bipush (v := 100) hx hb dX3_append_4 (by decide) ?_
  refine g_icmp_ge (tgt := 29) hx hb h dX3_append_6 (by decide) ?_ ?_
  · clear h; intro h
    exact g_vret hx hb hr hlocks hw h dX3_append_29
  · clear h; intro h
    refine lv_aload_n hx hb dX3_append_9 rfl (lv_at hl 0 rfl) ?_
    refine g_getf hx hb hts in_X3 hown hw 3 0 (ci_3 (by decide)) (bi_3 (by decide) hn) rfl rfl 0 (by decide) kX3_9 rfl dX3_append_10 ?_
    refine lv_aload_n hx hb dX3_append_13 rfl (lv_at hl 0 rfl) ?_
    refine g_getf hx hb hts in_X3 hown hw 3 0 (ci_3 (by decide)) (bi_3 (by decide) hn) rfl rfl 1 (by decide) kX3_15 rfl dX3_append_14 ?_
    refine lv_iload_n hx hb dX3_append_17 rfl (lv_at hl 1 rfl) ?_
    refine g_iast hx hb hw 4 0 (ci_4 (by decide)) (bi_4 (by decide) hn) (fun _ => rfl) h dX3_append_18 ?_
    clear h hw; intro M1 H locs hw h
    refine lv_aload_n hx hb dX3_append_19 rfl (lv_at hl 0 rfl) ?_
    refine lv_dup hx hb dX3_append_20 rfl ?_
    refine g_getf hx hb hts in_X3 hown hw 3 0 (ci_3 (by decide)) (bi_3 (by decide) hn) rfl rfl 1 (by decide) kX3_15 rfl dX3_append_21 ?_
    refine lv_iconst (v := 1) hx hb dX3_append_24 (by decide) ?_
    refine lv_iadd hx hb dX3_append_25 ?_
    refine g_putf hx hb hts in_X3 tyX3 tyX3_ok nmX3 hown hw 3 0 (ci_3 (by decide)) (bi_3 (by decide) hn) rfl 1 (by decide) rfl rfl kX3_15 (by decide +kernel) (by decide +kernel) (by simp) h dX3_append_26 ?_
    clear h hw; intro M2 H locs hw h
    exact g_vret hx hb hr hlocks hw h dX3_append_29
abbrev rm_X3_isAtDigit : Room := { frames := 0, cells := 0, slots := 0, locals := 0 }
set_option maxHeartbeats 4000000 in
set_option maxRecDepth 100000 in
theorem c_X3_isAtDigit {o : Om} {l : Launch} (hn : 115 ≤ o.2.2.2) {M : Mm} {Q : Int32 → Mm → Prop} (h : w_X3_isAtDigit M Q) : CZ o l yX3_isAtDigit cX3_isAtDigit 1 rm_X3_isAtDigit [.ref (o.2.1 3 0)] M Q := by
  refine g_start (by decide +kernel) (Nat.le_of_ble_eq_true rfl) ?_
  intro p e s m args below meth c hx hb hr hlocks hml hown hts hw ls hl
  replace hl : lv_has ls 1 [(0, .ref (o.2.1 3 0))] := hl
  unfold w_X3_isAtDigit at h
  refine lv_aload_n hx hb dX3_isAtDigit_0 rfl (lv_at hl 0 rfl) ?_
  refine g_getf hx hb hts in_X3 hown hw 3 0 (ci_3 (by decide)) (bi_3 (by decide) hn) rfl rfl 3 (by decide) kX3_22 rfl dX3_isAtDigit_1 ?_
  refine lv_iconst (v := (-1)) hx hb dX3_isAtDigit_4 (by decide) ?_
  refine g_icmp_ne (tgt := 51) hx hb h dX3_isAtDigit_5 (by decide) ?_ ?_
  · clear h; intro h
    refine lv_iconst (v := 0) hx hb dX3_isAtDigit_51 (by decide) ?_
    exact g_zret hx hb hr hlocks hw (Or.inl rfl) h dX3_isAtDigit_52
  · clear h; intro h
    refine lv_aload_n hx hb dX3_isAtDigit_8 rfl (lv_at hl 0 rfl) ?_
    refine g_getf hx hb hts in_X3 hown hw 3 0 (ci_3 (by decide)) (bi_3 (by decide) hn) rfl rfl 2 (by decide) kX3_19 rfl dX3_isAtDigit_9 ?_
    refine lv_aload_n hx hb dX3_isAtDigit_12 rfl (lv_at hl 0 rfl) ?_
    refine g_getf hx hb hts in_X3 hown hw 3 0 (ci_3 (by decide)) (bi_3 (by decide) hn) rfl rfl 1 (by decide) kX3_15 rfl dX3_isAtDigit_13 ?_
    refine g_icmp_ge (tgt := 51) hx hb h dX3_isAtDigit_16 (by decide) ?_ ?_
    · clear h; intro h
      refine lv_iconst (v := 0) hx hb dX3_isAtDigit_51 (by decide) ?_
      exact g_zret hx hb hr hlocks hw (Or.inl rfl) h dX3_isAtDigit_52
    · clear h; intro h
      refine lv_aload_n hx hb dX3_isAtDigit_19 rfl (lv_at hl 0 rfl) ?_
      refine g_getf hx hb hts in_X3 hown hw 3 0 (ci_3 (by decide)) (bi_3 (by decide) hn) rfl rfl 0 (by decide) kX3_9 rfl dX3_isAtDigit_20 ?_
      refine lv_aload_n hx hb dX3_isAtDigit_23 rfl (lv_at hl 0 rfl) ?_
      refine g_getf hx hb hts in_X3 hown hw 3 0 (ci_3 (by decide)) (bi_3 (by decide) hn) rfl rfl 2 (by decide) kX3_19 rfl dX3_isAtDigit_24 ?_
      refine g_iald hx hb hw 4 0 (ci_4 (by decide)) (bi_4 (by decide) hn) rfl h dX3_isAtDigit_27 ?_
      clear h; intro v1 h
      refine lv_bipush (v := 48) hx hb dX3_isAtDigit_28 (by decide) ?_
      refine g_icmp_lt (tgt := 51) hx hb h dX3_isAtDigit_30 (by decide) ?_ ?_
      · clear h; intro h
        refine lv_iconst (v := 0) hx hb dX3_isAtDigit_51 (by decide) ?_
        exact g_zret hx hb hr hlocks hw (Or.inl rfl) h dX3_isAtDigit_52
      · clear h; intro h
        refine lv_aload_n hx hb dX3_isAtDigit_33 rfl (lv_at hl 0 rfl) ?_
        refine g_getf hx hb hts in_X3 hown hw 3 0 (ci_3 (by decide)) (bi_3 (by decide) hn) rfl rfl 0 (by decide) kX3_9 rfl dX3_isAtDigit_34 ?_
        refine lv_aload_n hx hb dX3_isAtDigit_37 rfl (lv_at hl 0 rfl) ?_
        refine g_getf hx hb hts in_X3 hown hw 3 0 (ci_3 (by decide)) (bi_3 (by decide) hn) rfl rfl 2 (by decide) kX3_19 rfl dX3_isAtDigit_38 ?_
        refine g_iald hx hb hw 4 0 (ci_4 (by decide)) (bi_4 (by decide) hn) rfl h dX3_isAtDigit_41 ?_
        clear h; intro v2 h
        refine lv_bipush (v := 57) hx hb dX3_isAtDigit_42 (by decide) ?_
        refine g_icmp_gt (tgt := 51) hx hb h dX3_isAtDigit_44 (by decide) ?_ ?_
        · clear h; intro h
          refine lv_iconst (v := 0) hx hb dX3_isAtDigit_51 (by decide) ?_
          exact g_zret hx hb hr hlocks hw (Or.inl rfl) h dX3_isAtDigit_52
        · clear h; intro h
          refine lv_iconst (v := 1) hx hb dX3_isAtDigit_47 (by decide) ?_
          refine lv_goto (tgt := 52) hx hb dX3_isAtDigit_48 (by decide) ?_
          exact g_zret hx hb hr hlocks hw (Or.inr rfl) h dX3_isAtDigit_52
abbrev rm_X3_refuseHere : Room := { frames := 0, cells := 0, slots := 0, locals := 0 }
set_option maxHeartbeats 4000000 in
set_option maxRecDepth 100000 in
theorem c_X3_refuseHere {o : Om} {l : Launch} (hn : 115 ≤ o.2.2.2) {M : Mm} {Q : Mm → Prop} (h : w_X3_refuseHere M Q) : CV o l yX3_refuseHere cX3_refuseHere 1 rm_X3_refuseHere [.ref (o.2.1 3 0)] M Q := by
  refine g_start (by decide +kernel) (Nat.le_of_ble_eq_true rfl) ?_
  intro p e s m args below meth c hx hb hr hlocks hml hown hts hw ls hl
  replace hl : lv_has ls 1 [(0, .ref (o.2.1 3 0))] := hl
  unfold w_X3_refuseHere at h
  refine lv_aload_n hx hb dX3_refuseHere_0 rfl (lv_at hl 0 rfl) ?_
  refine g_getf hx hb hts in_X3 hown hw 3 0 (ci_3 (by decide)) (bi_3 (by decide) hn) rfl rfl 3 (by decide) kX3_22 rfl dX3_refuseHere_1 ?_
  refine lv_iconst (v := (-1)) hx hb dX3_refuseHere_4 (by decide) ?_
  refine g_icmp_ne (tgt := 16) hx hb h dX3_refuseHere_5 (by decide) ?_ ?_
  · clear h; intro h
    exact g_vret hx hb hr hlocks hw h dX3_refuseHere_16
  · clear h; intro h
    refine lv_aload_n hx hb dX3_refuseHere_8 rfl (lv_at hl 0 rfl) ?_
    refine lv_aload_n hx hb dX3_refuseHere_9 rfl (lv_at hl 0 rfl) ?_
    refine g_getf hx hb hts in_X3 hown hw 3 0 (ci_3 (by decide)) (bi_3 (by decide) hn) rfl rfl 2 (by decide) kX3_19 rfl dX3_refuseHere_10 ?_
    refine g_putf hx hb hts in_X3 tyX3 tyX3_ok nmX3 hown hw 3 0 (ci_3 (by decide)) (bi_3 (by decide) hn) rfl 3 (by decide) rfl rfl kX3_22 (by decide +kernel) (by decide +kernel) (by simp) h dX3_refuseHere_13 ?_
    clear h hw; intro M1 H locs hw h
    exact g_vret hx hb hr hlocks hw h dX3_refuseHere_16
abbrev rm_X3_readDigit : Room := { frames := 1, cells := 0, slots := 0, locals := 20 }
set_option maxHeartbeats 4000000 in
set_option maxRecDepth 100000 in
theorem c_X3_readDigit {o : Om} {l : Launch} (hn : 115 ≤ o.2.2.2) {M : Mm} {Q : Int32 → Mm → Prop} (h : w_X3_readDigit M Q) : CI o l yX3_readDigit cX3_readDigit 1 rm_X3_readDigit [.ref (o.2.1 3 0)] M Q := by
  refine g_start (by decide +kernel) (Nat.le_of_ble_eq_true rfl) ?_
  intro p e s m args below meth c hx hb hr hlocks hml hown hts hw ls hl
  replace hl : lv_has ls 1 [(0, .ref (o.2.1 3 0))] := hl
  unfold w_X3_readDigit at h
  refine lv_aload_n hx hb dX3_readDigit_0 rfl (lv_at hl 0 rfl) ?_
  refine g_cz hw (g_runV (As := []) (rest := []) hx hb hml hown hts mX3_isAtDigit vX3_isAtDigit kX3_60 hw 3 0 (ci_3 (by decide)) (bi_3 (by decide) hn) rfl rfl (c_X3_isAtDigit hn h) rfl rfl ⟨Nat.le_of_ble_eq_true rfl, Nat.le_of_ble_eq_true rfl⟩ rfl hl.1 rfl (Nat.le_of_ble_eq_true rfl) dX3_readDigit_1 ⟨Nat.zero_le _, Nat.zero_le _⟩) ?_
  clear h hw; intro v2 M1 H locs hw hz_v2 h
  refine g_if_eq (tgt := 32) hx hb h dX3_readDigit_4 (by decide) ?_ ?_
  · clear h; intro h
    refine lv_aload_n hx hb dX3_readDigit_32 rfl (lv_at hl 0 rfl) ?_
    refine g_cv hw (g_runV (As := []) (rest := []) hx hb hml hown hts mX3_refuseHere vX3_refuseHere kX3_68 hw 3 0 (ci_3 (by decide)) (bi_3 (by decide) hn) rfl rfl (c_X3_refuseHere hn h) rfl rfl ⟨Nat.le_of_ble_eq_true rfl, Nat.le_of_ble_eq_true rfl⟩ rfl hl.1 rfl (Nat.le_of_ble_eq_true rfl) dX3_readDigit_33 ⟨Nat.zero_le _, Nat.zero_le _⟩) ?_
    clear h hw; intro M3 H locs hw h
    refine lv_iconst (v := 0) hx hb dX3_readDigit_36 (by decide) ?_
    exact g_iret hx hb hr hlocks hw h dX3_readDigit_37
  · clear h; intro h
    refine lv_aload_n hx hb dX3_readDigit_7 rfl (lv_at hl 0 rfl) ?_
    refine lv_dup hx hb dX3_readDigit_8 rfl ?_
    refine g_getf hx hb hts in_X3 hown hw 3 0 (ci_3 (by decide)) (bi_3 (by decide) hn) rfl rfl 2 (by decide) kX3_19 rfl dX3_readDigit_9 ?_
    refine lv_iconst (v := 1) hx hb dX3_readDigit_12 (by decide) ?_
    refine lv_iadd hx hb dX3_readDigit_13 ?_
    refine g_putf hx hb hts in_X3 tyX3 tyX3_ok nmX3 hown hw 3 0 (ci_3 (by decide)) (bi_3 (by decide) hn) rfl 2 (by decide) rfl rfl kX3_19 (by decide +kernel) (by decide +kernel) (by simp) h dX3_readDigit_14 ?_
    clear h hw; intro M4 H locs hw h
    refine lv_aload_n hx hb dX3_readDigit_17 rfl (lv_at hl 0 rfl) ?_
    refine g_getf hx hb hts in_X3 hown hw 3 0 (ci_3 (by decide)) (bi_3 (by decide) hn) rfl rfl 0 (by decide) kX3_9 rfl dX3_readDigit_18 ?_
    refine lv_aload_n hx hb dX3_readDigit_21 rfl (lv_at hl 0 rfl) ?_
    refine g_getf hx hb hts in_X3 hown hw 3 0 (ci_3 (by decide)) (bi_3 (by decide) hn) rfl rfl 2 (by decide) kX3_19 rfl dX3_readDigit_22 ?_
    refine lv_iconst (v := 1) hx hb dX3_readDigit_25 (by decide) ?_
    refine lv_isub hx hb dX3_readDigit_26 ?_
    refine g_iald hx hb hw 4 0 (ci_4 (by decide)) (bi_4 (by decide) hn) rfl h dX3_readDigit_27 ?_
    clear h; intro v5 h
    refine lv_bipush (v := 48) hx hb dX3_readDigit_28 (by decide) ?_
    refine lv_isub hx hb dX3_readDigit_30 ?_
    exact g_iret hx hb hr hlocks hw h dX3_readDigit_31
abbrev rm_X3_readDay : Room := { frames := 2, cells := 0, slots := 0, locals := 40 }
set_option maxHeartbeats 4000000 in
set_option maxRecDepth 100000 in
theorem c_X3_readDay {o : Om} {l : Launch} (hn : 115 ≤ o.2.2.2) {M : Mm} {Q : Int32 → Mm → Prop} (h : w_X3_readDay M Q) : CI o l yX3_readDay cX3_readDay 3 rm_X3_readDay [.ref (o.2.1 3 0)] M Q := by
  refine g_start (by decide +kernel) (Nat.le_of_ble_eq_true rfl) ?_
  intro p e s m args below meth c hx hb hr hlocks hml hown hts hw ls hl
  replace hl : lv_has ls 3 [(0, .ref (o.2.1 3 0))] := hl
  unfold w_X3_readDay at h
  refine lv_aload_n hx hb dX3_readDay_0 rfl (lv_at hl 0 rfl) ?_
  refine g_ci hw (g_runV (As := []) (rest := []) hx hb hml hown hts mX3_readDigit vX3_readDigit kX3_49 hw 3 0 (ci_3 (by decide)) (bi_3 (by decide) hn) rfl rfl (c_X3_readDigit hn h) rfl rfl ⟨Nat.le_of_ble_eq_true rfl, Nat.le_of_ble_eq_true rfl⟩ rfl hl.1 rfl (Nat.le_of_ble_eq_true rfl) dX3_readDay_1 ⟨Nat.zero_le _, Nat.zero_le _⟩) ?_
  clear h hw; intro v2 M1 H locs hw h
  refine lv_istore_n (lv' := [(1, .int v2), (0, .ref (o.2.1 3 0))]) hx hb dX3_readDay_4 rfl hl (by decide) rfl ?_
  clear hl; clear ls; intro ls hl
  refine lv_iconst (v := 1) hx hb dX3_readDay_5 (by decide) ?_
  refine lv_istore_n (lv' := [(2, .int (1 : Int32)), (1, .int v2), (0, .ref (o.2.1 3 0))]) hx hb dX3_readDay_6 rfl hl (by decide) rfl ?_
  clear hl; clear ls; intro ls hl
  obtain ⟨n, h⟩ := h
  refine letK_W (body := fun K => w_X3_readDay_L7 K) (fun (x : Int32 × Int32 × Mm) => ∀ (H : Heap) (locs : List Loc) (ls : Array Slot), WO o (WA o) s s.heap H locs x.2.2 → lv_has ls 3 [(0, .ref (o.2.1 3 0)), (1, .int x.1)] → W p l e rm_X3_readDay s m args below meth c H locs 0 0 (MQ below (QI o Q) args s 0 0 (WA o)) (F0 m 35 ls [])) h ?_ ?_
  · clear h hw hl; clear ls; intro x h H locs ls hw hl
    obtain ⟨v14, v15, M16⟩ := x
    replace hl : lv_has ls 3 [(0, .ref (o.2.1 3 0)), (1, .int v14)] := hl
    dsimp only at h hw
    refine lv_aload_n hx hb dX3_readDay_35 rfl (lv_at hl 0 rfl) ?_
    refine g_cz hw (g_runV (As := []) (rest := []) hx hb hml hown hts mX3_isAtDigit vX3_isAtDigit kX3_60 hw 3 0 (ci_3 (by decide)) (bi_3 (by decide) hn) rfl rfl (c_X3_isAtDigit hn h) rfl rfl ⟨Nat.le_of_ble_eq_true rfl, Nat.le_of_ble_eq_true rfl⟩ rfl hl.1 rfl (Nat.le_of_ble_eq_true rfl) dX3_readDay_36 ⟨Nat.zero_le _, Nat.zero_le _⟩) ?_
    clear h hw; intro v18 M17 H locs hw hz_v18 h
    refine g_if_eq (tgt := 50) hx hb h dX3_readDay_39 (by decide) ?_ ?_
    · clear h; intro h
      refine lv_iload_n hx hb dX3_readDay_50 rfl (lv_at hl 1 rfl) ?_
      exact g_iret hx hb hr hlocks hw h dX3_readDay_51
    · clear h; intro h
      refine lv_aload_n hx hb dX3_readDay_42 rfl (lv_at hl 0 rfl) ?_
      refine lv_aload_n hx hb dX3_readDay_43 rfl (lv_at hl 0 rfl) ?_
      refine g_getf hx hb hts in_X3 hown hw 3 0 (ci_3 (by decide)) (bi_3 (by decide) hn) rfl rfl 2 (by decide) kX3_19 rfl dX3_readDay_44 ?_
      refine g_putf hx hb hts in_X3 tyX3 tyX3_ok nmX3 hown hw 3 0 (ci_3 (by decide)) (bi_3 (by decide) hn) rfl 3 (by decide) rfl rfl kX3_22 (by decide +kernel) (by decide +kernel) (by simp) h dX3_readDay_47 ?_
      clear h hw; intro M19 H locs hw h
      refine lv_iload_n hx hb dX3_readDay_50 rfl (lv_at hl 1 rfl) ?_
      exact g_iret hx hb hr hlocks hw h dX3_readDay_51
  clear h; intro K6 hK6 h
  refine loop_W (body := w_X3_readDay_L7 K6) (fun (x : Int32 × Int32 × Mm) => ∀ (H : Heap) (locs : List Loc) (ls : Array Slot), WO o (WA o) s s.heap H locs x.2.2 → lv_has ls 3 [(0, .ref (o.2.1 3 0)), (1, .int x.1), (2, .int x.2.1)] → W p l e rm_X3_readDay s m args below meth c H locs 0 0 (MQ below (QI o Q) args s 0 0 (WA o)) (F0 m 7 ls [])) ?_ n _ h _ _ _ hw (lv_sub hl [2, 1, 0] rfl)
  clear h hw hl; clear ls; intro R7 x hR7 h H locs ls hw hl
  obtain ⟨v3, v4, M5⟩ := x
  replace hl : lv_has ls 3 [(0, .ref (o.2.1 3 0)), (1, .int v3), (2, .int v4)] := hl
  dsimp only at hw
  unfold w_X3_readDay_L7 at h
  dsimp only at h
  refine lv_iload_n hx hb dX3_readDay_7 rfl (lv_at hl 2 rfl) ?_
  refine lv_iconst (v := 3) hx hb dX3_readDay_8 (by decide) ?_
  refine g_icmp_ge (tgt := 35) hx hb h dX3_readDay_9 (by decide) ?_ ?_
  · clear h; intro h
    exact hK6 (v3, v4, M5) h _ _ _ hw (lv_sub hl [0, 1] rfl)
  · clear h; intro h
    refine lv_aload_n hx hb dX3_readDay_12 rfl (lv_at hl 0 rfl) ?_
    refine g_cz hw (g_runV (As := []) (rest := []) hx hb hml hown hts mX3_isAtDigit vX3_isAtDigit kX3_60 hw 3 0 (ci_3 (by decide)) (bi_3 (by decide) hn) rfl rfl (c_X3_isAtDigit hn h) rfl rfl ⟨Nat.le_of_ble_eq_true rfl, Nat.le_of_ble_eq_true rfl⟩ rfl hl.1 rfl (Nat.le_of_ble_eq_true rfl) dX3_readDay_13 ⟨Nat.zero_le _, Nat.zero_le _⟩) ?_
    clear h hw; intro v9 M8 H locs hw hz_v9 h
    refine g_if_eq (tgt := 35) hx hb h dX3_readDay_16 (by decide) ?_ ?_
    · clear h; intro h
      exact hK6 (v3, v4, M8) h _ _ _ hw (lv_sub hl [0, 1] rfl)
    · clear h; intro h
      refine lv_bipush (v := 10) hx hb dX3_readDay_19 (by decide) ?_
      refine lv_iload_n hx hb dX3_readDay_21 rfl (lv_at hl 1 rfl) ?_
      refine lv_imul hx hb dX3_readDay_22 ?_
      refine lv_aload_n hx hb dX3_readDay_23 rfl (lv_at hl 0 rfl) ?_
      refine g_ci hw (g_runV (As := []) (rest := [.int ((10 : Int32) * v3)]) hx hb hml hown hts mX3_readDigit vX3_readDigit kX3_49 hw 3 0 (ci_3 (by decide)) (bi_3 (by decide) hn) rfl rfl (c_X3_readDigit hn h) rfl rfl ⟨Nat.le_of_ble_eq_true rfl, Nat.le_of_ble_eq_true rfl⟩ rfl hl.1 rfl (Nat.le_of_ble_eq_true rfl) dX3_readDay_24 ⟨Nat.zero_le _, Nat.zero_le _⟩) ?_
      clear h hw; intro v11 M10 H locs hw h
      refine lv_iadd hx hb dX3_readDay_27 ?_
      refine g_topi h ?_
      clear h; intro v12 h
      refine lv_istore_n (lv' := [(1, .int v12), (0, .ref (o.2.1 3 0)), (2, .int v4)]) hx hb dX3_readDay_28 rfl hl (by decide) rfl ?_
      clear hl; clear ls; intro ls hl
      refine g_iinc (k := 2) (v := (v4 + (1 : Int32))) (lv' := fun v13 => [(2, .int v13), (1, .int v12), (0, .ref (o.2.1 3 0))]) hx hb dX3_readDay_29 hl rfl rfl (by decide) (fun _ => rfl) h ?_
      clear h hl; clear ls; intro v13 ls h hl
      refine lv_goto (tgt := 7) hx hb dX3_readDay_32 (by decide) ?_
      exact hR7 (v12, v13, M10) h _ _ _ hw (lv_sub hl [2, 1, 0] rfl)
abbrev rm_X3_passes : Room := { frames := 0, cells := 0, slots := 0, locals := 0 }
set_option maxHeartbeats 4000000 in
set_option maxRecDepth 100000 in
theorem c_X3_passes {o : Om} {l : Launch} (hn : 115 ≤ o.2.2.2) {M : Mm} {x1 : Int32} {Q : Int32 → Mm → Prop} (h : w_X3_passes M x1 Q) : CZ o l yX3_passes cX3_passes 3 rm_X3_passes [.ref (o.2.1 3 0), .int x1] M Q := by
  refine g_start (by decide +kernel) (Nat.le_of_ble_eq_true rfl) ?_
  intro p e s m args below meth c hx hb hr hlocks hml hown hts hw ls hl
  replace hl : lv_has ls 3 [(0, .ref (o.2.1 3 0)), (1, .int x1)] := hl
  unfold w_X3_passes at h
  refine lv_aload_n hx hb dX3_passes_0 rfl (lv_at hl 0 rfl) ?_
  refine g_getf hx hb hts in_X3 hown hw 3 0 (ci_3 (by decide)) (bi_3 (by decide) hn) rfl rfl 3 (by decide) kX3_22 rfl dX3_passes_1 ?_
  refine lv_iconst (v := (-1)) hx hb dX3_passes_4 (by decide) ?_
  refine letJ_W (fun (x : Int32) => ∀ (H : Heap) (locs : List Loc) (ls : Array Slot), WO o (WA o) s s.heap H locs M → lv_has ls 3 [(0, .ref (o.2.1 3 0))] → W p l e rm_X3_passes s m args below meth c H locs 0 0 (MQ below (QZ o Q) args s 0 0 (WA o)) (F0 m 37 ls [.int x])) h ?_ ?_
  · clear h hw hl; clear ls; intro x h H locs ls hw hl
    obtain ⟨v1, rfl⟩ : ∃ z, z = x := ⟨_, rfl⟩
    replace hl : lv_has ls 3 [(0, .ref (o.2.1 3 0))] := hl
    refine lv_istore_n (lv' := [(2, .int v1), (0, .ref (o.2.1 3 0))]) hx hb dX3_passes_37 rfl hl (by decide) rfl ?_
    clear hl; clear ls; intro ls hl
    refine lv_iload_n hx hb dX3_passes_38 rfl (lv_at hl 0 rfl) ?_
    refine g_if_eq (tgt := 52) hx hb h dX3_passes_39 (by decide) ?_ ?_
    · clear h; intro h
      refine lv_iload_n hx hb dX3_passes_52 rfl (lv_at hl 0 rfl) ?_
      exact g_zret hx hb hr hlocks hw h.1 h.2 dX3_passes_53
    · clear h; intro h
      refine lv_aload_n hx hb dX3_passes_42 rfl (lv_at hl 1 rfl) ?_
      refine lv_dup hx hb dX3_passes_43 rfl ?_
      refine g_getf hx hb hts in_X3 hown hw 3 0 (ci_3 (by decide)) (bi_3 (by decide) hn) rfl rfl 2 (by decide) kX3_19 rfl dX3_passes_44 ?_
      refine lv_iconst (v := 1) hx hb dX3_passes_47 (by decide) ?_
      refine lv_iadd hx hb dX3_passes_48 ?_
      refine g_putf hx hb hts in_X3 tyX3 tyX3_ok nmX3 hown hw 3 0 (ci_3 (by decide)) (bi_3 (by decide) hn) rfl 2 (by decide) rfl rfl kX3_19 (by decide +kernel) (by decide +kernel) (by simp) h dX3_passes_49 ?_
      clear h hw; intro M3 H locs hw h
      refine lv_iload_n hx hb dX3_passes_52 rfl (lv_at hl 0 rfl) ?_
      exact g_zret hx hb hr hlocks hw h.1 h.2 dX3_passes_53
  clear h; intro J2 hJ2 h
  refine letJ_W (fun (x : Unit) => ∀ (H : Heap) (locs : List Loc) (ls : Array Slot), WO o (WA o) s s.heap H locs M → lv_has ls 3 [(0, .ref (o.2.1 3 0))] → W p l e rm_X3_passes s m args below meth c H locs 0 0 (MQ below (QZ o Q) args s 0 0 (WA o)) (F0 m 36 ls [])) h ?_ ?_
  · clear h hw hl; clear ls; intro x h H locs ls hw hl
    replace hl : lv_has ls 3 [(0, .ref (o.2.1 3 0))] := hl
    refine lv_iconst (v := 0) hx hb dX3_passes_36 (by decide) ?_
    exact hJ2 (0 : Int32) h _ _ _ hw (lv_sub hl [0] rfl)
  clear h; intro J4 hJ4 h
  refine g_icmp_ne (tgt := 36) hx hb h dX3_passes_5 (by decide) ?_ ?_
  · clear h; intro h
    exact hJ4 () h _ _ _ hw (lv_sub hl [0] rfl)
  · clear h; intro h
    refine lv_aload_n hx hb dX3_passes_8 rfl (lv_at hl 0 rfl) ?_
    refine g_getf hx hb hts in_X3 hown hw 3 0 (ci_3 (by decide)) (bi_3 (by decide) hn) rfl rfl 2 (by decide) kX3_19 rfl dX3_passes_9 ?_
    refine lv_aload_n hx hb dX3_passes_12 rfl (lv_at hl 0 rfl) ?_
    refine g_getf hx hb hts in_X3 hown hw 3 0 (ci_3 (by decide)) (bi_3 (by decide) hn) rfl rfl 1 (by decide) kX3_15 rfl dX3_passes_13 ?_
    refine g_icmp_ge (tgt := 36) hx hb h dX3_passes_16 (by decide) ?_ ?_
    · clear h; intro h
      exact hJ4 () h _ _ _ hw (lv_sub hl [0] rfl)
    · clear h; intro h
      refine lv_aload_n hx hb dX3_passes_19 rfl (lv_at hl 0 rfl) ?_
      refine g_getf hx hb hts in_X3 hown hw 3 0 (ci_3 (by decide)) (bi_3 (by decide) hn) rfl rfl 0 (by decide) kX3_9 rfl dX3_passes_20 ?_
      refine lv_aload_n hx hb dX3_passes_23 rfl (lv_at hl 0 rfl) ?_
      refine g_getf hx hb hts in_X3 hown hw 3 0 (ci_3 (by decide)) (bi_3 (by decide) hn) rfl rfl 2 (by decide) kX3_19 rfl dX3_passes_24 ?_
      refine g_iald hx hb hw 4 0 (ci_4 (by decide)) (bi_4 (by decide) hn) rfl h dX3_passes_27 ?_
      clear h; intro v5 h
      refine lv_iload_n hx hb dX3_passes_28 rfl (lv_at hl 1 rfl) ?_
      refine g_icmp_ne (tgt := 36) hx hb h dX3_passes_29 (by decide) ?_ ?_
      · clear h; intro h
        exact hJ4 () h _ _ _ hw (lv_sub hl [0] rfl)
      · clear h; intro h
        refine lv_iconst (v := 1) hx hb dX3_passes_32 (by decide) ?_
        refine lv_goto (tgt := 37) hx hb dX3_passes_33 (by decide) ?_
        exact hJ2 (1 : Int32) h _ _ _ hw (lv_sub hl [0] rfl)
abbrev rm_X3_refuseLastDigitIf : Room := { frames := 0, cells := 0, slots := 0, locals := 0 }
set_option maxHeartbeats 4000000 in
set_option maxRecDepth 100000 in
theorem c_X3_refuseLastDigitIf {o : Om} {l : Launch} (hn : 115 ≤ o.2.2.2) {M : Mm} {x1 : Int32} {Q : Mm → Prop} (h : w_X3_refuseLastDigitIf M x1 Q) : CV o l yX3_refuseLastDigitIf cX3_refuseLastDigitIf 2 rm_X3_refuseLastDigitIf [.ref (o.2.1 3 0), .int x1] M Q := by
  refine g_start (by decide +kernel) (Nat.le_of_ble_eq_true rfl) ?_
  intro p e s m args below meth c hx hb hr hlocks hml hown hts hw ls hl
  replace hl : lv_has ls 2 [(0, .ref (o.2.1 3 0)), (1, .int x1)] := hl
  unfold w_X3_refuseLastDigitIf at h
  refine lv_iload_n hx hb dX3_refuseLastDigitIf_0 rfl (lv_at hl 1 rfl) ?_
  refine g_if_eq (tgt := 22) hx hb h dX3_refuseLastDigitIf_1 (by decide) ?_ ?_
  · clear h; intro h
    exact g_vret hx hb hr hlocks hw h dX3_refuseLastDigitIf_22
  · clear h; intro h
    refine lv_aload_n hx hb dX3_refuseLastDigitIf_4 rfl (lv_at hl 0 rfl) ?_
    refine g_getf hx hb hts in_X3 hown hw 3 0 (ci_3 (by decide)) (bi_3 (by decide) hn) rfl rfl 3 (by decide) kX3_22 rfl dX3_refuseLastDigitIf_5 ?_
    refine lv_iconst (v := (-1)) hx hb dX3_refuseLastDigitIf_8 (by decide) ?_
    refine g_icmp_ne (tgt := 22) hx hb h dX3_refuseLastDigitIf_9 (by decide) ?_ ?_
    · clear h; intro h
      exact g_vret hx hb hr hlocks hw h dX3_refuseLastDigitIf_22
    · clear h; intro h
      refine lv_aload_n hx hb dX3_refuseLastDigitIf_12 rfl (lv_at hl 0 rfl) ?_
      refine lv_aload_n hx hb dX3_refuseLastDigitIf_13 rfl (lv_at hl 0 rfl) ?_
      refine g_getf hx hb hts in_X3 hown hw 3 0 (ci_3 (by decide)) (bi_3 (by decide) hn) rfl rfl 2 (by decide) kX3_19 rfl dX3_refuseLastDigitIf_14 ?_
      refine lv_iconst (v := 1) hx hb dX3_refuseLastDigitIf_17 (by decide) ?_
      refine lv_isub hx hb dX3_refuseLastDigitIf_18 ?_
      refine g_putf hx hb hts in_X3 tyX3 tyX3_ok nmX3 hown hw 3 0 (ci_3 (by decide)) (bi_3 (by decide) hn) rfl 3 (by decide) rfl rfl kX3_22 (by decide +kernel) (by decide +kernel) (by simp) h dX3_refuseLastDigitIf_19 ?_
      clear h hw; intro M1 H locs hw h
      exact g_vret hx hb hr hlocks hw h dX3_refuseLastDigitIf_22
abbrev rm_X3_readTwoDigits : Room := { frames := 2, cells := 0, slots := 0, locals := 40 }
set_option maxHeartbeats 4000000 in
set_option maxRecDepth 100000 in
theorem c_X3_readTwoDigits {o : Om} {l : Launch} (hn : 115 ≤ o.2.2.2) {M : Mm} {x1 : Int32} {Q : Int32 → Mm → Prop} (h : w_X3_readTwoDigits M x1 Q) : CI o l yX3_readTwoDigits cX3_readTwoDigits 5 rm_X3_readTwoDigits [.ref (o.2.1 3 0), .int x1] M Q := by
  refine g_start (by decide +kernel) (Nat.le_of_ble_eq_true rfl) ?_
  intro p e s m args below meth c hx hb hr hlocks hml hown hts hw ls hl
  replace hl : lv_has ls 5 [(0, .ref (o.2.1 3 0)), (1, .int x1)] := hl
  unfold w_X3_readTwoDigits at h
  refine lv_aload_n hx hb dX3_readTwoDigits_0 rfl (lv_at hl 0 rfl) ?_
  refine g_ci hw (g_runV (As := []) (rest := []) hx hb hml hown hts mX3_readDigit vX3_readDigit kX3_49 hw 3 0 (ci_3 (by decide)) (bi_3 (by decide) hn) rfl rfl (c_X3_readDigit hn h) rfl rfl ⟨Nat.le_of_ble_eq_true rfl, Nat.le_of_ble_eq_true rfl⟩ rfl hl.1 rfl (Nat.le_of_ble_eq_true rfl) dX3_readTwoDigits_1 ⟨Nat.zero_le _, Nat.zero_le _⟩) ?_
  clear h hw; intro v2 M1 H locs hw h
  refine lv_istore_n (lv' := [(2, .int v2), (0, .ref (o.2.1 3 0)), (1, .int x1)]) hx hb dX3_readTwoDigits_4 rfl hl (by decide) rfl ?_
  clear hl; clear ls; intro ls hl
  refine lv_aload_n hx hb dX3_readTwoDigits_5 rfl (lv_at hl 1 rfl) ?_
  refine g_ci hw (g_runV (As := []) (rest := []) hx hb hml hown hts mX3_readDigit vX3_readDigit kX3_49 hw 3 0 (ci_3 (by decide)) (bi_3 (by decide) hn) rfl rfl (c_X3_readDigit hn h) rfl rfl ⟨Nat.le_of_ble_eq_true rfl, Nat.le_of_ble_eq_true rfl⟩ rfl hl.1 rfl (Nat.le_of_ble_eq_true rfl) dX3_readTwoDigits_6 ⟨Nat.zero_le _, Nat.zero_le _⟩) ?_
  clear h hw; intro v4 M3 H locs hw h
  refine lv_istore_n (lv' := [(3, .int v4), (2, .int v2), (0, .ref (o.2.1 3 0)), (1, .int x1)]) hx hb dX3_readTwoDigits_9 rfl hl (by decide) rfl ?_
  clear hl; clear ls; intro ls hl
  refine lv_bipush (v := 10) hx hb dX3_readTwoDigits_10 (by decide) ?_
  refine lv_iload_n hx hb dX3_readTwoDigits_12 rfl (lv_at hl 1 rfl) ?_
  refine lv_imul hx hb dX3_readTwoDigits_13 ?_
  refine lv_iload_n hx hb dX3_readTwoDigits_14 rfl (lv_at hl 0 rfl) ?_
  refine lv_iadd hx hb dX3_readTwoDigits_15 ?_
  refine g_topi h ?_
  clear h; intro v5 h
  refine lv_istore (lv' := [(4, .int v5), (3, .int v4), (2, .int v2), (0, .ref (o.2.1 3 0)), (1, .int x1)]) hx hb dX3_readTwoDigits_16 hl (by decide) rfl ?_
  clear hl; clear ls; intro ls hl
  refine lv_aload_n hx hb dX3_readTwoDigits_18 rfl (lv_at hl 3 rfl) ?_
  refine lv_iload hx hb dX3_readTwoDigits_19 (lv_at hl 0 rfl) ?_
  refine lv_iload_n hx hb dX3_readTwoDigits_21 rfl (lv_at hl 4 rfl) ?_
  refine letJ_W (fun (x : Int32) => ∀ (H : Heap) (locs : List Loc) (ls : Array Slot), WO o (WA o) s s.heap H locs M3 → lv_has ls 5 [(4, .int v5)] → W p l e rm_X3_readTwoDigits s m args below meth c H locs 0 0 (MQ below (QI o Q) args s 0 0 (WA o)) (F0 m 30 ls [.int x, .ref (o.2.1 3 0)])) h ?_ ?_
  · clear h hw hl; clear ls; intro x h H locs ls hw hl
    obtain ⟨v6, rfl⟩ : ∃ z, z = x := ⟨_, rfl⟩
    replace hl : lv_has ls 5 [(4, .int v5)] := hl
    refine g_cv hw (g_runV (As := [.int v6]) (rest := []) hx hb hml hown hts mX3_refuseLastDigitIf vX3_refuseLastDigitIf kX3_42 hw 3 0 (ci_3 (by decide)) (bi_3 (by decide) hn) rfl rfl (c_X3_refuseLastDigitIf hn h) rfl rfl ⟨Nat.le_of_ble_eq_true rfl, Nat.le_of_ble_eq_true rfl⟩ rfl hl.1 rfl (Nat.le_of_ble_eq_true rfl) dX3_readTwoDigits_30 ⟨Nat.zero_le _, Nat.zero_le _⟩) ?_
    clear h hw; intro M8 H locs hw h
    refine lv_iload hx hb dX3_readTwoDigits_33 (lv_at hl 0 rfl) ?_
    exact g_iret hx hb hr hlocks hw h dX3_readTwoDigits_35
  clear h; intro J7 hJ7 h
  refine g_icmp_le (tgt := 29) hx hb h dX3_readTwoDigits_22 (by decide) ?_ ?_
  · clear h; intro h
    refine lv_iconst (v := 0) hx hb dX3_readTwoDigits_29 (by decide) ?_
    exact hJ7 (0 : Int32) h _ _ _ hw (lv_sub hl [0] rfl)
  · clear h; intro h
    refine lv_iconst (v := 1) hx hb dX3_readTwoDigits_25 (by decide) ?_
    refine lv_goto (tgt := 30) hx hb dX3_readTwoDigits_26 (by decide) ?_
    exact hJ7 (1 : Int32) h _ _ _ hw (lv_sub hl [0] rfl)
abbrev rm_X3_require : Room := { frames := 1, cells := 0, slots := 0, locals := 22 }
set_option maxHeartbeats 4000000 in
set_option maxRecDepth 100000 in
theorem c_X3_require {o : Om} {l : Launch} (hn : 115 ≤ o.2.2.2) {M : Mm} {x1 : Int32} {Q : Mm → Prop} (h : w_X3_require M x1 Q) : CV o l yX3_require cX3_require 2 rm_X3_require [.ref (o.2.1 3 0), .int x1] M Q := by
  refine g_start (by decide +kernel) (Nat.le_of_ble_eq_true rfl) ?_
  intro p e s m args below meth c hx hb hr hlocks hml hown hts hw ls hl
  replace hl : lv_has ls 2 [(0, .ref (o.2.1 3 0)), (1, .int x1)] := hl
  unfold w_X3_require at h
  refine lv_aload_n hx hb dX3_require_0 rfl (lv_at hl 0 rfl) ?_
  refine lv_iload_n hx hb dX3_require_1 rfl (lv_at hl 1 rfl) ?_
  refine g_cz hw (g_runV (As := [.int x1]) (rest := []) hx hb hml hown hts mX3_passes vX3_passes kX3_38 hw 3 0 (ci_3 (by decide)) (bi_3 (by decide) hn) rfl rfl (c_X3_passes hn h) rfl rfl ⟨Nat.le_of_ble_eq_true rfl, Nat.le_of_ble_eq_true rfl⟩ rfl hl.1 rfl (Nat.le_of_ble_eq_true rfl) dX3_require_2 ⟨Nat.zero_le _, Nat.zero_le _⟩) ?_
  clear h hw; intro v2 M1 H locs hw hz_v2 h
  refine g_if_ne (tgt := 12) hx hb h dX3_require_5 (by decide) ?_ ?_
  · clear h; intro h
    exact g_vret hx hb hr hlocks hw h dX3_require_12
  · clear h; intro h
    refine lv_aload_n hx hb dX3_require_8 rfl (lv_at hl 0 rfl) ?_
    refine g_cv hw (g_runV (As := []) (rest := []) hx hb hml hown hts mX3_refuseHere vX3_refuseHere kX3_68 hw 3 0 (ci_3 (by decide)) (bi_3 (by decide) hn) rfl rfl (c_X3_refuseHere hn h) rfl rfl ⟨Nat.le_of_ble_eq_true rfl, Nat.le_of_ble_eq_true rfl⟩ rfl hl.1 rfl (Nat.le_of_ble_eq_true rfl) dX3_require_9 ⟨Nat.zero_le _, Nat.zero_le _⟩) ?_
    clear h hw; intro M3 H locs hw h
    exact g_vret hx hb hr hlocks hw h dX3_require_12
abbrev rm_X3_readTime : Room := { frames := 3, cells := 0, slots := 0, locals := 64 }
set_option maxHeartbeats 4000000 in
set_option maxRecDepth 100000 in
theorem c_X3_readTime {o : Om} {l : Launch} (hn : 115 ≤ o.2.2.2) {M : Mm} {Q : Int32 → Mm → Prop} (h : w_X3_readTime M Q) : CI o l yX3_readTime cX3_readTime 3 rm_X3_readTime [.ref (o.2.1 3 0)] M Q := by
  refine g_start (by decide +kernel) (Nat.le_of_ble_eq_true rfl) ?_
  intro p e s m args below meth c hx hb hr hlocks hml hown hts hw ls hl
  replace hl : lv_has ls 3 [(0, .ref (o.2.1 3 0))] := hl
  unfold w_X3_readTime at h
  refine lv_aload_n hx hb dX3_readTime_0 rfl (lv_at hl 0 rfl) ?_
  refine lv_bipush (v := 23) hx hb dX3_readTime_1 (by decide) ?_
  refine g_ci hw (g_runV (As := [.int (23 : Int32)]) (rest := []) hx hb hml hown hts mX3_readTwoDigits vX3_readTwoDigits kX3_64 hw 3 0 (ci_3 (by decide)) (bi_3 (by decide) hn) rfl rfl (c_X3_readTwoDigits hn h) rfl rfl ⟨Nat.le_of_ble_eq_true rfl, Nat.le_of_ble_eq_true rfl⟩ rfl hl.1 rfl (Nat.le_of_ble_eq_true rfl) dX3_readTime_3 ⟨Nat.zero_le _, Nat.zero_le _⟩) ?_
  clear h hw; intro v2 M1 H locs hw h
  refine lv_istore_n (lv' := [(1, .int v2), (0, .ref (o.2.1 3 0))]) hx hb dX3_readTime_6 rfl hl (by decide) rfl ?_
  clear hl; clear ls; intro ls hl
  refine lv_aload_n hx hb dX3_readTime_7 rfl (lv_at hl 1 rfl) ?_
  refine lv_bipush (v := 58) hx hb dX3_readTime_8 (by decide) ?_
  refine g_cv hw (g_runV (As := [.int (58 : Int32)]) (rest := []) hx hb hml hown hts mX3_require vX3_require kX3_52 hw 3 0 (ci_3 (by decide)) (bi_3 (by decide) hn) rfl rfl (c_X3_require hn h) rfl rfl ⟨Nat.le_of_ble_eq_true rfl, Nat.le_of_ble_eq_true rfl⟩ rfl hl.1 rfl (Nat.le_of_ble_eq_true rfl) dX3_readTime_10 ⟨Nat.zero_le _, Nat.zero_le _⟩) ?_
  clear h hw; intro M3 H locs hw h
  refine lv_aload_n hx hb dX3_readTime_13 rfl (lv_at hl 1 rfl) ?_
  refine lv_bipush (v := 59) hx hb dX3_readTime_14 (by decide) ?_
  refine g_ci hw (g_runV (As := [.int (59 : Int32)]) (rest := []) hx hb hml hown hts mX3_readTwoDigits vX3_readTwoDigits kX3_64 hw 3 0 (ci_3 (by decide)) (bi_3 (by decide) hn) rfl rfl (c_X3_readTwoDigits hn h) rfl rfl ⟨Nat.le_of_ble_eq_true rfl, Nat.le_of_ble_eq_true rfl⟩ rfl hl.1 rfl (Nat.le_of_ble_eq_true rfl) dX3_readTime_16 ⟨Nat.zero_le _, Nat.zero_le _⟩) ?_
  clear h hw; intro v5 M4 H locs hw h
  refine lv_istore_n (lv' := [(2, .int v5), (1, .int v2), (0, .ref (o.2.1 3 0))]) hx hb dX3_readTime_19 rfl hl (by decide) rfl ?_
  clear hl; clear ls; intro ls hl
  refine lv_bipush (v := 60) hx hb dX3_readTime_20 (by decide) ?_
  refine lv_iload_n hx hb dX3_readTime_22 rfl (lv_at hl 1 rfl) ?_
  refine lv_imul hx hb dX3_readTime_23 ?_
  refine lv_iload_n hx hb dX3_readTime_24 rfl (lv_at hl 0 rfl) ?_
  refine lv_iadd hx hb dX3_readTime_25 ?_
  exact g_iret hx hb hr hlocks hw h dX3_readTime_26
abbrev rm_X3_readEntry : Room := { frames := 4, cells := 0, slots := 0, locals := 86 }
set_option maxHeartbeats 4000000 in
set_option maxRecDepth 100000 in
theorem c_X3_readEntry {o : Om} {l : Launch} (hn : 115 ≤ o.2.2.2) {j : Nat} (hj : j < 10) {M : Mm} {Q : Mm → Prop} (h : w_X3_readEntry j M Q) : CV o l yX3_readEntry cX3_readEntry 6 rm_X3_readEntry [.ref (o.2.1 3 0), .ref (o.2.1 11 j)] M Q := by
  refine g_start (by decide +kernel) (Nat.le_of_ble_eq_true rfl) ?_
  intro p e s m args below meth c hx hb hr hlocks hml hown hts hw ls hl
  replace hl : lv_has ls 6 [(0, .ref (o.2.1 3 0)), (1, .ref (o.2.1 11 j))] := hl
  unfold w_X3_readEntry at h
  refine lv_aload_n hx hb dX3_readEntry_0 rfl (lv_at hl 0 rfl) ?_
  refine g_ci hw (g_runV (As := []) (rest := []) hx hb hml hown hts mX3_readDay vX3_readDay kX3_34 hw 3 0 (ci_3 (by decide)) (bi_3 (by decide) hn) rfl rfl (c_X3_readDay hn h) rfl rfl ⟨Nat.le_of_ble_eq_true rfl, Nat.le_of_ble_eq_true rfl⟩ rfl hl.1 rfl (Nat.le_of_ble_eq_true rfl) dX3_readEntry_1 ⟨Nat.zero_le _, Nat.zero_le _⟩) ?_
  clear h hw; intro v2 M1 H locs hw h
  refine lv_istore_n (lv' := [(2, .int v2), (0, .ref (o.2.1 3 0)), (1, .ref (o.2.1 11 j))]) hx hb dX3_readEntry_4 rfl hl (by decide) rfl ?_
  clear hl; clear ls; intro ls hl
  refine lv_iload_n hx hb dX3_readEntry_5 rfl (lv_at hl 0 rfl) ?_
  refine lv_istore_n (lv' := [(3, .int v2), (2, .int v2), (0, .ref (o.2.1 3 0)), (1, .ref (o.2.1 11 j))]) hx hb dX3_readEntry_6 rfl hl (by decide) rfl ?_
  clear hl; clear ls; intro ls hl
  refine lv_aload_n hx hb dX3_readEntry_7 rfl (lv_at hl 2 rfl) ?_
  refine lv_bipush (v := 45) hx hb dX3_readEntry_8 (by decide) ?_
  refine g_cz hw (g_runV (As := [.int (45 : Int32)]) (rest := []) hx hb hml hown hts mX3_passes vX3_passes kX3_38 hw 3 0 (ci_3 (by decide)) (bi_3 (by decide) hn) rfl rfl (c_X3_passes hn h) rfl rfl ⟨Nat.le_of_ble_eq_true rfl, Nat.le_of_ble_eq_true rfl⟩ rfl hl.1 rfl (Nat.le_of_ble_eq_true rfl) dX3_readEntry_10 ⟨Nat.zero_le _, Nat.zero_le _⟩) ?_
  clear h hw; intro v4 M3 H locs hw hz_v4 h
  refine letJ_W (fun (x : Int32 × Mm) => ∀ (H : Heap) (locs : List Loc) (ls : Array Slot), WO o (WA o) s s.heap H locs x.2 → lv_has ls 6 [(0, .ref (o.2.1 3 0)), (1, .ref (o.2.1 11 j)), (2, .int v2), (3, .int x.1)] → W p l e rm_X3_readEntry s m args below meth c H locs 0 0 (MQ below (QV o Q) args s 0 0 (WA o)) (F0 m 35 ls [])) h ?_ ?_
  · clear h hw hl; clear ls; intro x h H locs ls hw hl
    obtain ⟨v5, M7⟩ := x
    replace hl : lv_has ls 6 [(0, .ref (o.2.1 3 0)), (1, .ref (o.2.1 11 j)), (2, .int v2), (3, .int v5)] := hl
    dsimp only at h
    dsimp only at hw
    refine lv_bipush (v := (-9)) hx hb dX3_readEntry_35 (by decide) ?_
    refine lv_istore (lv' := [(4, .int (-9 : Int32)), (0, .ref (o.2.1 3 0)), (1, .ref (o.2.1 11 j)), (2, .int v2), (3, .int v5)]) hx hb dX3_readEntry_37 hl (by decide) rfl ?_
    clear hl; clear ls; intro ls hl
    refine lv_aload_n hx hb dX3_readEntry_39 rfl (lv_at hl 1 rfl) ?_
    refine lv_bipush (v := 64) hx hb dX3_readEntry_40 (by decide) ?_
    refine g_cz hw (g_runV (As := [.int (64 : Int32)]) (rest := []) hx hb hml hown hts mX3_passes vX3_passes kX3_38 hw 3 0 (ci_3 (by decide)) (bi_3 (by decide) hn) rfl rfl (c_X3_passes hn h) rfl rfl ⟨Nat.le_of_ble_eq_true rfl, Nat.le_of_ble_eq_true rfl⟩ rfl hl.1 rfl (Nat.le_of_ble_eq_true rfl) dX3_readEntry_42 ⟨Nat.zero_le _, Nat.zero_le _⟩) ?_
    clear h hw; intro v9 M8 H locs hw hz_v9 h
    refine letJ_W (fun (x : Int32 × Mm) => ∀ (H : Heap) (locs : List Loc) (ls : Array Slot), WO o (WA o) s s.heap H locs x.2 → lv_has ls 6 [(0, .ref (o.2.1 3 0)), (1, .ref (o.2.1 11 j)), (2, .int v2), (3, .int v5), (4, .int x.1)] → W p l e rm_X3_readEntry s m args below meth c H locs 0 0 (MQ below (QV o Q) args s 0 0 (WA o)) (F0 m 54 ls [])) h ?_ ?_
    · clear h hw hl; clear ls; intro x h H locs ls hw hl
      obtain ⟨v10, M12⟩ := x
      replace hl : lv_has ls 6 [(0, .ref (o.2.1 3 0)), (1, .ref (o.2.1 11 j)), (2, .int v2), (3, .int v5), (4, .int v10)] := hl
      dsimp only at h
      dsimp only at hw
      refine lv_iconst (v := 0) hx hb dX3_readEntry_54 (by decide) ?_
      refine lv_istore (lv' := [(5, .int (0 : Int32)), (0, .ref (o.2.1 3 0)), (1, .ref (o.2.1 11 j)), (2, .int v2), (3, .int v5), (4, .int v10)]) hx hb dX3_readEntry_55 hl (by decide) rfl ?_
      clear hl; clear ls; intro ls hl
      refine lv_aload_n hx hb dX3_readEntry_57 rfl (lv_at hl 1 rfl) ?_
      refine lv_bipush (v := 33) hx hb dX3_readEntry_58 (by decide) ?_
      refine g_cz hw (g_runV (As := [.int (33 : Int32)]) (rest := []) hx hb hml hown hts mX3_passes vX3_passes kX3_38 hw 3 0 (ci_3 (by decide)) (bi_3 (by decide) hn) rfl rfl (c_X3_passes hn h) rfl rfl ⟨Nat.le_of_ble_eq_true rfl, Nat.le_of_ble_eq_true rfl⟩ rfl hl.1 rfl (Nat.le_of_ble_eq_true rfl) dX3_readEntry_60 ⟨Nat.zero_le _, Nat.zero_le _⟩) ?_
      clear h hw; intro v14 M13 H locs hw hz_v14 h
      refine letJ_W (fun (x : Int32 × Mm) => ∀ (H : Heap) (locs : List Loc) (ls : Array Slot), WO o (WA o) s s.heap H locs x.2 → lv_has ls 6 [(0, .ref (o.2.1 3 0)), (1, .ref (o.2.1 11 j)), (2, .int v2), (3, .int v5), (4, .int v10), (5, .int x.1)] → W p l e rm_X3_readEntry s m args below meth c H locs 0 0 (MQ below (QV o Q) args s 0 0 (WA o)) (F0 m 72 ls [])) h ?_ ?_
      · clear h hw hl; clear ls; intro x h H locs ls hw hl
        obtain ⟨v15, M17⟩ := x
        replace hl : lv_has ls 6 [(0, .ref (o.2.1 3 0)), (1, .ref (o.2.1 11 j)), (2, .int v2), (3, .int v5), (4, .int v10), (5, .int v15)] := hl
        dsimp only at h
        dsimp only at hw
        refine lv_aload_n hx hb dX3_readEntry_72 rfl (lv_at hl 0 rfl) ?_
        refine lv_bipush (v := 59) hx hb dX3_readEntry_73 (by decide) ?_
        refine g_cv hw (g_runV (As := [.int (59 : Int32)]) (rest := []) hx hb hml hown hts mX3_require vX3_require kX3_52 hw 3 0 (ci_3 (by decide)) (bi_3 (by decide) hn) rfl rfl (c_X3_require hn h) rfl rfl ⟨Nat.le_of_ble_eq_true rfl, Nat.le_of_ble_eq_true rfl⟩ rfl hl.1 rfl (Nat.le_of_ble_eq_true rfl) dX3_readEntry_75 ⟨Nat.zero_le _, Nat.zero_le _⟩) ?_
        clear h hw; intro M18 H locs hw h
        refine lv_aload_n hx hb dX3_readEntry_78 rfl (lv_at hl 0 rfl) ?_
        refine g_getf hx hb hts in_X3 hown hw 3 0 (ci_3 (by decide)) (bi_3 (by decide) hn) rfl rfl 3 (by decide) kX3_22 rfl dX3_readEntry_79 ?_
        refine lv_iconst (v := (-1)) hx hb dX3_readEntry_82 (by decide) ?_
        refine g_icmp_ne (tgt := 96) hx hb h dX3_readEntry_83 (by decide) ?_ ?_
        · clear h; intro h
          exact g_vret hx hb hr hlocks hw h dX3_readEntry_96
        · clear h; intro h
          refine lv_aload_n hx hb dX3_readEntry_86 rfl (lv_at hl 1 rfl) ?_
          refine lv_iload_n hx hb dX3_readEntry_87 rfl (lv_at hl 2 rfl) ?_
          refine lv_iload_n hx hb dX3_readEntry_88 rfl (lv_at hl 3 rfl) ?_
          refine lv_iload hx hb dX3_readEntry_89 (lv_at hl 4 rfl) ?_
          refine lv_iload hx hb dX3_readEntry_91 (lv_at hl 5 rfl) ?_
          refine g_cv hw (g_runV (As := [.int v2, .int v5, .int v10, .int v15]) (rest := []) hx hb hml hown hts mX2_append vX2_append kX3_56 hw 11 j (ci_11 hj) (bi_11 hj hn) rfl rfl (c_X2_append hn hj h) rfl rfl ⟨Nat.le_of_ble_eq_true rfl, Nat.le_of_ble_eq_true rfl⟩ rfl hl.1 rfl (Nat.le_of_ble_eq_true rfl) dX3_readEntry_93 ⟨Nat.zero_le _, Nat.zero_le _⟩) ?_
          clear h hw; intro M19 H locs hw h
          exact g_vret hx hb hr hlocks hw h dX3_readEntry_96
      clear h; intro J16 hJ16 h
      refine g_if_eq (tgt := 72) hx hb h dX3_readEntry_63 (by decide) ?_ ?_
      · clear h; intro h
        exact hJ16 ((0 : Int32), M13) h _ _ _ hw (lv_sub hl [1, 2, 3, 4, 5, 0] rfl)
      · clear h; intro h
        refine lv_aload_n hx hb dX3_readEntry_66 rfl (lv_at hl 1 rfl) ?_
        refine g_ci hw (g_runV (As := []) (rest := []) hx hb hml hown hts mX3_readDigit vX3_readDigit kX3_49 hw 3 0 (ci_3 (by decide)) (bi_3 (by decide) hn) rfl rfl (c_X3_readDigit hn h) rfl rfl ⟨Nat.le_of_ble_eq_true rfl, Nat.le_of_ble_eq_true rfl⟩ rfl hl.1 rfl (Nat.le_of_ble_eq_true rfl) dX3_readEntry_67 ⟨Nat.zero_le _, Nat.zero_le _⟩) ?_
        clear h hw; intro v21 M20 H locs hw h
        refine lv_istore (lv' := [(5, .int v21), (0, .ref (o.2.1 3 0)), (1, .ref (o.2.1 11 j)), (2, .int v2), (3, .int v5), (4, .int v10)]) hx hb dX3_readEntry_70 hl (by decide) rfl ?_
        clear hl; clear ls; intro ls hl
        exact hJ16 (v21, M20) h _ _ _ hw (lv_sub hl [1, 2, 3, 4, 5, 0] rfl)
    clear h; intro J11 hJ11 h
    refine g_if_eq (tgt := 54) hx hb h dX3_readEntry_45 (by decide) ?_ ?_
    · clear h; intro h
      exact hJ11 ((-9 : Int32), M8) h _ _ _ hw (lv_sub hl [1, 2, 3, 4, 0] rfl)
    · clear h; intro h
      refine lv_aload_n hx hb dX3_readEntry_48 rfl (lv_at hl 1 rfl) ?_
      refine g_ci hw (g_runV (As := []) (rest := []) hx hb hml hown hts mX3_readTime vX3_readTime kX3_46 hw 3 0 (ci_3 (by decide)) (bi_3 (by decide) hn) rfl rfl (c_X3_readTime hn h) rfl rfl ⟨Nat.le_of_ble_eq_true rfl, Nat.le_of_ble_eq_true rfl⟩ rfl hl.1 rfl (Nat.le_of_ble_eq_true rfl) dX3_readEntry_49 ⟨Nat.zero_le _, Nat.zero_le _⟩) ?_
      clear h hw; intro v23 M22 H locs hw h
      refine lv_istore (lv' := [(4, .int v23), (0, .ref (o.2.1 3 0)), (1, .ref (o.2.1 11 j)), (2, .int v2), (3, .int v5)]) hx hb dX3_readEntry_52 hl (by decide) rfl ?_
      clear hl; clear ls; intro ls hl
      exact hJ11 (v23, M22) h _ _ _ hw (lv_sub hl [1, 2, 3, 4, 0] rfl)
  clear h; intro J6 hJ6 h
  refine g_if_eq (tgt := 35) hx hb h dX3_readEntry_13 (by decide) ?_ ?_
  · clear h; intro h
    exact hJ6 (v2, M3) h _ _ _ hw (lv_sub hl [2, 3, 1, 0] rfl)
  · clear h; intro h
    refine lv_aload_n hx hb dX3_readEntry_16 rfl (lv_at hl 2 rfl) ?_
    refine g_ci hw (g_runV (As := []) (rest := []) hx hb hml hown hts mX3_readDay vX3_readDay kX3_34 hw 3 0 (ci_3 (by decide)) (bi_3 (by decide) hn) rfl rfl (c_X3_readDay hn h) rfl rfl ⟨Nat.le_of_ble_eq_true rfl, Nat.le_of_ble_eq_true rfl⟩ rfl hl.1 rfl (Nat.le_of_ble_eq_true rfl) dX3_readEntry_17 ⟨Nat.zero_le _, Nat.zero_le _⟩) ?_
    clear h hw; intro v25 M24 H locs hw h
    refine lv_istore_n (lv' := [(3, .int v25), (2, .int v2), (0, .ref (o.2.1 3 0)), (1, .ref (o.2.1 11 j))]) hx hb dX3_readEntry_20 rfl hl (by decide) rfl ?_
    clear hl; clear ls; intro ls hl
    refine lv_aload_n hx hb dX3_readEntry_21 rfl (lv_at hl 2 rfl) ?_
    refine lv_iload_n hx hb dX3_readEntry_22 rfl (lv_at hl 0 rfl) ?_
    refine lv_iload_n hx hb dX3_readEntry_23 rfl (lv_at hl 1 rfl) ?_
    refine letJ_W (fun (x : Int32) => ∀ (H : Heap) (locs : List Loc) (ls : Array Slot), WO o (WA o) s s.heap H locs M24 → lv_has ls 6 [(0, .ref (o.2.1 3 0)), (1, .ref (o.2.1 11 j)), (2, .int v2), (3, .int v25)] → W p l e rm_X3_readEntry s m args below meth c H locs 0 0 (MQ below (QV o Q) args s 0 0 (WA o)) (F0 m 32 ls [.int x, .ref (o.2.1 3 0)])) h ?_ ?_
    · clear h hw hl; clear ls; intro x h H locs ls hw hl
      obtain ⟨v26, rfl⟩ : ∃ z, z = x := ⟨_, rfl⟩
      replace hl : lv_has ls 6 [(0, .ref (o.2.1 3 0)), (1, .ref (o.2.1 11 j)), (2, .int v2), (3, .int v25)] := hl
      refine g_cv hw (g_runV (As := [.int v26]) (rest := []) hx hb hml hown hts mX3_refuseLastDigitIf vX3_refuseLastDigitIf kX3_42 hw 3 0 (ci_3 (by decide)) (bi_3 (by decide) hn) rfl rfl (c_X3_refuseLastDigitIf hn h) rfl rfl ⟨Nat.le_of_ble_eq_true rfl, Nat.le_of_ble_eq_true rfl⟩ rfl hl.1 rfl (Nat.le_of_ble_eq_true rfl) dX3_readEntry_32 ⟨Nat.zero_le _, Nat.zero_le _⟩) ?_
      clear h hw; intro M28 H locs hw h
      exact hJ6 (v25, M28) h _ _ _ hw (lv_sub hl [0, 1, 2, 3] rfl)
    clear h; intro J27 hJ27 h
    refine g_icmp_ge (tgt := 31) hx hb h dX3_readEntry_24 (by decide) ?_ ?_
    · clear h; intro h
      refine lv_iconst (v := 0) hx hb dX3_readEntry_31 (by decide) ?_
      exact hJ27 (0 : Int32) h _ _ _ hw (lv_sub hl [2, 3, 1, 0] rfl)
    · clear h; intro h
      refine lv_iconst (v := 1) hx hb dX3_readEntry_27 (by decide) ?_
      refine lv_goto (tgt := 32) hx hb dX3_readEntry_28 (by decide) ?_
      exact hJ27 (1 : Int32) h _ _ _ hw (lv_sub hl [2, 3, 1, 0] rfl)
abbrev rm_X3_read : Room := { frames := 5, cells := 0, slots := 0, locals := 111 }
set_option maxHeartbeats 4000000 in
set_option maxRecDepth 100000 in
theorem c_X3_read {o : Om} {l : Launch} (hn : 115 ≤ o.2.2.2) {j : Nat} (hj : j < 10) {M : Mm} {Q : Int32 → Mm → Prop} (h : w_X3_read j M Q) : CI o l yX3_read cX3_read 3 rm_X3_read [.ref (o.2.1 3 0), .ref (o.2.1 11 j)] M Q := by
  refine g_start (by decide +kernel) (Nat.le_of_ble_eq_true rfl) ?_
  intro p e s m args below meth c hx hb hr hlocks hml hown hts hw ls hl
  replace hl : lv_has ls 3 [(0, .ref (o.2.1 3 0)), (1, .ref (o.2.1 11 j))] := hl
  unfold w_X3_read at h
  refine lv_aload_n hx hb dX3_read_0 rfl (lv_at hl 0 rfl) ?_
  refine lv_iconst (v := 0) hx hb dX3_read_1 (by decide) ?_
  refine g_putf hx hb hts in_X3 tyX3 tyX3_ok nmX3 hown hw 3 0 (ci_3 (by decide)) (bi_3 (by decide) hn) rfl 2 (by decide) rfl rfl kX3_19 (by decide +kernel) (by decide +kernel) (by simp) h dX3_read_2 ?_
  clear h hw; intro M1 H locs hw h
  refine lv_aload_n hx hb dX3_read_5 rfl (lv_at hl 0 rfl) ?_
  refine lv_iconst (v := (-1)) hx hb dX3_read_6 (by decide) ?_
  refine g_putf hx hb hts in_X3 tyX3 tyX3_ok nmX3 hown hw 3 0 (ci_3 (by decide)) (bi_3 (by decide) hn) rfl 3 (by decide) rfl rfl kX3_22 (by decide +kernel) (by decide +kernel) (by simp) h dX3_read_7 ?_
  clear h hw; intro M2 H locs hw h
  refine lv_aload_n hx hb dX3_read_10 rfl (lv_at hl 1 rfl) ?_
  refine lv_iconst (v := 0) hx hb dX3_read_11 (by decide) ?_
  refine g_putf hx hb hts in_X2 tyX2 tyX2_ok nmX2 hown hw 11 j (ci_11 hj) (bi_11 hj hn) rfl 4 (by decide) rfl rfl kX3_25 (by decide +kernel) (by decide +kernel) (by simp) h dX3_read_12 ?_
  clear h hw; intro M3 H locs hw h
  refine lv_iconst (v := 0) hx hb dX3_read_15 (by decide) ?_
  refine lv_istore_n (lv' := [(2, .int (0 : Int32)), (0, .ref (o.2.1 3 0)), (1, .ref (o.2.1 11 j))]) hx hb dX3_read_16 rfl hl (by decide) rfl ?_
  clear hl; clear ls; intro ls hl
  obtain ⟨n, h⟩ := h
  refine letK_W (body := fun K => w_X3_read_L17 j K) (fun (x : Int32 × Mm) => ∀ (H : Heap) (locs : List Loc) (ls : Array Slot), WO o (WA o) s s.heap H locs x.2 → lv_has ls 3 [(0, .ref (o.2.1 3 0))] → W p l e rm_X3_read s m args below meth c H locs 0 0 (MQ below (QI o Q) args s 0 0 (WA o)) (F0 m 70 ls [])) h ?_ ?_
  · clear h hw hl; clear ls; intro x h H locs ls hw hl
    obtain ⟨v12, M13⟩ := x
    replace hl : lv_has ls 3 [(0, .ref (o.2.1 3 0))] := hl
    dsimp only at h hw
    refine lv_aload_n hx hb dX3_read_70 rfl (lv_at hl 0 rfl) ?_
    refine g_getf hx hb hts in_X3 hown hw 3 0 (ci_3 (by decide)) (bi_3 (by decide) hn) rfl rfl 3 (by decide) kX3_22 rfl dX3_read_71 ?_
    exact g_iret hx hb hr hlocks hw h dX3_read_74
  clear h; intro K6 hK6 h
  refine loop_W (body := w_X3_read_L17 j K6) (fun (x : Int32 × Mm) => ∀ (H : Heap) (locs : List Loc) (ls : Array Slot), WO o (WA o) s s.heap H locs x.2 → lv_has ls 3 [(0, .ref (o.2.1 3 0)), (1, .ref (o.2.1 11 j)), (2, .int x.1)] → W p l e rm_X3_read s m args below meth c H locs 0 0 (MQ below (QI o Q) args s 0 0 (WA o)) (F0 m 17 ls [])) ?_ n _ h _ _ _ hw (lv_sub hl [1, 2, 0] rfl)
  clear h hw hl; clear ls; intro R7 x hR7 h H locs ls hw hl
  obtain ⟨v4, M5⟩ := x
  replace hl : lv_has ls 3 [(0, .ref (o.2.1 3 0)), (1, .ref (o.2.1 11 j)), (2, .int v4)] := hl
  dsimp only at hw
  unfold w_X3_read_L17 at h
  dsimp only at h
  refine lv_iload_n hx hb dX3_read_17 rfl (lv_at hl 2 rfl) ?_
  refine lv_bipush (v := 24) hx hb dX3_read_18 (by decide) ?_
  refine g_icmp_gt (tgt := 70) hx hb h dX3_read_20 (by decide) ?_ ?_
  · clear h; intro h
    exact hK6 (v4, M5) h _ _ _ hw (lv_sub hl [0] rfl)
  · clear h; intro h
    refine lv_aload_n hx hb dX3_read_23 rfl (lv_at hl 0 rfl) ?_
    refine g_getf hx hb hts in_X3 hown hw 3 0 (ci_3 (by decide)) (bi_3 (by decide) hn) rfl rfl 2 (by decide) kX3_19 rfl dX3_read_24 ?_
    refine lv_aload_n hx hb dX3_read_27 rfl (lv_at hl 0 rfl) ?_
    refine g_getf hx hb hts in_X3 hown hw 3 0 (ci_3 (by decide)) (bi_3 (by decide) hn) rfl rfl 1 (by decide) kX3_15 rfl dX3_read_28 ?_
    refine g_icmp_ge (tgt := 70) hx hb h dX3_read_31 (by decide) ?_ ?_
    · clear h; intro h
      exact hK6 (v4, M5) h _ _ _ hw (lv_sub hl [0] rfl)
    · clear h; intro h
      refine lv_aload_n hx hb dX3_read_34 rfl (lv_at hl 0 rfl) ?_
      refine g_getf hx hb hts in_X3 hown hw 3 0 (ci_3 (by decide)) (bi_3 (by decide) hn) rfl rfl 3 (by decide) kX3_22 rfl dX3_read_35 ?_
      refine lv_iconst (v := (-1)) hx hb dX3_read_38 (by decide) ?_
      refine g_icmp_ne (tgt := 70) hx hb h dX3_read_39 (by decide) ?_ ?_
      · clear h; intro h
        exact hK6 (v4, M5) h _ _ _ hw (lv_sub hl [0] rfl)
      · clear h; intro h
        refine lv_iload_n hx hb dX3_read_42 rfl (lv_at hl 2 rfl) ?_
        refine lv_bipush (v := 24) hx hb dX3_read_43 (by decide) ?_
        refine g_icmp_ne (tgt := 59) hx hb h dX3_read_45 (by decide) ?_ ?_
        · clear h; intro h
          refine lv_aload_n hx hb dX3_read_59 rfl (lv_at hl 0 rfl) ?_
          refine lv_aload_n hx hb dX3_read_60 rfl (lv_at hl 1 rfl) ?_
          refine g_cv hw (g_runV (As := [.ref (o.2.1 11 j)]) (rest := []) hx hb hml hown hts mX3_readEntry vX3_readEntry kX3_30 hw 3 0 (ci_3 (by decide)) (bi_3 (by decide) hn) rfl rfl (c_X3_readEntry hn hj h) rfl rfl ⟨Nat.le_of_ble_eq_true rfl, Nat.le_of_ble_eq_true rfl⟩ rfl hl.1 rfl (Nat.le_of_ble_eq_true rfl) dX3_read_61 ⟨Nat.zero_le _, Nat.zero_le _⟩) ?_
          clear h hw; intro M8 H locs hw h
          refine g_iinc (k := 2) (v := (v4 + (1 : Int32))) (lv' := fun v9 => [(2, .int v9), (0, .ref (o.2.1 3 0)), (1, .ref (o.2.1 11 j))]) hx hb dX3_read_64 hl rfl rfl (by decide) (fun _ => rfl) h ?_
          clear h hl; clear ls; intro v9 ls h hl
          refine lv_goto (tgt := 17) hx hb dX3_read_67 (by decide) ?_
          exact hR7 (v9, M8) h _ _ _ hw (lv_sub hl [1, 2, 0] rfl)
        · clear h; intro h
          refine lv_aload_n hx hb dX3_read_48 rfl (lv_at hl 0 rfl) ?_
          refine lv_aload_n hx hb dX3_read_49 rfl (lv_at hl 0 rfl) ?_
          refine g_getf hx hb hts in_X3 hown hw 3 0 (ci_3 (by decide)) (bi_3 (by decide) hn) rfl rfl 2 (by decide) kX3_19 rfl dX3_read_50 ?_
          refine g_putf hx hb hts in_X3 tyX3 tyX3_ok nmX3 hown hw 3 0 (ci_3 (by decide)) (bi_3 (by decide) hn) rfl 3 (by decide) rfl rfl kX3_22 (by decide +kernel) (by decide +kernel) (by simp) h dX3_read_53 ?_
          clear h hw; intro M10 H locs hw h
          refine lv_goto (tgt := 64) hx hb dX3_read_56 (by decide) ?_
          refine g_iinc (k := 2) (v := (v4 + (1 : Int32))) (lv' := fun v11 => [(2, .int v11), (0, .ref (o.2.1 3 0)), (1, .ref (o.2.1 11 j))]) hx hb dX3_read_64 hl rfl rfl (by decide) (fun _ => rfl) h ?_
          clear h hl; clear ls; intro v11 ls h hl
          refine lv_goto (tgt := 17) hx hb dX3_read_67 (by decide) ?_
          exact hR7 (v11, M10) h _ _ _ hw (lv_sub hl [1, 2, 0] rfl)
abbrev rm_X4_isWithin : Room := { frames := 0, cells := 0, slots := 0, locals := 0 }
set_option maxHeartbeats 4000000 in
set_option maxRecDepth 100000 in
theorem c_X4_isWithin {o : Om} {l : Launch} (hn : 115 ≤ o.2.2.2) {M : Mm} {x0 : Int32} {x1 : Int32} {x2 : Int32} {Q : Int32 → Mm → Prop} (h : w_X4_isWithin M x0 x1 x2 Q) : CZ o l yX4_isWithin cX4_isWithin 3 rm_X4_isWithin [.int x0, .int x1, .int x2] M Q := by
  refine g_start (by decide +kernel) (Nat.le_of_ble_eq_true rfl) ?_
  intro p e s m args below meth c hx hb hr hlocks hml hown hts hw ls hl
  replace hl : lv_has ls 3 [(0, .int x0), (1, .int x1), (2, .int x2)] := hl
  unfold w_X4_isWithin at h
  refine lv_iload_n hx hb dX4_isWithin_0 rfl (lv_at hl 0 rfl) ?_
  refine lv_iload_n hx hb dX4_isWithin_1 rfl (lv_at hl 1 rfl) ?_
  refine g_icmp_lt (tgt := 14) hx hb h dX4_isWithin_2 (by decide) ?_ ?_
  · clear h; intro h
    refine lv_iconst (v := 0) hx hb dX4_isWithin_14 (by decide) ?_
    exact g_zret hx hb hr hlocks hw (Or.inl rfl) h dX4_isWithin_15
  · clear h; intro h
    refine lv_iload_n hx hb dX4_isWithin_5 rfl (lv_at hl 0 rfl) ?_
    refine lv_iload_n hx hb dX4_isWithin_6 rfl (lv_at hl 2 rfl) ?_
    refine g_icmp_gt (tgt := 14) hx hb h dX4_isWithin_7 (by decide) ?_ ?_
    · clear h; intro h
      refine lv_iconst (v := 0) hx hb dX4_isWithin_14 (by decide) ?_
      exact g_zret hx hb hr hlocks hw (Or.inl rfl) h dX4_isWithin_15
    · clear h; intro h
      refine lv_iconst (v := 1) hx hb dX4_isWithin_10 (by decide) ?_
      refine lv_goto (tgt := 15) hx hb dX4_isWithin_11 (by decide) ?_
      exact g_zret hx hb hr hlocks hw (Or.inr rfl) h dX4_isWithin_15
abbrev rm_X4_isDay : Room := { frames := 1, cells := 0, slots := 0, locals := 22 }
set_option maxHeartbeats 4000000 in
set_option maxRecDepth 100000 in
theorem c_X4_isDay {o : Om} {l : Launch} (hn : 115 ≤ o.2.2.2) {M : Mm} {x0 : Int32} {Q : Int32 → Mm → Prop} (h : w_X4_isDay M x0 Q) : CZ o l yX4_isDay cX4_isDay 1 rm_X4_isDay [.int x0] M Q := by
  refine g_start (by decide +kernel) (Nat.le_of_ble_eq_true rfl) ?_
  intro p e s m args below meth c hx hb hr hlocks hml hown hts hw ls hl
  replace hl : lv_has ls 1 [(0, .int x0)] := hl
  unfold w_X4_isDay at h
  refine lv_iload_n hx hb dX4_isDay_0 rfl (lv_at hl 0 rfl) ?_
  refine lv_iconst (v := 0) hx hb dX4_isDay_1 (by decide) ?_
  refine lv_sipush (v := 999) hx hb dX4_isDay_2 (by decide) ?_
  refine g_cz hw (g_runS (As := [.int x0, .int (0 : Int32), .int (999 : Int32)]) (rest := []) hx hb hml hown hts mX4_isWithin sX4_isWithin kX4_60 hw (c_X4_isWithin hn h) rfl rfl ⟨Nat.le_of_ble_eq_true rfl, Nat.le_of_ble_eq_true rfl⟩ rfl hl.1 rfl (Nat.le_of_ble_eq_true rfl) dX4_isDay_5 ⟨Nat.zero_le _, Nat.zero_le _⟩) ?_
  clear h hw; intro v2 M1 H locs hw hz_v2 h
  exact g_zret hx hb hr hlocks hw hz_v2 h dX4_isDay_8
abbrev rm_X4_setPage : Room := { frames := 4, cells := 0, slots := 0, locals := 91 }
set_option maxHeartbeats 4000000 in
set_option maxRecDepth 100000 in
theorem c_X4_setPage {o : Om} {l : Launch} (hn : 115 ≤ o.2.2.2) {M : Mm} {x1 : Int32} {x2 : Int32} {Q : Int32 → Mm → Prop} (h : w_X4_setPage M x1 x2 Q) : CI o l yX4_setPage cX4_setPage 3 rm_X4_setPage [.ref (o.2.1 0 0), .int x1, .int x2] M Q := by
  refine g_start (by decide +kernel) (Nat.le_of_ble_eq_true rfl) ?_
  intro p e s m args below meth c hx hb hr hlocks hml hown hts hw ls hl
  replace hl : lv_has ls 3 [(0, .ref (o.2.1 0 0)), (1, .int x1), (2, .int x2)] := hl
  unfold w_X4_setPage at h
  refine lv_iload_n hx hb dX4_setPage_0 rfl (lv_at hl 1 rfl) ?_
  refine g_cz hw (g_runS (As := [.int x1]) (rest := []) hx hb hml hown hts mX4_isDay sX4_isDay kX4_36 hw (c_X4_isDay hn h) rfl rfl ⟨Nat.le_of_ble_eq_true rfl, Nat.le_of_ble_eq_true rfl⟩ rfl hl.1 rfl (Nat.le_of_ble_eq_true rfl) dX4_setPage_1 ⟨Nat.zero_le _, Nat.zero_le _⟩) ?_
  clear h hw; intro v2 M1 H locs hw hz_v2 h
  refine g_if_eq (tgt := 27) hx hb h dX4_setPage_4 (by decide) ?_ ?_
  · clear h; intro h
    refine lv_iconst (v := (-1)) hx hb dX4_setPage_27 (by decide) ?_
    exact g_iret hx hb hr hlocks hw h dX4_setPage_28
  · clear h; intro h
    refine lv_iload_n hx hb dX4_setPage_7 rfl (lv_at hl 2 rfl) ?_
    refine g_cz hw (g_runS (As := [.int x2]) (rest := []) hx hb hml hown hts mX4_isDay sX4_isDay kX4_36 hw (c_X4_isDay hn h) rfl rfl ⟨Nat.le_of_ble_eq_true rfl, Nat.le_of_ble_eq_true rfl⟩ rfl hl.1 rfl (Nat.le_of_ble_eq_true rfl) dX4_setPage_8 ⟨Nat.zero_le _, Nat.zero_le _⟩) ?_
    clear h hw; intro v4 M3 H locs hw hz_v4 h
    refine g_if_eq (tgt := 27) hx hb h dX4_setPage_11 (by decide) ?_ ?_
    · clear h; intro h
      refine lv_iconst (v := (-1)) hx hb dX4_setPage_27 (by decide) ?_
      exact g_iret hx hb hr hlocks hw h dX4_setPage_28
    · clear h; intro h
      refine lv_iload_n hx hb dX4_setPage_14 rfl (lv_at hl 2 rfl) ?_
      refine lv_iload_n hx hb dX4_setPage_15 rfl (lv_at hl 1 rfl) ?_
      refine g_icmp_lt (tgt := 27) hx hb h dX4_setPage_16 (by decide) ?_ ?_
      · clear h; intro h
        refine lv_iconst (v := (-1)) hx hb dX4_setPage_27 (by decide) ?_
        exact g_iret hx hb hr hlocks hw h dX4_setPage_28
      · clear h; intro h
        refine lv_iload_n hx hb dX4_setPage_19 rfl (lv_at hl 2 rfl) ?_
        refine lv_iload_n hx hb dX4_setPage_20 rfl (lv_at hl 1 rfl) ?_
        refine lv_isub hx hb dX4_setPage_21 ?_
        refine lv_bipush (v := 42) hx hb dX4_setPage_22 (by decide) ?_
        refine g_icmp_lt (tgt := 29) hx hb h dX4_setPage_24 (by decide) ?_ ?_
        · clear h; intro h
          refine lv_aload_n hx hb dX4_setPage_29 rfl (lv_at hl 0 rfl) ?_
          refine g_getf hx hb hts in_X4 hown hw 0 0 (ci_0 (by decide)) (bi_0 (by decide) hn) rfl rfl 2 (by decide) kX4_22 rfl dX4_setPage_30 ?_
          refine lv_aload_n hx hb dX4_setPage_33 rfl (lv_at hl 0 rfl) ?_
          refine g_getf hx hb hts in_X4 hown hw 0 0 (ci_0 (by decide)) (bi_0 (by decide) hn) rfl rfl 0 (by decide) kX4_10 rfl dX4_setPage_34 ?_
          refine g_getf hx hb hts in_X0 hown hw 5 0 (ci_5 (by decide)) (bi_5 (by decide) hn) rfl rfl 0 (by decide) kX4_40 rfl dX4_setPage_37 ?_
          refine g_cv hw (g_runV (As := [.ref (o.2.1 11 0)]) (rest := []) hx hb hml hown hts mX1_record vX1_record kX4_44 hw 1 0 (ci_1 (by decide)) (bi_1 (by decide) hn) rfl rfl (c_X1_record hn (by decide) h) rfl rfl ⟨Nat.le_of_ble_eq_true rfl, Nat.le_of_ble_eq_true rfl⟩ rfl hl.1 rfl (Nat.le_of_ble_eq_true rfl) dX4_setPage_40 ⟨Nat.zero_le _, Nat.zero_le _⟩) ?_
          clear h hw; intro M5 H locs hw h
          refine lv_aload_n hx hb dX4_setPage_43 rfl (lv_at hl 0 rfl) ?_
          refine g_getf hx hb hts in_X4 hown hw 0 0 (ci_0 (by decide)) (bi_0 (by decide) hn) rfl rfl 0 (by decide) kX4_10 rfl dX4_setPage_44 ?_
          refine g_getf hx hb hts in_X0 hown hw 5 0 (ci_5 (by decide)) (bi_5 (by decide) hn) rfl rfl 0 (by decide) kX4_40 rfl dX4_setPage_47 ?_
          refine lv_iload_n hx hb dX4_setPage_50 rfl (lv_at hl 1 rfl) ?_
          refine g_putf hx hb hts in_X2 tyX2 tyX2_ok nmX2 hown hw 11 0 (ci_11 (by decide)) (bi_11 (by decide) hn) rfl 0 (by decide) rfl rfl kX4_48 (by decide +kernel) (by decide +kernel) (by simp) h dX4_setPage_51 ?_
          clear h hw; intro M6 H locs hw h
          refine lv_aload_n hx hb dX4_setPage_54 rfl (lv_at hl 0 rfl) ?_
          refine g_getf hx hb hts in_X4 hown hw 0 0 (ci_0 (by decide)) (bi_0 (by decide) hn) rfl rfl 0 (by decide) kX4_10 rfl dX4_setPage_55 ?_
          refine g_getf hx hb hts in_X0 hown hw 5 0 (ci_5 (by decide)) (bi_5 (by decide) hn) rfl rfl 0 (by decide) kX4_40 rfl dX4_setPage_58 ?_
          refine lv_iload_n hx hb dX4_setPage_61 rfl (lv_at hl 2 rfl) ?_
          refine g_putf hx hb hts in_X2 tyX2 tyX2_ok nmX2 hown hw 11 0 (ci_11 (by decide)) (bi_11 (by decide) hn) rfl 1 (by decide) rfl rfl kX4_54 (by decide +kernel) (by decide +kernel) (by simp) h dX4_setPage_62 ?_
          clear h hw; intro M7 H locs hw h
          refine lv_aload_n hx hb dX4_setPage_65 rfl (lv_at hl 0 rfl) ?_
          refine g_getf hx hb hts in_X4 hown hw 0 0 (ci_0 (by decide)) (bi_0 (by decide) hn) rfl rfl 0 (by decide) kX4_10 rfl dX4_setPage_66 ?_
          refine g_cv hw (g_runV (As := []) (rest := []) hx hb hml hown hts mX0_lay vX0_lay kX4_33 hw 5 0 (ci_5 (by decide)) (bi_5 (by decide) hn) rfl rfl (c_X0_lay hn (by decide) h) rfl rfl ⟨Nat.le_of_ble_eq_true rfl, Nat.le_of_ble_eq_true rfl⟩ rfl hl.1 rfl (Nat.le_of_ble_eq_true rfl) dX4_setPage_69 ⟨Nat.zero_le _, Nat.zero_le _⟩) ?_
          clear h hw; intro M8 H locs hw h
          refine lv_aload_n hx hb dX4_setPage_72 rfl (lv_at hl 0 rfl) ?_
          refine g_getf hx hb hts in_X4 hown hw 0 0 (ci_0 (by decide)) (bi_0 (by decide) hn) rfl rfl 0 (by decide) kX4_10 rfl dX4_setPage_73 ?_
          refine g_getf hx hb hts in_X0 hown hw 5 0 (ci_5 (by decide)) (bi_5 (by decide) hn) rfl rfl 1 (by decide) kX4_57 rfl dX4_setPage_76 ?_
          exact g_iret hx hb hr hlocks hw h dX4_setPage_79
        · clear h; intro h
          refine lv_iconst (v := (-1)) hx hb dX4_setPage_27 (by decide) ?_
          exact g_iret hx hb hr hlocks hw h dX4_setPage_28
abbrev rm_X4_setWeek : Room := { frames := 4, cells := 0, slots := 0, locals := 91 }
set_option maxHeartbeats 4000000 in
set_option maxRecDepth 100000 in
theorem c_X4_setWeek {o : Om} {l : Launch} (hn : 115 ≤ o.2.2.2) {M : Mm} {x1 : Int32} {Q : Int32 → Mm → Prop} (h : w_X4_setWeek M x1 Q) : CI o l yX4_setWeek cX4_setWeek 2 rm_X4_setWeek [.ref (o.2.1 0 0), .int x1] M Q := by
  refine g_start (by decide +kernel) (Nat.le_of_ble_eq_true rfl) ?_
  intro p e s m args below meth c hx hb hr hlocks hml hown hts hw ls hl
  replace hl : lv_has ls 2 [(0, .ref (o.2.1 0 0)), (1, .int x1)] := hl
  unfold w_X4_setWeek at h
  refine lv_iload_n hx hb dX4_setWeek_0 rfl (lv_at hl 1 rfl) ?_
  refine lv_iconst (v := 0) hx hb dX4_setWeek_1 (by decide) ?_
  refine lv_bipush (v := 6) hx hb dX4_setWeek_2 (by decide) ?_
  refine g_cz hw (g_runS (As := [.int x1, .int (0 : Int32), .int (6 : Int32)]) (rest := []) hx hb hml hown hts mX4_isWithin sX4_isWithin kX4_60 hw (c_X4_isWithin hn h) rfl rfl ⟨Nat.le_of_ble_eq_true rfl, Nat.le_of_ble_eq_true rfl⟩ rfl hl.1 rfl (Nat.le_of_ble_eq_true rfl) dX4_setWeek_4 ⟨Nat.zero_le _, Nat.zero_le _⟩) ?_
  clear h hw; intro v2 M1 H locs hw hz_v2 h
  refine g_if_ne (tgt := 12) hx hb h dX4_setWeek_7 (by decide) ?_ ?_
  · clear h; intro h
    refine lv_aload_n hx hb dX4_setWeek_12 rfl (lv_at hl 0 rfl) ?_
    refine g_getf hx hb hts in_X4 hown hw 0 0 (ci_0 (by decide)) (bi_0 (by decide) hn) rfl rfl 2 (by decide) kX4_22 rfl dX4_setWeek_13 ?_
    refine lv_aload_n hx hb dX4_setWeek_16 rfl (lv_at hl 0 rfl) ?_
    refine g_getf hx hb hts in_X4 hown hw 0 0 (ci_0 (by decide)) (bi_0 (by decide) hn) rfl rfl 0 (by decide) kX4_10 rfl dX4_setWeek_17 ?_
    refine g_getf hx hb hts in_X0 hown hw 5 0 (ci_5 (by decide)) (bi_5 (by decide) hn) rfl rfl 0 (by decide) kX4_40 rfl dX4_setWeek_20 ?_
    refine g_cv hw (g_runV (As := [.ref (o.2.1 11 0)]) (rest := []) hx hb hml hown hts mX1_record vX1_record kX4_44 hw 1 0 (ci_1 (by decide)) (bi_1 (by decide) hn) rfl rfl (c_X1_record hn (by decide) h) rfl rfl ⟨Nat.le_of_ble_eq_true rfl, Nat.le_of_ble_eq_true rfl⟩ rfl hl.1 rfl (Nat.le_of_ble_eq_true rfl) dX4_setWeek_23 ⟨Nat.zero_le _, Nat.zero_le _⟩) ?_
    clear h hw; intro M3 H locs hw h
    refine lv_aload_n hx hb dX4_setWeek_26 rfl (lv_at hl 0 rfl) ?_
    refine g_getf hx hb hts in_X4 hown hw 0 0 (ci_0 (by decide)) (bi_0 (by decide) hn) rfl rfl 0 (by decide) kX4_10 rfl dX4_setWeek_27 ?_
    refine g_getf hx hb hts in_X0 hown hw 5 0 (ci_5 (by decide)) (bi_5 (by decide) hn) rfl rfl 0 (by decide) kX4_40 rfl dX4_setWeek_30 ?_
    refine lv_iload_n hx hb dX4_setWeek_33 rfl (lv_at hl 1 rfl) ?_
    refine g_putf hx hb hts in_X2 tyX2 tyX2_ok nmX2 hown hw 11 0 (ci_11 (by decide)) (bi_11 (by decide) hn) rfl 2 (by decide) rfl rfl kX4_64 (by decide +kernel) (by decide +kernel) (by simp) h dX4_setWeek_34 ?_
    clear h hw; intro M4 H locs hw h
    refine lv_aload_n hx hb dX4_setWeek_37 rfl (lv_at hl 0 rfl) ?_
    refine g_getf hx hb hts in_X4 hown hw 0 0 (ci_0 (by decide)) (bi_0 (by decide) hn) rfl rfl 0 (by decide) kX4_10 rfl dX4_setWeek_38 ?_
    refine g_cv hw (g_runV (As := []) (rest := []) hx hb hml hown hts mX0_lay vX0_lay kX4_33 hw 5 0 (ci_5 (by decide)) (bi_5 (by decide) hn) rfl rfl (c_X0_lay hn (by decide) h) rfl rfl ⟨Nat.le_of_ble_eq_true rfl, Nat.le_of_ble_eq_true rfl⟩ rfl hl.1 rfl (Nat.le_of_ble_eq_true rfl) dX4_setWeek_41 ⟨Nat.zero_le _, Nat.zero_le _⟩) ?_
    clear h hw; intro M5 H locs hw h
    refine lv_aload_n hx hb dX4_setWeek_44 rfl (lv_at hl 0 rfl) ?_
    refine g_getf hx hb hts in_X4 hown hw 0 0 (ci_0 (by decide)) (bi_0 (by decide) hn) rfl rfl 0 (by decide) kX4_10 rfl dX4_setWeek_45 ?_
    refine g_getf hx hb hts in_X0 hown hw 5 0 (ci_5 (by decide)) (bi_5 (by decide) hn) rfl rfl 1 (by decide) kX4_57 rfl dX4_setWeek_48 ?_
    exact g_iret hx hb hr hlocks hw h dX4_setWeek_51
  · clear h; intro h
    refine lv_iconst (v := (-1)) hx hb dX4_setWeek_10 (by decide) ?_
    exact g_iret hx hb hr hlocks hw h dX4_setWeek_11
abbrev rm_X4_setRows : Room := { frames := 2, cells := 0, slots := 0, locals := 43 }
set_option maxHeartbeats 4000000 in
set_option maxRecDepth 100000 in
theorem c_X4_setRows {o : Om} {l : Launch} (hn : 115 ≤ o.2.2.2) {M : Mm} {x1 : Int32} {Q : Int32 → Mm → Prop} (h : w_X4_setRows M x1 Q) : CI o l yX4_setRows cX4_setRows 3 rm_X4_setRows [.ref (o.2.1 0 0), .int x1] M Q := by
  refine g_start (by decide +kernel) (Nat.le_of_ble_eq_true rfl) ?_
  intro p e s m args below meth c hx hb hr hlocks hml hown hts hw ls hl
  replace hl : lv_has ls 3 [(0, .ref (o.2.1 0 0)), (1, .int x1)] := hl
  unfold w_X4_setRows at h
  refine lv_iload_n hx hb dX4_setRows_0 rfl (lv_at hl 1 rfl) ?_
  refine lv_iconst (v := 1) hx hb dX4_setRows_1 (by decide) ?_
  refine lv_bipush (v := 12) hx hb dX4_setRows_2 (by decide) ?_
  refine g_cz hw (g_runS (As := [.int x1, .int (1 : Int32), .int (12 : Int32)]) (rest := []) hx hb hml hown hts mX4_isWithin sX4_isWithin kX4_60 hw (c_X4_isWithin hn h) rfl rfl ⟨Nat.le_of_ble_eq_true rfl, Nat.le_of_ble_eq_true rfl⟩ rfl hl.1 rfl (Nat.le_of_ble_eq_true rfl) dX4_setRows_4 ⟨Nat.zero_le _, Nat.zero_le _⟩) ?_
  clear h hw; intro v2 M1 H locs hw hz_v2 h
  refine g_if_ne (tgt := 12) hx hb h dX4_setRows_7 (by decide) ?_ ?_
  · clear h; intro h
    refine lv_aload_n hx hb dX4_setRows_12 rfl (lv_at hl 0 rfl) ?_
    refine g_getf hx hb hts in_X4 hown hw 0 0 (ci_0 (by decide)) (bi_0 (by decide) hn) rfl rfl 2 (by decide) kX4_22 rfl dX4_setRows_13 ?_
    refine lv_aload_n hx hb dX4_setRows_16 rfl (lv_at hl 0 rfl) ?_
    refine g_getf hx hb hts in_X4 hown hw 0 0 (ci_0 (by decide)) (bi_0 (by decide) hn) rfl rfl 0 (by decide) kX4_10 rfl dX4_setRows_17 ?_
    refine g_getf hx hb hts in_X0 hown hw 5 0 (ci_5 (by decide)) (bi_5 (by decide) hn) rfl rfl 0 (by decide) kX4_40 rfl dX4_setRows_20 ?_
    refine g_cv hw (g_runV (As := [.ref (o.2.1 11 0)]) (rest := []) hx hb hml hown hts mX1_record vX1_record kX4_44 hw 1 0 (ci_1 (by decide)) (bi_1 (by decide) hn) rfl rfl (c_X1_record hn (by decide) h) rfl rfl ⟨Nat.le_of_ble_eq_true rfl, Nat.le_of_ble_eq_true rfl⟩ rfl hl.1 rfl (Nat.le_of_ble_eq_true rfl) dX4_setRows_23 ⟨Nat.zero_le _, Nat.zero_le _⟩) ?_
    clear h hw; intro M3 H locs hw h
    refine lv_aload_n hx hb dX4_setRows_26 rfl (lv_at hl 0 rfl) ?_
    refine g_getf hx hb hts in_X4 hown hw 0 0 (ci_0 (by decide)) (bi_0 (by decide) hn) rfl rfl 0 (by decide) kX4_10 rfl dX4_setRows_27 ?_
    refine g_getf hx hb hts in_X0 hown hw 5 0 (ci_5 (by decide)) (bi_5 (by decide) hn) rfl rfl 0 (by decide) kX4_40 rfl dX4_setRows_30 ?_
    refine g_getf hx hb hts in_X2 hown hw 11 0 (ci_11 (by decide)) (bi_11 (by decide) hn) rfl rfl 3 (by decide) kX4_67 rfl dX4_setRows_33 ?_
    refine g_topi h ?_
    clear h; intro v4 h
    refine lv_istore_n (lv' := [(2, .int v4), (0, .ref (o.2.1 0 0)), (1, .int x1)]) hx hb dX4_setRows_36 rfl hl (by decide) rfl ?_
    clear hl; clear ls; intro ls hl
    refine lv_aload_n hx hb dX4_setRows_37 rfl (lv_at hl 1 rfl) ?_
    refine g_getf hx hb hts in_X4 hown hw 0 0 (ci_0 (by decide)) (bi_0 (by decide) hn) rfl rfl 0 (by decide) kX4_10 rfl dX4_setRows_38 ?_
    refine g_getf hx hb hts in_X0 hown hw 5 0 (ci_5 (by decide)) (bi_5 (by decide) hn) rfl rfl 0 (by decide) kX4_40 rfl dX4_setRows_41 ?_
    refine lv_iload_n hx hb dX4_setRows_44 rfl (lv_at hl 2 rfl) ?_
    refine g_putf hx hb hts in_X2 tyX2 tyX2_ok nmX2 hown hw 11 0 (ci_11 (by decide)) (bi_11 (by decide) hn) rfl 3 (by decide) rfl rfl kX4_67 (by decide +kernel) (by decide +kernel) (by simp) h dX4_setRows_45 ?_
    clear h hw; intro M5 H locs hw h
    refine lv_iload_n hx hb dX4_setRows_48 rfl (lv_at hl 0 rfl) ?_
    exact g_iret hx hb hr hlocks hw h dX4_setRows_49
  · clear h; intro h
    refine lv_iconst (v := (-1)) hx hb dX4_setRows_10 (by decide) ?_
    exact g_iret hx hb hr hlocks hw h dX4_setRows_11
abbrev rm_X4_week : Room := { frames := 3, cells := 0, slots := 0, locals := 68 }
set_option maxHeartbeats 4000000 in
set_option maxRecDepth 100000 in
theorem c_X4_week {o : Om} {l : Launch} (hn : 115 ≤ o.2.2.2) {M : Mm} {x1 : Int32} {x2 : Int32} {Q : Int32 → Mm → Prop} (h : w_X4_week M x1 x2 Q) : CI o l yX4_week cX4_week 5 rm_X4_week [.ref (o.2.1 0 0), .int x1, .int x2] M Q := by
  refine g_start (by decide +kernel) (Nat.le_of_ble_eq_true rfl) ?_
  intro p e s m args below meth c hx hb hr hlocks hml hown hts hw ls hl
  replace hl : lv_has ls 5 [(0, .ref (o.2.1 0 0)), (1, .int x1), (2, .int x2)] := hl
  unfold w_X4_week at h
  refine lv_iload_n hx hb dX4_week_0 rfl (lv_at hl 1 rfl) ?_
  refine g_if_lt (tgt := 13) hx hb h dX4_week_1 (by decide) ?_ ?_
  · clear h; intro h
    refine lv_iconst (v := (-1)) hx hb dX4_week_13 (by decide) ?_
    exact g_iret hx hb hr hlocks hw h dX4_week_14
  · clear h; intro h
    refine lv_iload_n hx hb dX4_week_4 rfl (lv_at hl 2 rfl) ?_
    refine lv_iconst (v := 0) hx hb dX4_week_5 (by decide) ?_
    refine lv_iconst (v := 5) hx hb dX4_week_6 (by decide) ?_
    refine g_cz hw (g_runS (As := [.int x2, .int (0 : Int32), .int (5 : Int32)]) (rest := []) hx hb hml hown hts mX4_isWithin sX4_isWithin kX4_60 hw (c_X4_isWithin hn h) rfl rfl ⟨Nat.le_of_ble_eq_true rfl, Nat.le_of_ble_eq_true rfl⟩ rfl hl.1 rfl (Nat.le_of_ble_eq_true rfl) dX4_week_7 ⟨Nat.zero_le _, Nat.zero_le _⟩) ?_
    clear h hw; intro v2 M1 H locs hw hz_v2 h
    refine g_if_ne (tgt := 15) hx hb h dX4_week_10 (by decide) ?_ ?_
    · clear h; intro h
      refine lv_iload_n hx hb dX4_week_15 rfl (lv_at hl 1 rfl) ?_
      refine lv_aload_n hx hb dX4_week_16 rfl (lv_at hl 0 rfl) ?_
      refine g_getf hx hb hts in_X4 hown hw 0 0 (ci_0 (by decide)) (bi_0 (by decide) hn) rfl rfl 0 (by decide) kX4_10 rfl dX4_week_17 ?_
      refine g_getf hx hb hts in_X0 hown hw 5 0 (ci_5 (by decide)) (bi_5 (by decide) hn) rfl rfl 1 (by decide) kX4_57 rfl dX4_week_20 ?_
      refine g_icmp_lt (tgt := 29) hx hb h dX4_week_23 (by decide) ?_ ?_
      · clear h; intro h
        refine lv_aload_n hx hb dX4_week_29 rfl (lv_at hl 0 rfl) ?_
        refine g_getf hx hb hts in_X4 hown hw 0 0 (ci_0 (by decide)) (bi_0 (by decide) hn) rfl rfl 0 (by decide) kX4_10 rfl dX4_week_30 ?_
        refine lv_iload_n hx hb dX4_week_33 rfl (lv_at hl 1 rfl) ?_
        refine g_ci hw (g_runV (As := [.int x1]) (rest := []) hx hb hml hown hts mX0_firstOfWeek vX0_firstOfWeek kX4_70 hw 5 0 (ci_5 (by decide)) (bi_5 (by decide) hn) rfl rfl (c_X0_firstOfWeek hn (by decide) h) rfl rfl ⟨Nat.le_of_ble_eq_true rfl, Nat.le_of_ble_eq_true rfl⟩ rfl hl.1 rfl (Nat.le_of_ble_eq_true rfl) dX4_week_34 ⟨Nat.zero_le _, Nat.zero_le _⟩) ?_
        clear h hw; intro v4 M3 H locs hw h
        refine lv_istore_n (lv' := [(3, .int v4), (0, .ref (o.2.1 0 0)), (1, .int x1), (2, .int x2)]) hx hb dX4_week_37 rfl hl (by decide) rfl ?_
        clear hl; clear ls; intro ls hl
        refine lv_aload_n hx hb dX4_week_38 rfl (lv_at hl 1 rfl) ?_
        refine g_getf hx hb hts in_X4 hown hw 0 0 (ci_0 (by decide)) (bi_0 (by decide) hn) rfl rfl 0 (by decide) kX4_10 rfl dX4_week_39 ?_
        refine lv_iload_n hx hb dX4_week_42 rfl (lv_at hl 2 rfl) ?_
        refine g_ci hw (g_runV (As := [.int x1]) (rest := []) hx hb hml hown hts mX0_lastOfWeek vX0_lastOfWeek kX4_74 hw 5 0 (ci_5 (by decide)) (bi_5 (by decide) hn) rfl rfl (c_X0_lastOfWeek hn (by decide) h) rfl rfl ⟨Nat.le_of_ble_eq_true rfl, Nat.le_of_ble_eq_true rfl⟩ rfl hl.1 rfl (Nat.le_of_ble_eq_true rfl) dX4_week_43 ⟨Nat.zero_le _, Nat.zero_le _⟩) ?_
        clear h hw; intro v6 M5 H locs hw h
        refine lv_istore (lv' := [(4, .int v6), (3, .int v4), (0, .ref (o.2.1 0 0)), (1, .int x1), (2, .int x2)]) hx hb dX4_week_46 hl (by decide) rfl ?_
        clear hl; clear ls; intro ls hl
        refine lv_iload_n hx hb dX4_week_48 rfl (lv_at hl 4 rfl) ?_
        by_cases c0 : x2 = (0 : Int32)
        · rw [if_pos c0] at h
          refine lv_tableIn (tgt := 84) hx hb dX4_week_49 (by rw [c0]; decide) (by rw [c0]; decide) (by rw [c0]; rfl) (by decide) ?_
          clear c0
          refine lv_iload_n hx hb dX4_week_84 rfl (lv_at hl 1 rfl) ?_
          exact g_iret hx hb hr hlocks hw h dX4_week_85
        rw [if_neg c0] at h
        by_cases c1 : x2 = (1 : Int32)
        · rw [if_pos c1] at h
          refine lv_tableIn (tgt := 86) hx hb dX4_week_49 (by rw [c1]; decide) (by rw [c1]; decide) (by rw [c1]; rfl) (by decide) ?_
          clear c1
          refine lv_iload hx hb dX4_week_86 (lv_at hl 0 rfl) ?_
          exact g_iret hx hb hr hlocks hw h dX4_week_88
        rw [if_neg c1] at h
        by_cases c2 : x2 = (2 : Int32)
        · rw [if_pos c2] at h
          refine lv_tableIn (tgt := 89) hx hb dX4_week_49 (by rw [c2]; decide) (by rw [c2]; decide) (by rw [c2]; rfl) (by decide) ?_
          clear c2
          refine lv_aload_n hx hb dX4_week_89 rfl (lv_at hl 2 rfl) ?_
          refine g_getf hx hb hts in_X4 hown hw 0 0 (ci_0 (by decide)) (bi_0 (by decide) hn) rfl rfl 0 (by decide) kX4_10 rfl dX4_week_90 ?_
          refine lv_iload_n hx hb dX4_week_93 rfl (lv_at hl 3 rfl) ?_
          refine g_ci hw (g_runV (As := [.int x1]) (rest := []) hx hb hml hown hts mX0_barsInWeek vX0_barsInWeek kX4_77 hw 5 0 (ci_5 (by decide)) (bi_5 (by decide) hn) rfl rfl (c_X0_barsInWeek hn (by decide) h) rfl rfl ⟨Nat.le_of_ble_eq_true rfl, Nat.le_of_ble_eq_true rfl⟩ rfl hl.1 rfl (Nat.le_of_ble_eq_true rfl) dX4_week_94 ⟨Nat.zero_le _, Nat.zero_le _⟩) ?_
          clear h hw; intro v8 M7 H locs hw h
          exact g_iret hx hb hr hlocks hw h dX4_week_97
        rw [if_neg c2] at h
        by_cases c3 : x2 = (3 : Int32)
        · rw [if_pos c3] at h
          refine lv_tableIn (tgt := 98) hx hb dX4_week_49 (by rw [c3]; decide) (by rw [c3]; decide) (by rw [c3]; rfl) (by decide) ?_
          clear c3
          refine lv_aload_n hx hb dX4_week_98 rfl (lv_at hl 2 rfl) ?_
          refine g_getf hx hb hts in_X4 hown hw 0 0 (ci_0 (by decide)) (bi_0 (by decide) hn) rfl rfl 0 (by decide) kX4_10 rfl dX4_week_99 ?_
          refine lv_iload_n hx hb dX4_week_102 rfl (lv_at hl 3 rfl) ?_
          refine g_ci hw (g_runV (As := [.int x1]) (rest := []) hx hb hml hown hts mX0_lanesInWeek vX0_lanesInWeek kX4_80 hw 5 0 (ci_5 (by decide)) (bi_5 (by decide) hn) rfl rfl (c_X0_lanesInWeek hn (by decide) h) rfl rfl ⟨Nat.le_of_ble_eq_true rfl, Nat.le_of_ble_eq_true rfl⟩ rfl hl.1 rfl (Nat.le_of_ble_eq_true rfl) dX4_week_103 ⟨Nat.zero_le _, Nat.zero_le _⟩) ?_
          clear h hw; intro v10 M9 H locs hw h
          exact g_iret hx hb hr hlocks hw h dX4_week_106
        rw [if_neg c3] at h
        by_cases c4 : x2 = (4 : Int32)
        · rw [if_pos c4] at h
          refine lv_tableIn (tgt := 107) hx hb dX4_week_49 (by rw [c4]; decide) (by rw [c4]; decide) (by rw [c4]; rfl) (by decide) ?_
          clear c4
          refine lv_aload_n hx hb dX4_week_107 rfl (lv_at hl 2 rfl) ?_
          refine g_getf hx hb hts in_X4 hown hw 0 0 (ci_0 (by decide)) (bi_0 (by decide) hn) rfl rfl 0 (by decide) kX4_10 rfl dX4_week_108 ?_
          refine g_getf hx hb hts in_X0 hown hw 5 0 (ci_5 (by decide)) (bi_5 (by decide) hn) rfl rfl 0 (by decide) kX4_40 rfl dX4_week_111 ?_
          refine lv_iload_n hx hb dX4_week_114 rfl (lv_at hl 1 rfl) ?_
          refine lv_iload hx hb dX4_week_115 (lv_at hl 0 rfl) ?_
          refine g_ci hw (g_runV (As := [.int v4, .int v6]) (rest := []) hx hb hml hown hts mX2_shortOnes vX2_shortOnes kX4_83 hw 11 0 (ci_11 (by decide)) (bi_11 (by decide) hn) rfl rfl (c_X2_shortOnes hn (by decide) h) rfl rfl ⟨Nat.le_of_ble_eq_true rfl, Nat.le_of_ble_eq_true rfl⟩ rfl hl.1 rfl (Nat.le_of_ble_eq_true rfl) dX4_week_117 ⟨Nat.zero_le _, Nat.zero_le _⟩) ?_
          clear h hw; intro v12 M11 H locs hw h
          exact g_iret hx hb hr hlocks hw h dX4_week_120
        rw [if_neg c4] at h
        refine lv_tableOut (tgt := 121) hx hb dX4_week_49 (tbl_out (fun k h1 => by rcases (show k = 0 ∨ k = 1 ∨ k = 2 ∨ k = 3 ∨ k = 4 by omega) with rfl | rfl | rfl | rfl | rfl <;> assumption)) (by decide) ?_
        clear c0 c1 c2 c3 c4
        refine lv_aload_n hx hb dX4_week_121 rfl (lv_at hl 2 rfl) ?_
        refine g_getf hx hb hts in_X4 hown hw 0 0 (ci_0 (by decide)) (bi_0 (by decide) hn) rfl rfl 0 (by decide) kX4_10 rfl dX4_week_122 ?_
        refine lv_iload_n hx hb dX4_week_125 rfl (lv_at hl 1 rfl) ?_
        refine lv_iload hx hb dX4_week_126 (lv_at hl 0 rfl) ?_
        refine lv_aload_n hx hb dX4_week_128 rfl (lv_at hl 2 rfl) ?_
        refine g_getf hx hb hts in_X4 hown hw 0 0 (ci_0 (by decide)) (bi_0 (by decide) hn) rfl rfl 0 (by decide) kX4_10 rfl dX4_week_129 ?_
        refine g_getf hx hb hts in_X0 hown hw 5 0 (ci_5 (by decide)) (bi_5 (by decide) hn) rfl rfl 0 (by decide) kX4_40 rfl dX4_week_132 ?_
        refine g_getf hx hb hts in_X2 hown hw 11 0 (ci_11 (by decide)) (bi_11 (by decide) hn) rfl rfl 3 (by decide) kX4_67 rfl dX4_week_135 ?_
        refine g_ci hw (g_runV (As := [.int v4, .int v6, .int (M5 11 0 3)]) (rest := []) hx hb hml hown hts mX0_hiddenOnDays vX0_hiddenOnDays kX4_87 hw 5 0 (ci_5 (by decide)) (bi_5 (by decide) hn) rfl rfl (c_X0_hiddenOnDays hn (by decide) h) rfl rfl ⟨Nat.le_of_ble_eq_true rfl, Nat.le_of_ble_eq_true rfl⟩ rfl hl.1 rfl (Nat.le_of_ble_eq_true rfl) dX4_week_138 ⟨Nat.zero_le _, Nat.zero_le _⟩) ?_
        clear h hw; intro v14 M13 H locs hw h
        exact g_iret hx hb hr hlocks hw h dX4_week_141
      · clear h; intro h
        refine lv_bipush (v := (-9)) hx hb dX4_week_26 (by decide) ?_
        exact g_iret hx hb hr hlocks hw h dX4_week_28
    · clear h; intro h
      refine lv_iconst (v := (-1)) hx hb dX4_week_13 (by decide) ?_
      exact g_iret hx hb hr hlocks hw h dX4_week_14
abbrev rm_X4_type : Room := { frames := 1, cells := 0, slots := 0, locals := 22 }
set_option maxHeartbeats 4000000 in
set_option maxRecDepth 100000 in
theorem c_X4_type {o : Om} {l : Launch} (hn : 115 ≤ o.2.2.2) {M : Mm} {x1 : Int32} {Q : Int32 → Mm → Prop} (h : w_X4_type M x1 Q) : CI o l yX4_type cX4_type 2 rm_X4_type [.ref (o.2.1 0 0), .int x1] M Q := by
  refine g_start (by decide +kernel) (Nat.le_of_ble_eq_true rfl) ?_
  intro p e s m args below meth c hx hb hr hlocks hml hown hts hw ls hl
  replace hl : lv_has ls 2 [(0, .ref (o.2.1 0 0)), (1, .int x1)] := hl
  unfold w_X4_type at h
  refine lv_iload_n hx hb dX4_type_0 rfl (lv_at hl 1 rfl) ?_
  refine lv_bipush (v := 33) hx hb dX4_type_1 (by decide) ?_
  refine lv_bipush (v := 126) hx hb dX4_type_3 (by decide) ?_
  refine g_cz hw (g_runS (As := [.int x1, .int (33 : Int32), .int (126 : Int32)]) (rest := []) hx hb hml hown hts mX4_isWithin sX4_isWithin kX4_60 hw (c_X4_isWithin hn h) rfl rfl ⟨Nat.le_of_ble_eq_true rfl, Nat.le_of_ble_eq_true rfl⟩ rfl hl.1 rfl (Nat.le_of_ble_eq_true rfl) dX4_type_5 ⟨Nat.zero_le _, Nat.zero_le _⟩) ?_
  clear h hw; intro v2 M1 H locs hw hz_v2 h
  refine g_if_ne (tgt := 13) hx hb h dX4_type_8 (by decide) ?_ ?_
  · clear h; intro h
    refine lv_aload_n hx hb dX4_type_13 rfl (lv_at hl 0 rfl) ?_
    refine g_getf hx hb hts in_X4 hown hw 0 0 (ci_0 (by decide)) (bi_0 (by decide) hn) rfl rfl 3 (by decide) kX4_29 rfl dX4_type_14 ?_
    refine g_getf hx hb hts in_X3 hown hw 3 0 (ci_3 (by decide)) (bi_3 (by decide) hn) rfl rfl 1 (by decide) kX4_91 rfl dX4_type_17 ?_
    refine lv_bipush (v := 100) hx hb dX4_type_20 (by decide) ?_
    refine g_icmp_lt (tgt := 28) hx hb h dX4_type_22 (by decide) ?_ ?_
    · clear h; intro h
      refine lv_aload_n hx hb dX4_type_28 rfl (lv_at hl 0 rfl) ?_
      refine g_getf hx hb hts in_X4 hown hw 0 0 (ci_0 (by decide)) (bi_0 (by decide) hn) rfl rfl 3 (by decide) kX4_29 rfl dX4_type_29 ?_
      refine lv_iload_n hx hb dX4_type_32 rfl (lv_at hl 1 rfl) ?_
      refine g_cv hw (g_runV (As := [.int x1]) (rest := []) hx hb hml hown hts mX3_append vX3_append kX4_94 hw 3 0 (ci_3 (by decide)) (bi_3 (by decide) hn) rfl rfl (c_X3_append hn h) rfl rfl ⟨Nat.le_of_ble_eq_true rfl, Nat.le_of_ble_eq_true rfl⟩ rfl hl.1 rfl (Nat.le_of_ble_eq_true rfl) dX4_type_33 ⟨Nat.zero_le _, Nat.zero_le _⟩) ?_
      clear h hw; intro M3 H locs hw h
      refine lv_aload_n hx hb dX4_type_36 rfl (lv_at hl 0 rfl) ?_
      refine g_getf hx hb hts in_X4 hown hw 0 0 (ci_0 (by decide)) (bi_0 (by decide) hn) rfl rfl 3 (by decide) kX4_29 rfl dX4_type_37 ?_
      refine g_getf hx hb hts in_X3 hown hw 3 0 (ci_3 (by decide)) (bi_3 (by decide) hn) rfl rfl 1 (by decide) kX4_91 rfl dX4_type_40 ?_
      exact g_iret hx hb hr hlocks hw h dX4_type_43
    · clear h; intro h
      refine lv_bipush (v := (-3)) hx hb dX4_type_25 (by decide) ?_
      exact g_iret hx hb hr hlocks hw h dX4_type_27
  · clear h; intro h
    refine lv_iconst (v := (-1)) hx hb dX4_type_11 (by decide) ?_
    exact g_iret hx hb hr hlocks hw h dX4_type_12
abbrev rm_X4_clear : Room := { frames := 0, cells := 0, slots := 0, locals := 0 }
set_option maxHeartbeats 4000000 in
set_option maxRecDepth 100000 in
theorem c_X4_clear {o : Om} {l : Launch} (hn : 115 ≤ o.2.2.2) {M : Mm} {Q : Int32 → Mm → Prop} (h : w_X4_clear M Q) : CI o l yX4_clear cX4_clear 2 rm_X4_clear [.ref (o.2.1 0 0)] M Q := by
  refine g_start (by decide +kernel) (Nat.le_of_ble_eq_true rfl) ?_
  intro p e s m args below meth c hx hb hr hlocks hml hown hts hw ls hl
  replace hl : lv_has ls 2 [(0, .ref (o.2.1 0 0))] := hl
  unfold w_X4_clear at h
  refine lv_aload_n hx hb dX4_clear_0 rfl (lv_at hl 0 rfl) ?_
  refine g_getf hx hb hts in_X4 hown hw 0 0 (ci_0 (by decide)) (bi_0 (by decide) hn) rfl rfl 3 (by decide) kX4_29 rfl dX4_clear_1 ?_
  refine g_getf hx hb hts in_X3 hown hw 3 0 (ci_3 (by decide)) (bi_3 (by decide) hn) rfl rfl 1 (by decide) kX4_91 rfl dX4_clear_4 ?_
  refine g_topi h ?_
  clear h; intro v1 h
  refine lv_istore_n (lv' := [(1, .int v1), (0, .ref (o.2.1 0 0))]) hx hb dX4_clear_7 rfl hl (by decide) rfl ?_
  clear hl; clear ls; intro ls hl
  refine lv_aload_n hx hb dX4_clear_8 rfl (lv_at hl 1 rfl) ?_
  refine g_getf hx hb hts in_X4 hown hw 0 0 (ci_0 (by decide)) (bi_0 (by decide) hn) rfl rfl 3 (by decide) kX4_29 rfl dX4_clear_9 ?_
  refine lv_iconst (v := 0) hx hb dX4_clear_12 (by decide) ?_
  refine g_putf hx hb hts in_X3 tyX3 tyX3_ok nmX3 hown hw 3 0 (ci_3 (by decide)) (bi_3 (by decide) hn) rfl 1 (by decide) rfl rfl kX4_91 (by decide +kernel) (by decide +kernel) (by simp) h dX4_clear_13 ?_
  clear h hw; intro M2 H locs hw h
  refine lv_iload_n hx hb dX4_clear_16 rfl (lv_at hl 0 rfl) ?_
  exact g_iret hx hb hr hlocks hw h dX4_clear_17
abbrev rm_X4_load : Room := { frames := 6, cells := 0, slots := 0, locals := 133 }
set_option maxHeartbeats 4000000 in
set_option maxRecDepth 100000 in
theorem c_X4_load {o : Om} {l : Launch} (hn : 115 ≤ o.2.2.2) {M : Mm} {Q : Int32 → Mm → Prop} (h : w_X4_load M Q) : CI o l yX4_load cX4_load 3 rm_X4_load [.ref (o.2.1 0 0)] M Q := by
  refine g_start (by decide +kernel) (Nat.le_of_ble_eq_true rfl) ?_
  intro p e s m args below meth c hx hb hr hlocks hml hown hts hw ls hl
  replace hl : lv_has ls 3 [(0, .ref (o.2.1 0 0))] := hl
  unfold w_X4_load at h
  refine lv_aload_n hx hb dX4_load_0 rfl (lv_at hl 0 rfl) ?_
  refine g_getf hx hb hts in_X4 hown hw 0 0 (ci_0 (by decide)) (bi_0 (by decide) hn) rfl rfl 1 (by decide) kX4_16 rfl dX4_load_1 ?_
  refine g_getf hx hb hts in_X0 hown hw 5 1 (ci_5 (by decide)) (bi_5 (by decide) hn) rfl rfl 0 (by decide) kX4_40 rfl dX4_load_4 ?_
  refine lv_astore_n (lv' := [(1, .ref (o.2.1 11 1)), (0, .ref (o.2.1 0 0))]) hx hb dX4_load_7 rfl hl (by decide) rfl ?_
  clear hl; clear ls; intro ls hl
  refine lv_aload_n hx hb dX4_load_8 rfl (lv_at hl 0 rfl) ?_
  refine lv_aload_n hx hb dX4_load_9 rfl (lv_at hl 1 rfl) ?_
  refine g_getf hx hb hts in_X4 hown hw 0 0 (ci_0 (by decide)) (bi_0 (by decide) hn) rfl rfl 0 (by decide) kX4_10 rfl dX4_load_10 ?_
  refine g_getf hx hb hts in_X0 hown hw 5 0 (ci_5 (by decide)) (bi_5 (by decide) hn) rfl rfl 0 (by decide) kX4_40 rfl dX4_load_13 ?_
  refine g_cv hw (g_runV (As := [.ref (o.2.1 11 0)]) (rest := []) hx hb hml hown hts mX2_copy vX2_copy kX4_98 hw 11 1 (ci_11 (by decide)) (bi_11 (by decide) hn) rfl rfl (c_X2_copy hn (by decide) (by decide) h) rfl rfl ⟨Nat.le_of_ble_eq_true rfl, Nat.le_of_ble_eq_true rfl⟩ rfl hl.1 rfl (Nat.le_of_ble_eq_true rfl) dX4_load_16 ⟨Nat.zero_le _, Nat.zero_le _⟩) ?_
  clear h hw; intro M1 H locs hw h
  refine lv_aload_n hx hb dX4_load_19 rfl (lv_at hl 1 rfl) ?_
  refine g_getf hx hb hts in_X4 hown hw 0 0 (ci_0 (by decide)) (bi_0 (by decide) hn) rfl rfl 3 (by decide) kX4_29 rfl dX4_load_20 ?_
  refine lv_aload_n hx hb dX4_load_23 rfl (lv_at hl 0 rfl) ?_
  refine g_ci hw (g_runV (As := [.ref (o.2.1 11 1)]) (rest := []) hx hb hml hown hts mX3_read vX3_read kX4_101 hw 3 0 (ci_3 (by decide)) (bi_3 (by decide) hn) rfl rfl (c_X3_read hn (by decide) h) rfl rfl ⟨Nat.le_of_ble_eq_true rfl, Nat.le_of_ble_eq_true rfl⟩ rfl hl.1 rfl (Nat.le_of_ble_eq_true rfl) dX4_load_24 ⟨Nat.zero_le _, Nat.zero_le _⟩) ?_
  clear h hw; intro v3 M2 H locs hw h
  refine lv_istore_n (lv' := [(2, .int v3), (1, .ref (o.2.1 11 1)), (0, .ref (o.2.1 0 0))]) hx hb dX4_load_27 rfl hl (by decide) rfl ?_
  clear hl; clear ls; intro ls hl
  refine lv_iload_n hx hb dX4_load_28 rfl (lv_at hl 0 rfl) ?_
  refine lv_iconst (v := (-1)) hx hb dX4_load_29 (by decide) ?_
  refine g_icmp_eq (tgt := 38) hx hb h dX4_load_30 (by decide) ?_ ?_
  · clear h; intro h
    refine lv_aload_n hx hb dX4_load_38 rfl (lv_at hl 2 rfl) ?_
    refine g_getf hx hb hts in_X4 hown hw 0 0 (ci_0 (by decide)) (bi_0 (by decide) hn) rfl rfl 2 (by decide) kX4_22 rfl dX4_load_39 ?_
    refine lv_aload_n hx hb dX4_load_42 rfl (lv_at hl 2 rfl) ?_
    refine g_getf hx hb hts in_X4 hown hw 0 0 (ci_0 (by decide)) (bi_0 (by decide) hn) rfl rfl 0 (by decide) kX4_10 rfl dX4_load_43 ?_
    refine g_getf hx hb hts in_X0 hown hw 5 0 (ci_5 (by decide)) (bi_5 (by decide) hn) rfl rfl 0 (by decide) kX4_40 rfl dX4_load_46 ?_
    refine g_cv hw (g_runV (As := [.ref (o.2.1 11 0)]) (rest := []) hx hb hml hown hts mX1_record vX1_record kX4_44 hw 1 0 (ci_1 (by decide)) (bi_1 (by decide) hn) rfl rfl (c_X1_record hn (by decide) h) rfl rfl ⟨Nat.le_of_ble_eq_true rfl, Nat.le_of_ble_eq_true rfl⟩ rfl hl.1 rfl (Nat.le_of_ble_eq_true rfl) dX4_load_49 ⟨Nat.zero_le _, Nat.zero_le _⟩) ?_
    clear h hw; intro M4 H locs hw h
    refine lv_aload_n hx hb dX4_load_52 rfl (lv_at hl 2 rfl) ?_
    refine g_getf hx hb hts in_X4 hown hw 0 0 (ci_0 (by decide)) (bi_0 (by decide) hn) rfl rfl 0 (by decide) kX4_10 rfl dX4_load_53 ?_
    refine g_getf hx hb hts in_X0 hown hw 5 0 (ci_5 (by decide)) (bi_5 (by decide) hn) rfl rfl 0 (by decide) kX4_40 rfl dX4_load_56 ?_
    refine lv_aload_n hx hb dX4_load_59 rfl (lv_at hl 1 rfl) ?_
    refine g_cv hw (g_runV (As := [.ref (o.2.1 11 1)]) (rest := []) hx hb hml hown hts mX2_copy vX2_copy kX4_98 hw 11 0 (ci_11 (by decide)) (bi_11 (by decide) hn) rfl rfl (c_X2_copy hn (by decide) (by decide) h) rfl rfl ⟨Nat.le_of_ble_eq_true rfl, Nat.le_of_ble_eq_true rfl⟩ rfl hl.1 rfl (Nat.le_of_ble_eq_true rfl) dX4_load_60 ⟨Nat.zero_le _, Nat.zero_le _⟩) ?_
    clear h hw; intro M5 H locs hw h
    refine lv_aload_n hx hb dX4_load_63 rfl (lv_at hl 2 rfl) ?_
    refine g_getf hx hb hts in_X4 hown hw 0 0 (ci_0 (by decide)) (bi_0 (by decide) hn) rfl rfl 0 (by decide) kX4_10 rfl dX4_load_64 ?_
    refine g_cv hw (g_runV (As := []) (rest := []) hx hb hml hown hts mX0_lay vX0_lay kX4_33 hw 5 0 (ci_5 (by decide)) (bi_5 (by decide) hn) rfl rfl (c_X0_lay hn (by decide) h) rfl rfl ⟨Nat.le_of_ble_eq_true rfl, Nat.le_of_ble_eq_true rfl⟩ rfl hl.1 rfl (Nat.le_of_ble_eq_true rfl) dX4_load_67 ⟨Nat.zero_le _, Nat.zero_le _⟩) ?_
    clear h hw; intro M6 H locs hw h
    refine lv_aload_n hx hb dX4_load_70 rfl (lv_at hl 2 rfl) ?_
    refine g_getf hx hb hts in_X4 hown hw 0 0 (ci_0 (by decide)) (bi_0 (by decide) hn) rfl rfl 0 (by decide) kX4_10 rfl dX4_load_71 ?_
    refine g_getf hx hb hts in_X0 hown hw 5 0 (ci_5 (by decide)) (bi_5 (by decide) hn) rfl rfl 0 (by decide) kX4_40 rfl dX4_load_74 ?_
    refine g_getf hx hb hts in_X2 hown hw 11 0 (ci_11 (by decide)) (bi_11 (by decide) hn) rfl rfl 4 (by decide) kX4_105 rfl dX4_load_77 ?_
    exact g_iret hx hb hr hlocks hw h dX4_load_80
  · clear h; intro h
    refine lv_bipush (v := (-10)) hx hb dX4_load_33 (by decide) ?_
    refine lv_iload_n hx hb dX4_load_35 rfl (lv_at hl 0 rfl) ?_
    refine lv_isub hx hb dX4_load_36 ?_
    exact g_iret hx hb hr hlocks hw h dX4_load_37
abbrev rm_X4_isTime : Room := { frames := 1, cells := 0, slots := 0, locals := 22 }
set_option maxHeartbeats 4000000 in
set_option maxRecDepth 100000 in
theorem c_X4_isTime {o : Om} {l : Launch} (hn : 115 ≤ o.2.2.2) {M : Mm} {x0 : Int32} {Q : Int32 → Mm → Prop} (h : w_X4_isTime M x0 Q) : CZ o l yX4_isTime cX4_isTime 1 rm_X4_isTime [.int x0] M Q := by
  refine g_start (by decide +kernel) (Nat.le_of_ble_eq_true rfl) ?_
  intro p e s m args below meth c hx hb hr hlocks hml hown hts hw ls hl
  replace hl : lv_has ls 1 [(0, .int x0)] := hl
  unfold w_X4_isTime at h
  refine lv_iload_n hx hb dX4_isTime_0 rfl (lv_at hl 0 rfl) ?_
  refine lv_bipush (v := (-9)) hx hb dX4_isTime_1 (by decide) ?_
  refine g_icmp_eq (tgt := 17) hx hb h dX4_isTime_3 (by decide) ?_ ?_
  · clear h; intro h
    refine lv_iconst (v := 1) hx hb dX4_isTime_17 (by decide) ?_
    refine lv_goto (tgt := 22) hx hb dX4_isTime_18 (by decide) ?_
    exact g_zret hx hb hr hlocks hw (Or.inr rfl) h dX4_isTime_22
  · clear h; intro h
    refine lv_iload_n hx hb dX4_isTime_6 rfl (lv_at hl 0 rfl) ?_
    refine lv_iconst (v := 0) hx hb dX4_isTime_7 (by decide) ?_
    refine lv_sipush (v := 1439) hx hb dX4_isTime_8 (by decide) ?_
    refine g_cz hw (g_runS (As := [.int x0, .int (0 : Int32), .int (1439 : Int32)]) (rest := []) hx hb hml hown hts mX4_isWithin sX4_isWithin kX4_60 hw (c_X4_isWithin hn h) rfl rfl ⟨Nat.le_of_ble_eq_true rfl, Nat.le_of_ble_eq_true rfl⟩ rfl hl.1 rfl (Nat.le_of_ble_eq_true rfl) dX4_isTime_11 ⟨Nat.zero_le _, Nat.zero_le _⟩) ?_
    clear h hw; intro v2 M1 H locs hw hz_v2 h
    refine g_if_eq (tgt := 21) hx hb h dX4_isTime_14 (by decide) ?_ ?_
    · clear h; intro h
      refine lv_iconst (v := 0) hx hb dX4_isTime_21 (by decide) ?_
      exact g_zret hx hb hr hlocks hw (Or.inl rfl) h dX4_isTime_22
    · clear h; intro h
      refine lv_iconst (v := 1) hx hb dX4_isTime_17 (by decide) ?_
      refine lv_goto (tgt := 22) hx hb dX4_isTime_18 (by decide) ?_
      exact g_zret hx hb hr hlocks hw (Or.inr rfl) h dX4_isTime_22
abbrev rm_X4_isRank : Room := { frames := 1, cells := 0, slots := 0, locals := 22 }
set_option maxHeartbeats 4000000 in
set_option maxRecDepth 100000 in
theorem c_X4_isRank {o : Om} {l : Launch} (hn : 115 ≤ o.2.2.2) {M : Mm} {x0 : Int32} {Q : Int32 → Mm → Prop} (h : w_X4_isRank M x0 Q) : CZ o l yX4_isRank cX4_isRank 1 rm_X4_isRank [.int x0] M Q := by
  refine g_start (by decide +kernel) (Nat.le_of_ble_eq_true rfl) ?_
  intro p e s m args below meth c hx hb hr hlocks hml hown hts hw ls hl
  replace hl : lv_has ls 1 [(0, .int x0)] := hl
  unfold w_X4_isRank at h
  refine lv_iload_n hx hb dX4_isRank_0 rfl (lv_at hl 0 rfl) ?_
  refine lv_iconst (v := 0) hx hb dX4_isRank_1 (by decide) ?_
  refine lv_bipush (v := 9) hx hb dX4_isRank_2 (by decide) ?_
  refine g_cz hw (g_runS (As := [.int x0, .int (0 : Int32), .int (9 : Int32)]) (rest := []) hx hb hml hown hts mX4_isWithin sX4_isWithin kX4_60 hw (c_X4_isWithin hn h) rfl rfl ⟨Nat.le_of_ble_eq_true rfl, Nat.le_of_ble_eq_true rfl⟩ rfl hl.1 rfl (Nat.le_of_ble_eq_true rfl) dX4_isRank_4 ⟨Nat.zero_le _, Nat.zero_le _⟩) ?_
  clear h hw; intro v2 M1 H locs hw hz_v2 h
  exact g_zret hx hb hr hlocks hw hz_v2 h dX4_isRank_7
abbrev rm_X4_add : Room := { frames := 4, cells := 0, slots := 0, locals := 91 }
set_option maxHeartbeats 4000000 in
set_option maxRecDepth 100000 in
theorem c_X4_add {o : Om} {l : Launch} (hn : 115 ≤ o.2.2.2) {M : Mm} {x1 : Int32} {x2 : Int32} {x3 : Int32} {x4 : Int32} {Q : Int32 → Mm → Prop} (h : w_X4_add M x1 x2 x3 x4 Q) : CI o l yX4_add cX4_add 5 rm_X4_add [.ref (o.2.1 0 0), .int x1, .int x2, .int x3, .int x4] M Q := by
  refine g_start (by decide +kernel) (Nat.le_of_ble_eq_true rfl) ?_
  intro p e s m args below meth c hx hb hr hlocks hml hown hts hw ls hl
  replace hl : lv_has ls 5 [(0, .ref (o.2.1 0 0)), (1, .int x1), (2, .int x2), (3, .int x3), (4, .int x4)] := hl
  unfold w_X4_add at h
  refine lv_iload_n hx hb dX4_add_0 rfl (lv_at hl 1 rfl) ?_
  refine g_cz hw (g_runS (As := [.int x1]) (rest := []) hx hb hml hown hts mX4_isDay sX4_isDay kX4_36 hw (c_X4_isDay hn h) rfl rfl ⟨Nat.le_of_ble_eq_true rfl, Nat.le_of_ble_eq_true rfl⟩ rfl hl.1 rfl (Nat.le_of_ble_eq_true rfl) dX4_add_1 ⟨Nat.zero_le _, Nat.zero_le _⟩) ?_
  clear h hw; intro v2 M1 H locs hw hz_v2 h
  refine g_if_eq (tgt := 34) hx hb h dX4_add_4 (by decide) ?_ ?_
  · clear h; intro h
    refine lv_iconst (v := (-1)) hx hb dX4_add_34 (by decide) ?_
    exact g_iret hx hb hr hlocks hw h dX4_add_35
  · clear h; intro h
    refine lv_iload_n hx hb dX4_add_7 rfl (lv_at hl 2 rfl) ?_
    refine g_cz hw (g_runS (As := [.int x2]) (rest := []) hx hb hml hown hts mX4_isDay sX4_isDay kX4_36 hw (c_X4_isDay hn h) rfl rfl ⟨Nat.le_of_ble_eq_true rfl, Nat.le_of_ble_eq_true rfl⟩ rfl hl.1 rfl (Nat.le_of_ble_eq_true rfl) dX4_add_8 ⟨Nat.zero_le _, Nat.zero_le _⟩) ?_
    clear h hw; intro v4 M3 H locs hw hz_v4 h
    refine g_if_eq (tgt := 34) hx hb h dX4_add_11 (by decide) ?_ ?_
    · clear h; intro h
      refine lv_iconst (v := (-1)) hx hb dX4_add_34 (by decide) ?_
      exact g_iret hx hb hr hlocks hw h dX4_add_35
    · clear h; intro h
      refine lv_iload_n hx hb dX4_add_14 rfl (lv_at hl 2 rfl) ?_
      refine lv_iload_n hx hb dX4_add_15 rfl (lv_at hl 1 rfl) ?_
      refine g_icmp_lt (tgt := 34) hx hb h dX4_add_16 (by decide) ?_ ?_
      · clear h; intro h
        refine lv_iconst (v := (-1)) hx hb dX4_add_34 (by decide) ?_
        exact g_iret hx hb hr hlocks hw h dX4_add_35
      · clear h; intro h
        refine lv_iload_n hx hb dX4_add_19 rfl (lv_at hl 3 rfl) ?_
        refine g_cz hw (g_runS (As := [.int x3]) (rest := []) hx hb hml hown hts mX4_isTime sX4_isTime kX4_108 hw (c_X4_isTime hn h) rfl rfl ⟨Nat.le_of_ble_eq_true rfl, Nat.le_of_ble_eq_true rfl⟩ rfl hl.1 rfl (Nat.le_of_ble_eq_true rfl) dX4_add_20 ⟨Nat.zero_le _, Nat.zero_le _⟩) ?_
        clear h hw; intro v6 M5 H locs hw hz_v6 h
        refine g_if_eq (tgt := 34) hx hb h dX4_add_23 (by decide) ?_ ?_
        · clear h; intro h
          refine lv_iconst (v := (-1)) hx hb dX4_add_34 (by decide) ?_
          exact g_iret hx hb hr hlocks hw h dX4_add_35
        · clear h; intro h
          refine lv_iload hx hb dX4_add_26 (lv_at hl 4 rfl) ?_
          refine g_cz hw (g_runS (As := [.int x4]) (rest := []) hx hb hml hown hts mX4_isRank sX4_isRank kX4_111 hw (c_X4_isRank hn h) rfl rfl ⟨Nat.le_of_ble_eq_true rfl, Nat.le_of_ble_eq_true rfl⟩ rfl hl.1 rfl (Nat.le_of_ble_eq_true rfl) dX4_add_28 ⟨Nat.zero_le _, Nat.zero_le _⟩) ?_
          clear h hw; intro v8 M7 H locs hw hz_v8 h
          refine g_if_ne (tgt := 36) hx hb h dX4_add_31 (by decide) ?_ ?_
          · clear h; intro h
            refine lv_aload_n hx hb dX4_add_36 rfl (lv_at hl 0 rfl) ?_
            refine g_getf hx hb hts in_X4 hown hw 0 0 (ci_0 (by decide)) (bi_0 (by decide) hn) rfl rfl 0 (by decide) kX4_10 rfl dX4_add_37 ?_
            refine g_getf hx hb hts in_X0 hown hw 5 0 (ci_5 (by decide)) (bi_5 (by decide) hn) rfl rfl 0 (by decide) kX4_40 rfl dX4_add_40 ?_
            refine g_getf hx hb hts in_X2 hown hw 11 0 (ci_11 (by decide)) (bi_11 (by decide) hn) rfl rfl 4 (by decide) kX4_105 rfl dX4_add_43 ?_
            refine lv_bipush (v := 24) hx hb dX4_add_46 (by decide) ?_
            refine g_icmp_lt (tgt := 54) hx hb h dX4_add_48 (by decide) ?_ ?_
            · clear h; intro h
              refine lv_aload_n hx hb dX4_add_54 rfl (lv_at hl 0 rfl) ?_
              refine g_getf hx hb hts in_X4 hown hw 0 0 (ci_0 (by decide)) (bi_0 (by decide) hn) rfl rfl 2 (by decide) kX4_22 rfl dX4_add_55 ?_
              refine lv_aload_n hx hb dX4_add_58 rfl (lv_at hl 0 rfl) ?_
              refine g_getf hx hb hts in_X4 hown hw 0 0 (ci_0 (by decide)) (bi_0 (by decide) hn) rfl rfl 0 (by decide) kX4_10 rfl dX4_add_59 ?_
              refine g_getf hx hb hts in_X0 hown hw 5 0 (ci_5 (by decide)) (bi_5 (by decide) hn) rfl rfl 0 (by decide) kX4_40 rfl dX4_add_62 ?_
              refine g_cv hw (g_runV (As := [.ref (o.2.1 11 0)]) (rest := []) hx hb hml hown hts mX1_record vX1_record kX4_44 hw 1 0 (ci_1 (by decide)) (bi_1 (by decide) hn) rfl rfl (c_X1_record hn (by decide) h) rfl rfl ⟨Nat.le_of_ble_eq_true rfl, Nat.le_of_ble_eq_true rfl⟩ rfl hl.1 rfl (Nat.le_of_ble_eq_true rfl) dX4_add_65 ⟨Nat.zero_le _, Nat.zero_le _⟩) ?_
              clear h hw; intro M9 H locs hw h
              refine lv_aload_n hx hb dX4_add_68 rfl (lv_at hl 0 rfl) ?_
              refine g_getf hx hb hts in_X4 hown hw 0 0 (ci_0 (by decide)) (bi_0 (by decide) hn) rfl rfl 0 (by decide) kX4_10 rfl dX4_add_69 ?_
              refine g_getf hx hb hts in_X0 hown hw 5 0 (ci_5 (by decide)) (bi_5 (by decide) hn) rfl rfl 0 (by decide) kX4_40 rfl dX4_add_72 ?_
              refine lv_iload_n hx hb dX4_add_75 rfl (lv_at hl 1 rfl) ?_
              refine lv_iload_n hx hb dX4_add_76 rfl (lv_at hl 2 rfl) ?_
              refine lv_iload_n hx hb dX4_add_77 rfl (lv_at hl 3 rfl) ?_
              refine lv_iload hx hb dX4_add_78 (lv_at hl 4 rfl) ?_
              refine g_cv hw (g_runV (As := [.int x1, .int x2, .int x3, .int x4]) (rest := []) hx hb hml hown hts mX2_append vX2_append kX4_114 hw 11 0 (ci_11 (by decide)) (bi_11 (by decide) hn) rfl rfl (c_X2_append hn (by decide) h) rfl rfl ⟨Nat.le_of_ble_eq_true rfl, Nat.le_of_ble_eq_true rfl⟩ rfl hl.1 rfl (Nat.le_of_ble_eq_true rfl) dX4_add_80 ⟨Nat.zero_le _, Nat.zero_le _⟩) ?_
              clear h hw; intro M10 H locs hw h
              refine lv_aload_n hx hb dX4_add_83 rfl (lv_at hl 0 rfl) ?_
              refine g_getf hx hb hts in_X4 hown hw 0 0 (ci_0 (by decide)) (bi_0 (by decide) hn) rfl rfl 0 (by decide) kX4_10 rfl dX4_add_84 ?_
              refine g_cv hw (g_runV (As := []) (rest := []) hx hb hml hown hts mX0_lay vX0_lay kX4_33 hw 5 0 (ci_5 (by decide)) (bi_5 (by decide) hn) rfl rfl (c_X0_lay hn (by decide) h) rfl rfl ⟨Nat.le_of_ble_eq_true rfl, Nat.le_of_ble_eq_true rfl⟩ rfl hl.1 rfl (Nat.le_of_ble_eq_true rfl) dX4_add_87 ⟨Nat.zero_le _, Nat.zero_le _⟩) ?_
              clear h hw; intro M11 H locs hw h
              refine lv_aload_n hx hb dX4_add_90 rfl (lv_at hl 0 rfl) ?_
              refine g_getf hx hb hts in_X4 hown hw 0 0 (ci_0 (by decide)) (bi_0 (by decide) hn) rfl rfl 0 (by decide) kX4_10 rfl dX4_add_91 ?_
              refine g_getf hx hb hts in_X0 hown hw 5 0 (ci_5 (by decide)) (bi_5 (by decide) hn) rfl rfl 0 (by decide) kX4_40 rfl dX4_add_94 ?_
              refine g_getf hx hb hts in_X2 hown hw 11 0 (ci_11 (by decide)) (bi_11 (by decide) hn) rfl rfl 4 (by decide) kX4_105 rfl dX4_add_97 ?_
              refine lv_iconst (v := 1) hx hb dX4_add_100 (by decide) ?_
              refine lv_isub hx hb dX4_add_101 ?_
              exact g_iret hx hb hr hlocks hw h dX4_add_102
            · clear h; intro h
              refine lv_bipush (v := (-3)) hx hb dX4_add_51 (by decide) ?_
              exact g_iret hx hb hr hlocks hw h dX4_add_53
          · clear h; intro h
            refine lv_iconst (v := (-1)) hx hb dX4_add_34 (by decide) ?_
            exact g_iret hx hb hr hlocks hw h dX4_add_35
abbrev rm_X4_isEntry : Room := { frames := 1, cells := 0, slots := 0, locals := 22 }
set_option maxHeartbeats 4000000 in
set_option maxRecDepth 100000 in
theorem c_X4_isEntry {o : Om} {l : Launch} (hn : 115 ≤ o.2.2.2) {M : Mm} {x1 : Int32} {Q : Int32 → Mm → Prop} (h : w_X4_isEntry M x1 Q) : CZ o l yX4_isEntry cX4_isEntry 2 rm_X4_isEntry [.ref (o.2.1 0 0), .int x1] M Q := by
  refine g_start (by decide +kernel) (Nat.le_of_ble_eq_true rfl) ?_
  intro p e s m args below meth c hx hb hr hlocks hml hown hts hw ls hl
  replace hl : lv_has ls 2 [(0, .ref (o.2.1 0 0)), (1, .int x1)] := hl
  unfold w_X4_isEntry at h
  refine lv_iload_n hx hb dX4_isEntry_0 rfl (lv_at hl 1 rfl) ?_
  refine lv_iconst (v := 0) hx hb dX4_isEntry_1 (by decide) ?_
  refine lv_aload_n hx hb dX4_isEntry_2 rfl (lv_at hl 0 rfl) ?_
  refine g_getf hx hb hts in_X4 hown hw 0 0 (ci_0 (by decide)) (bi_0 (by decide) hn) rfl rfl 0 (by decide) kX4_10 rfl dX4_isEntry_3 ?_
  refine g_getf hx hb hts in_X0 hown hw 5 0 (ci_5 (by decide)) (bi_5 (by decide) hn) rfl rfl 0 (by decide) kX4_40 rfl dX4_isEntry_6 ?_
  refine g_getf hx hb hts in_X2 hown hw 11 0 (ci_11 (by decide)) (bi_11 (by decide) hn) rfl rfl 4 (by decide) kX4_105 rfl dX4_isEntry_9 ?_
  refine lv_iconst (v := 1) hx hb dX4_isEntry_12 (by decide) ?_
  refine lv_isub hx hb dX4_isEntry_13 ?_
  refine g_cz hw (g_runS (As := [.int x1, .int (0 : Int32), .int ((M 11 0 4) - (1 : Int32))]) (rest := []) hx hb hml hown hts mX4_isWithin sX4_isWithin kX4_60 hw (c_X4_isWithin hn h) rfl rfl ⟨Nat.le_of_ble_eq_true rfl, Nat.le_of_ble_eq_true rfl⟩ rfl hl.1 rfl (Nat.le_of_ble_eq_true rfl) dX4_isEntry_14 ⟨Nat.zero_le _, Nat.zero_le _⟩) ?_
  clear h hw; intro v2 M1 H locs hw hz_v2 h
  exact g_zret hx hb hr hlocks hw hz_v2 h dX4_isEntry_17
abbrev rm_X4_drop : Room := { frames := 4, cells := 0, slots := 0, locals := 91 }
set_option maxHeartbeats 4000000 in
set_option maxRecDepth 100000 in
theorem c_X4_drop {o : Om} {l : Launch} (hn : 115 ≤ o.2.2.2) {M : Mm} {x1 : Int32} {Q : Int32 → Mm → Prop} (h : w_X4_drop M x1 Q) : CI o l yX4_drop cX4_drop 2 rm_X4_drop [.ref (o.2.1 0 0), .int x1] M Q := by
  refine g_start (by decide +kernel) (Nat.le_of_ble_eq_true rfl) ?_
  intro p e s m args below meth c hx hb hr hlocks hml hown hts hw ls hl
  replace hl : lv_has ls 2 [(0, .ref (o.2.1 0 0)), (1, .int x1)] := hl
  unfold w_X4_drop at h
  refine lv_aload_n hx hb dX4_drop_0 rfl (lv_at hl 0 rfl) ?_
  refine lv_iload_n hx hb dX4_drop_1 rfl (lv_at hl 1 rfl) ?_
  refine g_cz hw (g_runV (As := [.int x1]) (rest := []) hx hb hml hown hts mX4_isEntry vX4_isEntry kX4_117 hw 0 0 (ci_0 (by decide)) (bi_0 (by decide) hn) rfl rfl (c_X4_isEntry hn h) rfl rfl ⟨Nat.le_of_ble_eq_true rfl, Nat.le_of_ble_eq_true rfl⟩ rfl hl.1 rfl (Nat.le_of_ble_eq_true rfl) dX4_drop_2 ⟨Nat.zero_le _, Nat.zero_le _⟩) ?_
  clear h hw; intro v2 M1 H locs hw hz_v2 h
  refine g_if_ne (tgt := 10) hx hb h dX4_drop_5 (by decide) ?_ ?_
  · clear h; intro h
    refine lv_aload_n hx hb dX4_drop_10 rfl (lv_at hl 0 rfl) ?_
    refine g_getf hx hb hts in_X4 hown hw 0 0 (ci_0 (by decide)) (bi_0 (by decide) hn) rfl rfl 2 (by decide) kX4_22 rfl dX4_drop_11 ?_
    refine lv_aload_n hx hb dX4_drop_14 rfl (lv_at hl 0 rfl) ?_
    refine g_getf hx hb hts in_X4 hown hw 0 0 (ci_0 (by decide)) (bi_0 (by decide) hn) rfl rfl 0 (by decide) kX4_10 rfl dX4_drop_15 ?_
    refine g_getf hx hb hts in_X0 hown hw 5 0 (ci_5 (by decide)) (bi_5 (by decide) hn) rfl rfl 0 (by decide) kX4_40 rfl dX4_drop_18 ?_
    refine g_cv hw (g_runV (As := [.ref (o.2.1 11 0)]) (rest := []) hx hb hml hown hts mX1_record vX1_record kX4_44 hw 1 0 (ci_1 (by decide)) (bi_1 (by decide) hn) rfl rfl (c_X1_record hn (by decide) h) rfl rfl ⟨Nat.le_of_ble_eq_true rfl, Nat.le_of_ble_eq_true rfl⟩ rfl hl.1 rfl (Nat.le_of_ble_eq_true rfl) dX4_drop_21 ⟨Nat.zero_le _, Nat.zero_le _⟩) ?_
    clear h hw; intro M3 H locs hw h
    refine lv_aload_n hx hb dX4_drop_24 rfl (lv_at hl 0 rfl) ?_
    refine g_getf hx hb hts in_X4 hown hw 0 0 (ci_0 (by decide)) (bi_0 (by decide) hn) rfl rfl 0 (by decide) kX4_10 rfl dX4_drop_25 ?_
    refine g_getf hx hb hts in_X0 hown hw 5 0 (ci_5 (by decide)) (bi_5 (by decide) hn) rfl rfl 0 (by decide) kX4_40 rfl dX4_drop_28 ?_
    refine lv_iload_n hx hb dX4_drop_31 rfl (lv_at hl 1 rfl) ?_
    refine g_cv hw (g_runV (As := [.int x1]) (rest := []) hx hb hml hown hts mX2_remove vX2_remove kX4_120 hw 11 0 (ci_11 (by decide)) (bi_11 (by decide) hn) rfl rfl (c_X2_remove hn (by decide) h) rfl rfl ⟨Nat.le_of_ble_eq_true rfl, Nat.le_of_ble_eq_true rfl⟩ rfl hl.1 rfl (Nat.le_of_ble_eq_true rfl) dX4_drop_32 ⟨Nat.zero_le _, Nat.zero_le _⟩) ?_
    clear h hw; intro M4 H locs hw h
    refine lv_aload_n hx hb dX4_drop_35 rfl (lv_at hl 0 rfl) ?_
    refine g_getf hx hb hts in_X4 hown hw 0 0 (ci_0 (by decide)) (bi_0 (by decide) hn) rfl rfl 0 (by decide) kX4_10 rfl dX4_drop_36 ?_
    refine g_cv hw (g_runV (As := []) (rest := []) hx hb hml hown hts mX0_lay vX0_lay kX4_33 hw 5 0 (ci_5 (by decide)) (bi_5 (by decide) hn) rfl rfl (c_X0_lay hn (by decide) h) rfl rfl ⟨Nat.le_of_ble_eq_true rfl, Nat.le_of_ble_eq_true rfl⟩ rfl hl.1 rfl (Nat.le_of_ble_eq_true rfl) dX4_drop_39 ⟨Nat.zero_le _, Nat.zero_le _⟩) ?_
    clear h hw; intro M5 H locs hw h
    refine lv_aload_n hx hb dX4_drop_42 rfl (lv_at hl 0 rfl) ?_
    refine g_getf hx hb hts in_X4 hown hw 0 0 (ci_0 (by decide)) (bi_0 (by decide) hn) rfl rfl 0 (by decide) kX4_10 rfl dX4_drop_43 ?_
    refine g_getf hx hb hts in_X0 hown hw 5 0 (ci_5 (by decide)) (bi_5 (by decide) hn) rfl rfl 0 (by decide) kX4_40 rfl dX4_drop_46 ?_
    refine g_getf hx hb hts in_X2 hown hw 11 0 (ci_11 (by decide)) (bi_11 (by decide) hn) rfl rfl 4 (by decide) kX4_105 rfl dX4_drop_49 ?_
    exact g_iret hx hb hr hlocks hw h dX4_drop_52
  · clear h; intro h
    refine lv_iconst (v := (-1)) hx hb dX4_drop_8 (by decide) ?_
    exact g_iret hx hb hr hlocks hw h dX4_drop_9
