abbrev rm_X1_record : Room := { frames := 1, cells := 0, slots := 0, locals := 22 }
set_option maxHeartbeats 4000000 in
set_option maxRecDepth 100000 in
theorem c_X1_record {o : Om} {l : Launch} (hn : 115 ≤ o.2.2.2) {j : Nat} (hj : j < 10) {M : Mm} {Q : Mm → Prop} (h : w_X1_record j M Q) : CV o l yX1_record cX1_record 2 rm_X1_record [.ref (o.2.1 1 0), .ref (o.2.1 11 j)] M Q := by
  refine g_start (by decide +kernel) (Nat.le_of_ble_eq_true rfl) ?_
  intro p e s m args below meth c hx hb hr hlocks hml hown hts hw ls hl
  replace hl : lv_has ls 2 [(0, .ref (o.2.1 1 0)), (1, .ref (o.2.1 11 j))] := hl
  unfold w_X1_record at h
  refine lv_aload_n hx hb dX1_record_0 rfl (lv_at hl 0 rfl) ?_
  refine g_getf hx hb hts in_X1 hown hw 1 0 (ci_1 (by decide)) (bi_1 (by decide) hn) rfl rfl 0 (by decide) kX1_11 rfl dX1_record_1 ?_
  refine lv_aload_n hx hb dX1_record_4 rfl (lv_at hl 0 rfl) ?_
  refine g_getf hx hb hts in_X1 hown hw 1 0 (ci_1 (by decide)) (bi_1 (by decide) hn) rfl rfl 1 (by decide) kX1_17 rfl dX1_record_5 ?_
  refine lv_aload_n hx hb dX1_record_8 rfl (lv_at hl 0 rfl) ?_
  refine g_getf hx hb hts in_X1 hown hw 1 0 (ci_1 (by decide)) (bi_1 (by decide) hn) rfl rfl 2 (by decide) kX1_21 rfl dX1_record_9 ?_
  refine lv_iadd hx hb dX1_record_12 ?_
  refine lv_bipush (v := 8) hx hb dX1_record_13 (by decide) ?_
  refine lv_irem hx hb dX1_record_15 (by decide) ?_
  refine g_aldP hx hb hw (by omega) h dX1_record_16 ?_
  clear h; intro k1 hk1 h
  refine lv_aload_n hx hb dX1_record_17 rfl (lv_at hl 1 rfl) ?_
  refine g_cv hw (g_runV (As := [.ref (o.2.1 11 j)]) (rest := []) hx hb hml hown hts mX2_copy vX2_copy kX1_25 hw 11 (k1 + 2) (ci_11 (Nat.add_lt_add_right hk1 2)) (bi_11 (Nat.add_lt_add_right hk1 2) hn) rfl rfl (c_X2_copy hn (Nat.add_lt_add_right hk1 2) hj h) rfl rfl ⟨Nat.le_of_ble_eq_true rfl, Nat.le_of_ble_eq_true rfl⟩ rfl hl.1 rfl (Nat.le_of_ble_eq_true rfl) dX1_record_18 ⟨Nat.zero_le _, Nat.zero_le _⟩) ?_
  clear h hw; intro M2 H locs hw h
  refine lv_aload_n hx hb dX1_record_21 rfl (lv_at hl 0 rfl) ?_
  refine g_getf hx hb hts in_X1 hown hw 1 0 (ci_1 (by decide)) (bi_1 (by decide) hn) rfl rfl 2 (by decide) kX1_21 rfl dX1_record_22 ?_
  refine lv_bipush (v := 8) hx hb dX1_record_25 (by decide) ?_
  refine g_icmp_ge (tgt := 43) hx hb h dX1_record_27 (by decide) ?_ ?_
  · clear h; intro h
    refine lv_aload_n hx hb dX1_record_43 rfl (lv_at hl 0 rfl) ?_
    refine lv_aload_n hx hb dX1_record_44 rfl (lv_at hl 0 rfl) ?_
    refine g_getf hx hb hts in_X1 hown hw 1 0 (ci_1 (by decide)) (bi_1 (by decide) hn) rfl rfl 1 (by decide) kX1_17 rfl dX1_record_45 ?_
    refine lv_iconst (v := 1) hx hb dX1_record_48 (by decide) ?_
    refine lv_iadd hx hb dX1_record_49 ?_
    refine lv_bipush (v := 8) hx hb dX1_record_50 (by decide) ?_
    refine lv_irem hx hb dX1_record_52 (by decide) ?_
    refine g_putf hx hb hts in_X1 tyX1 tyX1_ok nmX1 hown hw 1 0 (ci_1 (by decide)) (bi_1 (by decide) hn) rfl 1 (by decide) rfl rfl kX1_17 (by decide +kernel) (by decide +kernel) (by simp) h dX1_record_53 ?_
    clear h hw; intro M3 H locs hw h
    exact g_vret hx hb hr hlocks hw h dX1_record_56
  · clear h; intro h
    refine lv_aload_n hx hb dX1_record_30 rfl (lv_at hl 0 rfl) ?_
    refine lv_dup hx hb dX1_record_31 rfl ?_
    refine g_getf hx hb hts in_X1 hown hw 1 0 (ci_1 (by decide)) (bi_1 (by decide) hn) rfl rfl 2 (by decide) kX1_21 rfl dX1_record_32 ?_
    refine lv_iconst (v := 1) hx hb dX1_record_35 (by decide) ?_
    refine lv_iadd hx hb dX1_record_36 ?_
    refine g_putf hx hb hts in_X1 tyX1 tyX1_ok nmX1 hown hw 1 0 (ci_1 (by decide)) (bi_1 (by decide) hn) rfl 2 (by decide) rfl rfl kX1_21 (by decide +kernel) (by decide +kernel) (by simp) h dX1_record_37 ?_
    clear h hw; intro M4 H locs hw h
    refine lv_goto (tgt := 56) hx hb dX1_record_40 (by decide) ?_
    exact g_vret hx hb hr hlocks hw h dX1_record_56
abbrev rm_X1_restore : Room := { frames := 1, cells := 0, slots := 0, locals := 22 }
set_option maxHeartbeats 4000000 in
set_option maxRecDepth 100000 in
theorem c_X1_restore {o : Om} {l : Launch} (hn : 115 ≤ o.2.2.2) {j : Nat} (hj : j < 10) {M : Mm} {Q : Mm → Prop} (h : w_X1_restore j M Q) : CV o l yX1_restore cX1_restore 2 rm_X1_restore [.ref (o.2.1 1 0), .ref (o.2.1 11 j)] M Q := by
  refine g_start (by decide +kernel) (Nat.le_of_ble_eq_true rfl) ?_
  intro p e s m args below meth c hx hb hr hlocks hml hown hts hw ls hl
  replace hl : lv_has ls 2 [(0, .ref (o.2.1 1 0)), (1, .ref (o.2.1 11 j))] := hl
  unfold w_X1_restore at h
  refine lv_aload_n hx hb dX1_restore_0 rfl (lv_at hl 0 rfl) ?_
  refine g_getf hx hb hts in_X1 hown hw 1 0 (ci_1 (by decide)) (bi_1 (by decide) hn) rfl rfl 2 (by decide) kX1_21 rfl dX1_restore_1 ?_
  refine g_if_gt (tgt := 8) hx hb h dX1_restore_4 (by decide) ?_ ?_
  · clear h; intro h
    refine lv_aload_n hx hb dX1_restore_8 rfl (lv_at hl 0 rfl) ?_
    refine lv_dup hx hb dX1_restore_9 rfl ?_
    refine g_getf hx hb hts in_X1 hown hw 1 0 (ci_1 (by decide)) (bi_1 (by decide) hn) rfl rfl 2 (by decide) kX1_21 rfl dX1_restore_10 ?_
    refine lv_iconst (v := 1) hx hb dX1_restore_13 (by decide) ?_
    refine lv_isub hx hb dX1_restore_14 ?_
    refine g_putf hx hb hts in_X1 tyX1 tyX1_ok nmX1 hown hw 1 0 (ci_1 (by decide)) (bi_1 (by decide) hn) rfl 2 (by decide) rfl rfl kX1_21 (by decide +kernel) (by decide +kernel) (by simp) h dX1_restore_15 ?_
    clear h hw; intro M1 H locs hw h
    refine lv_aload_n hx hb dX1_restore_18 rfl (lv_at hl 1 rfl) ?_
    refine lv_aload_n hx hb dX1_restore_19 rfl (lv_at hl 0 rfl) ?_
    refine g_getf hx hb hts in_X1 hown hw 1 0 (ci_1 (by decide)) (bi_1 (by decide) hn) rfl rfl 0 (by decide) kX1_11 rfl dX1_restore_20 ?_
    refine lv_aload_n hx hb dX1_restore_23 rfl (lv_at hl 0 rfl) ?_
    refine g_getf hx hb hts in_X1 hown hw 1 0 (ci_1 (by decide)) (bi_1 (by decide) hn) rfl rfl 1 (by decide) kX1_17 rfl dX1_restore_24 ?_
    refine lv_aload_n hx hb dX1_restore_27 rfl (lv_at hl 0 rfl) ?_
    refine g_getf hx hb hts in_X1 hown hw 1 0 (ci_1 (by decide)) (bi_1 (by decide) hn) rfl rfl 2 (by decide) kX1_21 rfl dX1_restore_28 ?_
    refine lv_iadd hx hb dX1_restore_31 ?_
    refine lv_bipush (v := 8) hx hb dX1_restore_32 (by decide) ?_
    refine lv_irem hx hb dX1_restore_34 (by decide) ?_
    refine g_aldP hx hb hw (by omega) h dX1_restore_35 ?_
    clear h; intro k2 hk2 h
    refine g_cv hw (g_runV (As := [.ref (o.2.1 11 (k2 + 2))]) (rest := []) hx hb hml hown hts mX2_copy vX2_copy kX1_25 hw 11 j (ci_11 hj) (bi_11 hj hn) rfl rfl (c_X2_copy hn hj (Nat.add_lt_add_right hk2 2) h) rfl rfl ⟨Nat.le_of_ble_eq_true rfl, Nat.le_of_ble_eq_true rfl⟩ rfl hl.1 rfl (Nat.le_of_ble_eq_true rfl) dX1_restore_36 ⟨Nat.zero_le _, Nat.zero_le _⟩) ?_
    clear h hw; intro M3 H locs hw h
    exact g_vret hx hb hr hlocks hw h dX1_restore_39
  · clear h; intro h
    exact g_vret hx hb hr hlocks hw h dX1_restore_7
abbrev rm_X2_append : Room := { frames := 0, cells := 0, slots := 0, locals := 0 }
set_option maxHeartbeats 4000000 in
set_option maxRecDepth 100000 in
theorem c_X2_append {o : Om} {l : Launch} (hn : 115 ≤ o.2.2.2) {i : Nat} (hi : i < 10) {M : Mm} {x1 : Int32} {x2 : Int32} {x3 : Int32} {x4 : Int32} {Q : Mm → Prop} (h : w_X2_append i M x1 x2 x3 x4 Q) : CV o l yX2_append cX2_append 5 rm_X2_append [.ref (o.2.1 11 i), .int x1, .int x2, .int x3, .int x4] M Q := by
  refine g_start (by decide +kernel) (Nat.le_of_ble_eq_true rfl) ?_
  intro p e s m args below meth c hx hb hr hlocks hml hown hts hw ls hl
  replace hl : lv_has ls 5 [(0, .ref (o.2.1 11 i)), (1, .int x1), (2, .int x2), (3, .int x3), (4, .int x4)] := hl
  unfold w_X2_append at h
  refine lv_aload_n hx hb dX2_append_0 rfl (lv_at hl 0 rfl) ?_
  refine g_getf hx hb hts in_X2 hown hw 11 i (ci_11 hi) (bi_11 hi hn) rfl rfl 4 (by decide) kX2_24 rfl dX2_append_1 ?_
  refine lv_bipush (v := 24) hx hb dX2_append_4 (by decide) ?_
  refine g_icmp_lt (tgt := 10) hx hb h dX2_append_6 (by decide) ?_ ?_
  · clear h; intro h
    refine lv_aload_n hx hb dX2_append_10 rfl (lv_at hl 0 rfl) ?_
    refine g_getf hx hb hts in_X2 hown hw 11 i (ci_11 hi) (bi_11 hi hn) rfl rfl 5 (by decide) kX2_27 rfl dX2_append_11 ?_
    refine lv_aload_n hx hb dX2_append_14 rfl (lv_at hl 0 rfl) ?_
    refine g_getf hx hb hts in_X2 hown hw 11 i (ci_11 hi) (bi_11 hi hn) rfl rfl 4 (by decide) kX2_24 rfl dX2_append_15 ?_
    refine lv_iload_n hx hb dX2_append_18 rfl (lv_at hl 1 rfl) ?_
    refine g_iast hx hb hw 13 i (ci_13 hi) (bi_13 hi hn) (fun _ => rfl) h dX2_append_19 ?_
    clear h hw; intro M1 H locs hw h
    refine lv_aload_n hx hb dX2_append_20 rfl (lv_at hl 0 rfl) ?_
    refine g_getf hx hb hts in_X2 hown hw 11 i (ci_11 hi) (bi_11 hi hn) rfl rfl 6 (by decide) kX2_31 rfl dX2_append_21 ?_
    refine lv_aload_n hx hb dX2_append_24 rfl (lv_at hl 0 rfl) ?_
    refine g_getf hx hb hts in_X2 hown hw 11 i (ci_11 hi) (bi_11 hi hn) rfl rfl 4 (by decide) kX2_24 rfl dX2_append_25 ?_
    refine lv_iload_n hx hb dX2_append_28 rfl (lv_at hl 2 rfl) ?_
    refine g_iast hx hb hw 14 i (ci_14 hi) (bi_14 hi hn) (fun _ => rfl) h dX2_append_29 ?_
    clear h hw; intro M2 H locs hw h
    refine lv_aload_n hx hb dX2_append_30 rfl (lv_at hl 0 rfl) ?_
    refine g_getf hx hb hts in_X2 hown hw 11 i (ci_11 hi) (bi_11 hi hn) rfl rfl 7 (by decide) kX2_34 rfl dX2_append_31 ?_
    refine lv_aload_n hx hb dX2_append_34 rfl (lv_at hl 0 rfl) ?_
    refine g_getf hx hb hts in_X2 hown hw 11 i (ci_11 hi) (bi_11 hi hn) rfl rfl 4 (by decide) kX2_24 rfl dX2_append_35 ?_
    refine lv_iload_n hx hb dX2_append_38 rfl (lv_at hl 3 rfl) ?_
    refine g_iast hx hb hw 15 i (ci_15 hi) (bi_15 hi hn) (fun _ => rfl) h dX2_append_39 ?_
    clear h hw; intro M3 H locs hw h
    refine lv_aload_n hx hb dX2_append_40 rfl (lv_at hl 0 rfl) ?_
    refine g_getf hx hb hts in_X2 hown hw 11 i (ci_11 hi) (bi_11 hi hn) rfl rfl 8 (by decide) kX2_37 rfl dX2_append_41 ?_
    refine lv_aload_n hx hb dX2_append_44 rfl (lv_at hl 0 rfl) ?_
    refine g_getf hx hb hts in_X2 hown hw 11 i (ci_11 hi) (bi_11 hi hn) rfl rfl 4 (by decide) kX2_24 rfl dX2_append_45 ?_
    refine lv_iload hx hb dX2_append_48 (lv_at hl 4 rfl) ?_
    refine g_iast hx hb hw 16 i (ci_16 hi) (bi_16 hi hn) (fun _ => rfl) h dX2_append_50 ?_
    clear h hw; intro M4 H locs hw h
    refine lv_aload_n hx hb dX2_append_51 rfl (lv_at hl 0 rfl) ?_
    refine lv_dup hx hb dX2_append_52 rfl ?_
    refine g_getf hx hb hts in_X2 hown hw 11 i (ci_11 hi) (bi_11 hi hn) rfl rfl 4 (by decide) kX2_24 rfl dX2_append_53 ?_
    refine lv_iconst (v := 1) hx hb dX2_append_56 (by decide) ?_
    refine lv_iadd hx hb dX2_append_57 ?_
    refine g_putf hx hb hts in_X2 tyX2 tyX2_ok nmX2 hown hw 11 i (ci_11 hi) (bi_11 hi hn) rfl 4 (by decide) rfl rfl kX2_24 (by decide +kernel) (by decide +kernel) (by simp) h dX2_append_58 ?_
    clear h hw; intro M5 H locs hw h
    exact g_vret hx hb hr hlocks hw h dX2_append_61
  · clear h; intro h
    exact g_vret hx hb hr hlocks hw h dX2_append_9
abbrev rm_X2_daysOnPage : Room := { frames := 1, cells := 0, slots := 0, locals := 21 }
set_option maxHeartbeats 4000000 in
set_option maxRecDepth 100000 in
theorem c_X2_daysOnPage {o : Om} {l : Launch} (hn : 115 ≤ o.2.2.2) {i : Nat} (hi : i < 10) {M : Mm} {x1 : Int32} {Q : Int32 → Mm → Prop} (h : w_X2_daysOnPage i M x1 Q) : CI o l yX2_daysOnPage cX2_daysOnPage 2 rm_X2_daysOnPage [.ref (o.2.1 11 i), .int x1] M Q := by
  refine g_start (by decide +kernel) (Nat.le_of_ble_eq_true rfl) ?_
  intro p e s m args below meth c hx hb hr hlocks hml hown hts hw ls hl
  replace hl : lv_has ls 2 [(0, .ref (o.2.1 11 i)), (1, .int x1)] := hl
  unfold w_X2_daysOnPage at h
  refine lv_iconst (v := 0) hx hb dX2_daysOnPage_0 (by decide) ?_
  refine lv_aload_n hx hb dX2_daysOnPage_1 rfl (lv_at hl 0 rfl) ?_
  refine g_getf hx hb hts in_X2 hown hw 11 i (ci_11 hi) (bi_11 hi hn) rfl rfl 6 (by decide) kX2_31 rfl dX2_daysOnPage_2 ?_
  refine lv_iload_n hx hb dX2_daysOnPage_5 rfl (lv_at hl 1 rfl) ?_
  refine g_iald hx hb hw 14 i (ci_14 hi) (bi_14 hi hn) rfl h dX2_daysOnPage_6 ?_
  clear h; intro v1 h
  refine lv_aload_n hx hb dX2_daysOnPage_7 rfl (lv_at hl 0 rfl) ?_
  refine g_getf hx hb hts in_X2 hown hw 11 i (ci_11 hi) (bi_11 hi hn) rfl rfl 1 (by decide) kX2_15 rfl dX2_daysOnPage_8 ?_
  refine g_min hx hb hml hl.1 hown hts kX2_40 (Nat.le_of_ble_eq_true rfl) (Nat.le_of_ble_eq_true rfl) (Nat.zero_le _) (Nat.zero_le _) dX2_daysOnPage_11 ?_
  refine lv_aload_n hx hb dX2_daysOnPage_14 rfl (lv_at hl 0 rfl) ?_
  refine g_getf hx hb hts in_X2 hown hw 11 i (ci_11 hi) (bi_11 hi hn) rfl rfl 5 (by decide) kX2_27 rfl dX2_daysOnPage_15 ?_
  refine lv_iload_n hx hb dX2_daysOnPage_18 rfl (lv_at hl 1 rfl) ?_
  refine g_iald hx hb hw 13 i (ci_13 hi) (bi_13 hi hn) rfl h dX2_daysOnPage_19 ?_
  clear h; intro v2 h
  refine lv_aload_n hx hb dX2_daysOnPage_20 rfl (lv_at hl 0 rfl) ?_
  refine g_getf hx hb hts in_X2 hown hw 11 i (ci_11 hi) (bi_11 hi hn) rfl rfl 0 (by decide) kX2_9 rfl dX2_daysOnPage_21 ?_
  refine g_max hx hb hml hl.1 hown hts kX2_46 (Nat.le_of_ble_eq_true rfl) (Nat.le_of_ble_eq_true rfl) (Nat.zero_le _) (Nat.zero_le _) dX2_daysOnPage_24 ?_
  refine lv_isub hx hb dX2_daysOnPage_27 ?_
  refine lv_iconst (v := 1) hx hb dX2_daysOnPage_28 (by decide) ?_
  refine lv_iadd hx hb dX2_daysOnPage_29 ?_
  refine g_max hx hb hml hl.1 hown hts kX2_46 (Nat.le_of_ble_eq_true rfl) (Nat.le_of_ble_eq_true rfl) (Nat.zero_le _) (Nat.zero_le _) dX2_daysOnPage_30 ?_
  exact g_iret hx hb hr hlocks hw h dX2_daysOnPage_33
abbrev rm_X2_shortOnes : Room := { frames := 1, cells := 0, slots := 0, locals := 23 }
set_option maxHeartbeats 4000000 in
set_option maxRecDepth 100000 in
theorem c_X2_shortOnes {o : Om} {l : Launch} (hn : 115 ≤ o.2.2.2) {i : Nat} (hi : i < 10) {M : Mm} {x1 : Int32} {x2 : Int32} {Q : Int32 → Mm → Prop} (h : w_X2_shortOnes i M x1 x2 Q) : CI o l yX2_shortOnes cX2_shortOnes 5 rm_X2_shortOnes [.ref (o.2.1 11 i), .int x1, .int x2] M Q := by
  refine g_start (by decide +kernel) (Nat.le_of_ble_eq_true rfl) ?_
  intro p e s m args below meth c hx hb hr hlocks hml hown hts hw ls hl
  replace hl : lv_has ls 5 [(0, .ref (o.2.1 11 i)), (1, .int x1), (2, .int x2)] := hl
  unfold w_X2_shortOnes at h
  refine lv_iconst (v := 0) hx hb dX2_shortOnes_0 (by decide) ?_
  refine lv_istore_n (lv' := [(3, .int (0 : Int32)), (0, .ref (o.2.1 11 i)), (1, .int x1), (2, .int x2)]) hx hb dX2_shortOnes_1 rfl hl (by decide) rfl ?_
  clear hl; clear ls; intro ls hl
  refine lv_iconst (v := 0) hx hb dX2_shortOnes_2 (by decide) ?_
  refine lv_istore (lv' := [(4, .int (0 : Int32)), (3, .int (0 : Int32)), (0, .ref (o.2.1 11 i)), (1, .int x1), (2, .int x2)]) hx hb dX2_shortOnes_3 hl (by decide) rfl ?_
  clear hl; clear ls; intro ls hl
  obtain ⟨n, h⟩ := h
  refine letK_W (body := fun K => w_X2_shortOnes_L5 i x1 x2 K) (fun (x : Int32 × Int32 × Mm) => ∀ (H : Heap) (locs : List Loc) (ls : Array Slot), WO o (WA o) s s.heap H locs x.2.2 → lv_has ls 5 [(3, .int x.1)] → W p l e rm_X2_shortOnes s m args below meth c H locs 0 0 (MQ below (QI o Q) args s 0 0 (WA o)) (F0 m 43 ls [])) h ?_ ?_
  · clear h hw hl; clear ls; intro x h H locs ls hw hl
    obtain ⟨v14, v15, M16⟩ := x
    replace hl : lv_has ls 5 [(3, .int v14)] := hl
    dsimp only at h hw
    refine lv_iload_n hx hb dX2_shortOnes_43 rfl (lv_at hl 0 rfl) ?_
    exact g_iret hx hb hr hlocks hw h dX2_shortOnes_44
  clear h; intro K4 hK4 h
  refine loop_W (body := w_X2_shortOnes_L5 i x1 x2 K4) (fun (x : Int32 × Int32 × Mm) => ∀ (H : Heap) (locs : List Loc) (ls : Array Slot), WO o (WA o) s s.heap H locs x.2.2 → lv_has ls 5 [(0, .ref (o.2.1 11 i)), (1, .int x1), (2, .int x2), (3, .int x.1), (4, .int x.2.1)] → W p l e rm_X2_shortOnes s m args below meth c H locs 0 0 (MQ below (QI o Q) args s 0 0 (WA o)) (F0 m 5 ls [])) ?_ n _ h _ _ _ hw (lv_sub hl [2, 3, 4, 1, 0] rfl)
  clear h hw hl; clear ls; intro R5 x hR5 h H locs ls hw hl
  obtain ⟨v1, v2, M3⟩ := x
  replace hl : lv_has ls 5 [(0, .ref (o.2.1 11 i)), (1, .int x1), (2, .int x2), (3, .int v1), (4, .int v2)] := hl
  dsimp only at hw
  unfold w_X2_shortOnes_L5 at h
  dsimp only at h
  refine lv_iload hx hb dX2_shortOnes_5 (lv_at hl 4 rfl) ?_
  refine lv_aload_n hx hb dX2_shortOnes_7 rfl (lv_at hl 0 rfl) ?_
  refine g_getf hx hb hts in_X2 hown hw 11 i (ci_11 hi) (bi_11 hi hn) rfl rfl 4 (by decide) kX2_24 rfl dX2_shortOnes_8 ?_
  refine g_icmp_ge (tgt := 43) hx hb h dX2_shortOnes_11 (by decide) ?_ ?_
  · clear h; intro h
    exact hK4 (v1, v2, M3) h _ _ _ hw (lv_sub hl [3] rfl)
  · clear h; intro h
    refine lv_aload_n hx hb dX2_shortOnes_14 rfl (lv_at hl 0 rfl) ?_
    refine lv_iload hx hb dX2_shortOnes_15 (lv_at hl 4 rfl) ?_
    refine g_cz hw (g_runV (As := [.int v2]) (rest := []) hx hb hml hown hts mX2_isLong vX2_isLong kX2_49 hw 11 i (ci_11 hi) (bi_11 hi hn) rfl rfl (c_X2_isLong hn hi h) rfl rfl ⟨Nat.le_of_ble_eq_true rfl, Nat.le_of_ble_eq_true rfl⟩ rfl hl.1 rfl (Nat.le_of_ble_eq_true rfl) dX2_shortOnes_17 ⟨Nat.zero_le _, Nat.zero_le _⟩) ?_
    clear h hw; intro v7 M6 H locs hw hz_v7 h
    refine g_if_ne (tgt := 37) hx hb h dX2_shortOnes_20 (by decide) ?_ ?_
    · clear h; intro h
      refine g_iinc (k := 4) (v := (v2 + (1 : Int32))) (lv' := fun v8 => [(4, .int v8), (0, .ref (o.2.1 11 i)), (1, .int x1), (2, .int x2), (3, .int v1)]) hx hb dX2_shortOnes_37 hl rfl rfl (by decide) (fun _ => rfl) h ?_
      clear h hl; clear ls; intro v8 ls h hl
      refine lv_goto (tgt := 5) hx hb dX2_shortOnes_40 (by decide) ?_
      exact hR5 (v1, v8, M6) h _ _ _ hw (lv_sub hl [1, 2, 3, 4, 0] rfl)
    · clear h; intro h
      refine lv_aload_n hx hb dX2_shortOnes_23 rfl (lv_at hl 0 rfl) ?_
      refine lv_iload hx hb dX2_shortOnes_24 (lv_at hl 4 rfl) ?_
      refine lv_iload_n hx hb dX2_shortOnes_26 rfl (lv_at hl 1 rfl) ?_
      refine lv_iload_n hx hb dX2_shortOnes_27 rfl (lv_at hl 2 rfl) ?_
      refine g_cz hw (g_runV (As := [.int v2, .int x1, .int x2]) (rest := []) hx hb hml hown hts mX2_meets vX2_meets kX2_53 hw 11 i (ci_11 hi) (bi_11 hi hn) rfl rfl (c_X2_meets hn hi h) rfl rfl ⟨Nat.le_of_ble_eq_true rfl, Nat.le_of_ble_eq_true rfl⟩ rfl hl.1 rfl (Nat.le_of_ble_eq_true rfl) dX2_shortOnes_28 ⟨Nat.zero_le _, Nat.zero_le _⟩) ?_
      clear h hw; intro v10 M9 H locs hw hz_v10 h
      refine g_if_eq (tgt := 37) hx hb h dX2_shortOnes_31 (by decide) ?_ ?_
      · clear h; intro h
        refine g_iinc (k := 4) (v := (v2 + (1 : Int32))) (lv' := fun v11 => [(4, .int v11), (0, .ref (o.2.1 11 i)), (1, .int x1), (2, .int x2), (3, .int v1)]) hx hb dX2_shortOnes_37 hl rfl rfl (by decide) (fun _ => rfl) h ?_
        clear h hl; clear ls; intro v11 ls h hl
        refine lv_goto (tgt := 5) hx hb dX2_shortOnes_40 (by decide) ?_
        exact hR5 (v1, v11, M9) h _ _ _ hw (lv_sub hl [1, 2, 3, 4, 0] rfl)
      · clear h; intro h
        refine g_iinc (k := 3) (v := (v1 + (1 : Int32))) (lv' := fun v12 => [(3, .int v12), (0, .ref (o.2.1 11 i)), (1, .int x1), (2, .int x2), (4, .int v2)]) hx hb dX2_shortOnes_34 hl rfl rfl (by decide) (fun _ => rfl) h ?_
        clear h hl; clear ls; intro v12 ls h hl
        refine g_iinc (k := 4) (v := (v2 + (1 : Int32))) (lv' := fun v13 => [(4, .int v13), (3, .int v12), (0, .ref (o.2.1 11 i)), (1, .int x1), (2, .int x2)]) hx hb dX2_shortOnes_37 hl rfl rfl (by decide) (fun _ => rfl) h ?_
        clear h hl; clear ls; intro v13 ls h hl
        refine lv_goto (tgt := 5) hx hb dX2_shortOnes_40 (by decide) ?_
        exact hR5 (v12, v13, M9) h _ _ _ hw (lv_sub hl [2, 3, 4, 1, 0] rfl)
abbrev rm_X2_longOnes : Room := { frames := 1, cells := 0, slots := 0, locals := 23 }
set_option maxHeartbeats 4000000 in
set_option maxRecDepth 100000 in
theorem c_X2_longOnes {o : Om} {l : Launch} (hn : 115 ≤ o.2.2.2) {i : Nat} (hi : i < 10) {M : Mm} {x1 : Int32} {Q : Int32 → Mm → Prop} (h : w_X2_longOnes i M x1 Q) : CI o l yX2_longOnes cX2_longOnes 4 rm_X2_longOnes [.ref (o.2.1 11 i), .int x1] M Q := by
  refine g_start (by decide +kernel) (Nat.le_of_ble_eq_true rfl) ?_
  intro p e s m args below meth c hx hb hr hlocks hml hown hts hw ls hl
  replace hl : lv_has ls 4 [(0, .ref (o.2.1 11 i)), (1, .int x1)] := hl
  unfold w_X2_longOnes at h
  refine lv_iconst (v := 0) hx hb dX2_longOnes_0 (by decide) ?_
  refine lv_istore_n (lv' := [(2, .int (0 : Int32)), (0, .ref (o.2.1 11 i)), (1, .int x1)]) hx hb dX2_longOnes_1 rfl hl (by decide) rfl ?_
  clear hl; clear ls; intro ls hl
  refine lv_iconst (v := 0) hx hb dX2_longOnes_2 (by decide) ?_
  refine lv_istore_n (lv' := [(3, .int (0 : Int32)), (2, .int (0 : Int32)), (0, .ref (o.2.1 11 i)), (1, .int x1)]) hx hb dX2_longOnes_3 rfl hl (by decide) rfl ?_
  clear hl; clear ls; intro ls hl
  obtain ⟨n, h⟩ := h
  refine letK_W (body := fun K => w_X2_longOnes_L4 i x1 K) (fun (x : Int32 × Int32 × Mm) => ∀ (H : Heap) (locs : List Loc) (ls : Array Slot), WO o (WA o) s s.heap H locs x.2.2 → lv_has ls 4 [(2, .int x.1)] → W p l e rm_X2_longOnes s m args below meth c H locs 0 0 (MQ below (QI o Q) args s 0 0 (WA o)) (F0 m 39 ls [])) h ?_ ?_
  · clear h hw hl; clear ls; intro x h H locs ls hw hl
    obtain ⟨v14, v15, M16⟩ := x
    replace hl : lv_has ls 4 [(2, .int v14)] := hl
    dsimp only at h hw
    refine lv_iload_n hx hb dX2_longOnes_39 rfl (lv_at hl 0 rfl) ?_
    exact g_iret hx hb hr hlocks hw h dX2_longOnes_40
  clear h; intro K4 hK4 h
  refine loop_W (body := w_X2_longOnes_L4 i x1 K4) (fun (x : Int32 × Int32 × Mm) => ∀ (H : Heap) (locs : List Loc) (ls : Array Slot), WO o (WA o) s s.heap H locs x.2.2 → lv_has ls 4 [(0, .ref (o.2.1 11 i)), (1, .int x1), (2, .int x.1), (3, .int x.2.1)] → W p l e rm_X2_longOnes s m args below meth c H locs 0 0 (MQ below (QI o Q) args s 0 0 (WA o)) (F0 m 4 ls [])) ?_ n _ h _ _ _ hw (lv_sub hl [2, 3, 1, 0] rfl)
  clear h hw hl; clear ls; intro R5 x hR5 h H locs ls hw hl
  obtain ⟨v1, v2, M3⟩ := x
  replace hl : lv_has ls 4 [(0, .ref (o.2.1 11 i)), (1, .int x1), (2, .int v1), (3, .int v2)] := hl
  dsimp only at hw
  unfold w_X2_longOnes_L4 at h
  dsimp only at h
  refine lv_iload_n hx hb dX2_longOnes_4 rfl (lv_at hl 3 rfl) ?_
  refine lv_aload_n hx hb dX2_longOnes_5 rfl (lv_at hl 0 rfl) ?_
  refine g_getf hx hb hts in_X2 hown hw 11 i (ci_11 hi) (bi_11 hi hn) rfl rfl 4 (by decide) kX2_24 rfl dX2_longOnes_6 ?_
  refine g_icmp_ge (tgt := 39) hx hb h dX2_longOnes_9 (by decide) ?_ ?_
  · clear h; intro h
    exact hK4 (v1, v2, M3) h _ _ _ hw (lv_sub hl [2] rfl)
  · clear h; intro h
    refine lv_aload_n hx hb dX2_longOnes_12 rfl (lv_at hl 0 rfl) ?_
    refine lv_iload_n hx hb dX2_longOnes_13 rfl (lv_at hl 3 rfl) ?_
    refine g_cz hw (g_runV (As := [.int v2]) (rest := []) hx hb hml hown hts mX2_isLong vX2_isLong kX2_49 hw 11 i (ci_11 hi) (bi_11 hi hn) rfl rfl (c_X2_isLong hn hi h) rfl rfl ⟨Nat.le_of_ble_eq_true rfl, Nat.le_of_ble_eq_true rfl⟩ rfl hl.1 rfl (Nat.le_of_ble_eq_true rfl) dX2_longOnes_14 ⟨Nat.zero_le _, Nat.zero_le _⟩) ?_
    clear h hw; intro v7 M6 H locs hw hz_v7 h
    refine g_if_eq (tgt := 33) hx hb h dX2_longOnes_17 (by decide) ?_ ?_
    · clear h; intro h
      refine g_iinc (k := 3) (v := (v2 + (1 : Int32))) (lv' := fun v8 => [(3, .int v8), (0, .ref (o.2.1 11 i)), (1, .int x1), (2, .int v1)]) hx hb dX2_longOnes_33 hl rfl rfl (by decide) (fun _ => rfl) h ?_
      clear h hl; clear ls; intro v8 ls h hl
      refine lv_goto (tgt := 4) hx hb dX2_longOnes_36 (by decide) ?_
      exact hR5 (v1, v8, M6) h _ _ _ hw (lv_sub hl [1, 2, 3, 0] rfl)
    · clear h; intro h
      refine lv_aload_n hx hb dX2_longOnes_20 rfl (lv_at hl 0 rfl) ?_
      refine lv_iload_n hx hb dX2_longOnes_21 rfl (lv_at hl 3 rfl) ?_
      refine lv_iload_n hx hb dX2_longOnes_22 rfl (lv_at hl 1 rfl) ?_
      refine lv_iload_n hx hb dX2_longOnes_23 rfl (lv_at hl 1 rfl) ?_
      refine g_cz hw (g_runV (As := [.int v2, .int x1, .int x1]) (rest := []) hx hb hml hown hts mX2_meets vX2_meets kX2_53 hw 11 i (ci_11 hi) (bi_11 hi hn) rfl rfl (c_X2_meets hn hi h) rfl rfl ⟨Nat.le_of_ble_eq_true rfl, Nat.le_of_ble_eq_true rfl⟩ rfl hl.1 rfl (Nat.le_of_ble_eq_true rfl) dX2_longOnes_24 ⟨Nat.zero_le _, Nat.zero_le _⟩) ?_
      clear h hw; intro v10 M9 H locs hw hz_v10 h
      refine g_if_eq (tgt := 33) hx hb h dX2_longOnes_27 (by decide) ?_ ?_
      · clear h; intro h
        refine g_iinc (k := 3) (v := (v2 + (1 : Int32))) (lv' := fun v11 => [(3, .int v11), (0, .ref (o.2.1 11 i)), (1, .int x1), (2, .int v1)]) hx hb dX2_longOnes_33 hl rfl rfl (by decide) (fun _ => rfl) h ?_
        clear h hl; clear ls; intro v11 ls h hl
        refine lv_goto (tgt := 4) hx hb dX2_longOnes_36 (by decide) ?_
        exact hR5 (v1, v11, M9) h _ _ _ hw (lv_sub hl [1, 2, 3, 0] rfl)
      · clear h; intro h
        refine g_iinc (k := 2) (v := (v1 + (1 : Int32))) (lv' := fun v12 => [(2, .int v12), (0, .ref (o.2.1 11 i)), (1, .int x1), (3, .int v2)]) hx hb dX2_longOnes_30 hl rfl rfl (by decide) (fun _ => rfl) h ?_
        clear h hl; clear ls; intro v12 ls h hl
        refine g_iinc (k := 3) (v := (v2 + (1 : Int32))) (lv' := fun v13 => [(3, .int v13), (2, .int v12), (0, .ref (o.2.1 11 i)), (1, .int x1)]) hx hb dX2_longOnes_33 hl rfl rfl (by decide) (fun _ => rfl) h ?_
        clear h hl; clear ls; intro v13 ls h hl
        refine lv_goto (tgt := 4) hx hb dX2_longOnes_36 (by decide) ?_
        exact hR5 (v12, v13, M9) h _ _ _ hw (lv_sub hl [2, 3, 1, 0] rfl)
abbrev rm_X2_allLongOnes : Room := { frames := 1, cells := 0, slots := 0, locals := 21 }
set_option maxHeartbeats 4000000 in
set_option maxRecDepth 100000 in
theorem c_X2_allLongOnes {o : Om} {l : Launch} (hn : 115 ≤ o.2.2.2) {i : Nat} (hi : i < 10) {M : Mm} {Q : Int32 → Mm → Prop} (h : w_X2_allLongOnes i M Q) : CI o l yX2_allLongOnes cX2_allLongOnes 3 rm_X2_allLongOnes [.ref (o.2.1 11 i)] M Q := by
  refine g_start (by decide +kernel) (Nat.le_of_ble_eq_true rfl) ?_
  intro p e s m args below meth c hx hb hr hlocks hml hown hts hw ls hl
  replace hl : lv_has ls 3 [(0, .ref (o.2.1 11 i))] := hl
  unfold w_X2_allLongOnes at h
  refine lv_iconst (v := 0) hx hb dX2_allLongOnes_0 (by decide) ?_
  refine lv_istore_n (lv' := [(1, .int (0 : Int32)), (0, .ref (o.2.1 11 i))]) hx hb dX2_allLongOnes_1 rfl hl (by decide) rfl ?_
  clear hl; clear ls; intro ls hl
  refine lv_iconst (v := 0) hx hb dX2_allLongOnes_2 (by decide) ?_
  refine lv_istore_n (lv' := [(2, .int (0 : Int32)), (1, .int (0 : Int32)), (0, .ref (o.2.1 11 i))]) hx hb dX2_allLongOnes_3 rfl hl (by decide) rfl ?_
  clear hl; clear ls; intro ls hl
  obtain ⟨n, h⟩ := h
  refine letK_W (body := fun K => w_X2_allLongOnes_L4 i K) (fun (x : Int32 × Int32 × Mm) => ∀ (H : Heap) (locs : List Loc) (ls : Array Slot), WO o (WA o) s s.heap H locs x.2.2 → lv_has ls 3 [(1, .int x.1)] → W p l e rm_X2_allLongOnes s m args below meth c H locs 0 0 (MQ below (QI o Q) args s 0 0 (WA o)) (F0 m 29 ls [])) h ?_ ?_
  · clear h hw hl; clear ls; intro x h H locs ls hw hl
    obtain ⟨v11, v12, M13⟩ := x
    replace hl : lv_has ls 3 [(1, .int v11)] := hl
    dsimp only at h hw
    refine lv_iload_n hx hb dX2_allLongOnes_29 rfl (lv_at hl 0 rfl) ?_
    exact g_iret hx hb hr hlocks hw h dX2_allLongOnes_30
  clear h; intro K4 hK4 h
  refine loop_W (body := w_X2_allLongOnes_L4 i K4) (fun (x : Int32 × Int32 × Mm) => ∀ (H : Heap) (locs : List Loc) (ls : Array Slot), WO o (WA o) s s.heap H locs x.2.2 → lv_has ls 3 [(0, .ref (o.2.1 11 i)), (1, .int x.1), (2, .int x.2.1)] → W p l e rm_X2_allLongOnes s m args below meth c H locs 0 0 (MQ below (QI o Q) args s 0 0 (WA o)) (F0 m 4 ls [])) ?_ n _ h _ _ _ hw (lv_sub hl [2, 1, 0] rfl)
  clear h hw hl; clear ls; intro R5 x hR5 h H locs ls hw hl
  obtain ⟨v1, v2, M3⟩ := x
  replace hl : lv_has ls 3 [(0, .ref (o.2.1 11 i)), (1, .int v1), (2, .int v2)] := hl
  dsimp only at hw
  unfold w_X2_allLongOnes_L4 at h
  dsimp only at h
  refine lv_iload_n hx hb dX2_allLongOnes_4 rfl (lv_at hl 2 rfl) ?_
  refine lv_aload_n hx hb dX2_allLongOnes_5 rfl (lv_at hl 0 rfl) ?_
  refine g_getf hx hb hts in_X2 hown hw 11 i (ci_11 hi) (bi_11 hi hn) rfl rfl 4 (by decide) kX2_24 rfl dX2_allLongOnes_6 ?_
  refine g_icmp_ge (tgt := 29) hx hb h dX2_allLongOnes_9 (by decide) ?_ ?_
  · clear h; intro h
    exact hK4 (v1, v2, M3) h _ _ _ hw (lv_sub hl [1] rfl)
  · clear h; intro h
    refine lv_aload_n hx hb dX2_allLongOnes_12 rfl (lv_at hl 0 rfl) ?_
    refine lv_iload_n hx hb dX2_allLongOnes_13 rfl (lv_at hl 2 rfl) ?_
    refine g_cz hw (g_runV (As := [.int v2]) (rest := []) hx hb hml hown hts mX2_isLong vX2_isLong kX2_49 hw 11 i (ci_11 hi) (bi_11 hi hn) rfl rfl (c_X2_isLong hn hi h) rfl rfl ⟨Nat.le_of_ble_eq_true rfl, Nat.le_of_ble_eq_true rfl⟩ rfl hl.1 rfl (Nat.le_of_ble_eq_true rfl) dX2_allLongOnes_14 ⟨Nat.zero_le _, Nat.zero_le _⟩) ?_
    clear h hw; intro v7 M6 H locs hw hz_v7 h
    refine g_if_eq (tgt := 23) hx hb h dX2_allLongOnes_17 (by decide) ?_ ?_
    · clear h; intro h
      refine g_iinc (k := 2) (v := (v2 + (1 : Int32))) (lv' := fun v8 => [(2, .int v8), (0, .ref (o.2.1 11 i)), (1, .int v1)]) hx hb dX2_allLongOnes_23 hl rfl rfl (by decide) (fun _ => rfl) h ?_
      clear h hl; clear ls; intro v8 ls h hl
      refine lv_goto (tgt := 4) hx hb dX2_allLongOnes_26 (by decide) ?_
      exact hR5 (v1, v8, M6) h _ _ _ hw (lv_sub hl [1, 2, 0] rfl)
    · clear h; intro h
      refine g_iinc (k := 1) (v := (v1 + (1 : Int32))) (lv' := fun v9 => [(1, .int v9), (0, .ref (o.2.1 11 i)), (2, .int v2)]) hx hb dX2_allLongOnes_20 hl rfl rfl (by decide) (fun _ => rfl) h ?_
      clear h hl; clear ls; intro v9 ls h hl
      refine g_iinc (k := 2) (v := (v2 + (1 : Int32))) (lv' := fun v10 => [(2, .int v10), (1, .int v9), (0, .ref (o.2.1 11 i))]) hx hb dX2_allLongOnes_23 hl rfl rfl (by decide) (fun _ => rfl) h ?_
      clear h hl; clear ls; intro v10 ls h hl
      refine lv_goto (tgt := 4) hx hb dX2_allLongOnes_26 (by decide) ?_
      exact hR5 (v9, v10, M6) h _ _ _ hw (lv_sub hl [2, 1, 0] rfl)
abbrev rm_X2_allOnPage : Room := { frames := 1, cells := 0, slots := 0, locals := 23 }
set_option maxHeartbeats 4000000 in
set_option maxRecDepth 100000 in
theorem c_X2_allOnPage {o : Om} {l : Launch} (hn : 115 ≤ o.2.2.2) {i : Nat} (hi : i < 10) {M : Mm} {Q : Int32 → Mm → Prop} (h : w_X2_allOnPage i M Q) : CI o l yX2_allOnPage cX2_allOnPage 3 rm_X2_allOnPage [.ref (o.2.1 11 i)] M Q := by
  refine g_start (by decide +kernel) (Nat.le_of_ble_eq_true rfl) ?_
  intro p e s m args below meth c hx hb hr hlocks hml hown hts hw ls hl
  replace hl : lv_has ls 3 [(0, .ref (o.2.1 11 i))] := hl
  unfold w_X2_allOnPage at h
  refine lv_iconst (v := 0) hx hb dX2_allOnPage_0 (by decide) ?_
  refine lv_istore_n (lv' := [(1, .int (0 : Int32)), (0, .ref (o.2.1 11 i))]) hx hb dX2_allOnPage_1 rfl hl (by decide) rfl ?_
  clear hl; clear ls; intro ls hl
  refine lv_iconst (v := 0) hx hb dX2_allOnPage_2 (by decide) ?_
  refine lv_istore_n (lv' := [(2, .int (0 : Int32)), (1, .int (0 : Int32)), (0, .ref (o.2.1 11 i))]) hx hb dX2_allOnPage_3 rfl hl (by decide) rfl ?_
  clear hl; clear ls; intro ls hl
  obtain ⟨n, h⟩ := h
  refine letK_W (body := fun K => w_X2_allOnPage_L4 i K) (fun (x : Int32 × Int32 × Mm) => ∀ (H : Heap) (locs : List Loc) (ls : Array Slot), WO o (WA o) s s.heap H locs x.2.2 → lv_has ls 3 [(1, .int x.1)] → W p l e rm_X2_allOnPage s m args below meth c H locs 0 0 (MQ below (QI o Q) args s 0 0 (WA o)) (F0 m 37 ls [])) h ?_ ?_
  · clear h hw hl; clear ls; intro x h H locs ls hw hl
    obtain ⟨v11, v12, M13⟩ := x
    replace hl : lv_has ls 3 [(1, .int v11)] := hl
    dsimp only at h hw
    refine lv_iload_n hx hb dX2_allOnPage_37 rfl (lv_at hl 0 rfl) ?_
    exact g_iret hx hb hr hlocks hw h dX2_allOnPage_38
  clear h; intro K4 hK4 h
  refine loop_W (body := w_X2_allOnPage_L4 i K4) (fun (x : Int32 × Int32 × Mm) => ∀ (H : Heap) (locs : List Loc) (ls : Array Slot), WO o (WA o) s s.heap H locs x.2.2 → lv_has ls 3 [(0, .ref (o.2.1 11 i)), (1, .int x.1), (2, .int x.2.1)] → W p l e rm_X2_allOnPage s m args below meth c H locs 0 0 (MQ below (QI o Q) args s 0 0 (WA o)) (F0 m 4 ls [])) ?_ n _ h _ _ _ hw (lv_sub hl [2, 1, 0] rfl)
  clear h hw hl; clear ls; intro R5 x hR5 h H locs ls hw hl
  obtain ⟨v1, v2, M3⟩ := x
  replace hl : lv_has ls 3 [(0, .ref (o.2.1 11 i)), (1, .int v1), (2, .int v2)] := hl
  dsimp only at hw
  unfold w_X2_allOnPage_L4 at h
  dsimp only at h
  refine lv_iload_n hx hb dX2_allOnPage_4 rfl (lv_at hl 2 rfl) ?_
  refine lv_aload_n hx hb dX2_allOnPage_5 rfl (lv_at hl 0 rfl) ?_
  refine g_getf hx hb hts in_X2 hown hw 11 i (ci_11 hi) (bi_11 hi hn) rfl rfl 4 (by decide) kX2_24 rfl dX2_allOnPage_6 ?_
  refine g_icmp_ge (tgt := 37) hx hb h dX2_allOnPage_9 (by decide) ?_ ?_
  · clear h; intro h
    exact hK4 (v1, v2, M3) h _ _ _ hw (lv_sub hl [1] rfl)
  · clear h; intro h
    refine lv_aload_n hx hb dX2_allOnPage_12 rfl (lv_at hl 0 rfl) ?_
    refine lv_iload_n hx hb dX2_allOnPage_13 rfl (lv_at hl 2 rfl) ?_
    refine lv_aload_n hx hb dX2_allOnPage_14 rfl (lv_at hl 0 rfl) ?_
    refine g_getf hx hb hts in_X2 hown hw 11 i (ci_11 hi) (bi_11 hi hn) rfl rfl 0 (by decide) kX2_9 rfl dX2_allOnPage_15 ?_
    refine lv_aload_n hx hb dX2_allOnPage_18 rfl (lv_at hl 0 rfl) ?_
    refine g_getf hx hb hts in_X2 hown hw 11 i (ci_11 hi) (bi_11 hi hn) rfl rfl 1 (by decide) kX2_15 rfl dX2_allOnPage_19 ?_
    refine g_cz hw (g_runV (As := [.int v2, .int (M3 11 i 0), .int (M3 11 i 1)]) (rest := []) hx hb hml hown hts mX2_meets vX2_meets kX2_53 hw 11 i (ci_11 hi) (bi_11 hi hn) rfl rfl (c_X2_meets hn hi h) rfl rfl ⟨Nat.le_of_ble_eq_true rfl, Nat.le_of_ble_eq_true rfl⟩ rfl hl.1 rfl (Nat.le_of_ble_eq_true rfl) dX2_allOnPage_22 ⟨Nat.zero_le _, Nat.zero_le _⟩) ?_
    clear h hw; intro v7 M6 H locs hw hz_v7 h
    refine g_if_eq (tgt := 31) hx hb h dX2_allOnPage_25 (by decide) ?_ ?_
    · clear h; intro h
      refine g_iinc (k := 2) (v := (v2 + (1 : Int32))) (lv' := fun v8 => [(2, .int v8), (0, .ref (o.2.1 11 i)), (1, .int v1)]) hx hb dX2_allOnPage_31 hl rfl rfl (by decide) (fun _ => rfl) h ?_
      clear h hl; clear ls; intro v8 ls h hl
      refine lv_goto (tgt := 4) hx hb dX2_allOnPage_34 (by decide) ?_
      exact hR5 (v1, v8, M6) h _ _ _ hw (lv_sub hl [1, 2, 0] rfl)
    · clear h; intro h
      refine g_iinc (k := 1) (v := (v1 + (1 : Int32))) (lv' := fun v9 => [(1, .int v9), (0, .ref (o.2.1 11 i)), (2, .int v2)]) hx hb dX2_allOnPage_28 hl rfl rfl (by decide) (fun _ => rfl) h ?_
      clear h hl; clear ls; intro v9 ls h hl
      refine g_iinc (k := 2) (v := (v2 + (1 : Int32))) (lv' := fun v10 => [(2, .int v10), (1, .int v9), (0, .ref (o.2.1 11 i))]) hx hb dX2_allOnPage_31 hl rfl rfl (by decide) (fun _ => rfl) h ?_
      clear h hl; clear ls; intro v10 ls h hl
      refine lv_goto (tgt := 4) hx hb dX2_allOnPage_34 (by decide) ?_
      exact hR5 (v9, v10, M6) h _ _ _ hw (lv_sub hl [2, 1, 0] rfl)
abbrev rm_X4_isWithin : Room := { frames := 0, cells := 0, slots := 0, locals := 0 }
set_option maxHeartbeats 4000000 in
set_option maxRecDepth 100000 in
theorem c_X4_isWithin {o : Om} {l : Launch} (hn : 115 ≤ o.2.2.2) {M : Mm} {x0 : Int32} {x1 : Int32} {x2 : Int32} {Q : Int32 → Mm → Prop} (h : w_X4_isWithin M x0 x1 x2 Q) : CZ o l yX4_isWithin cX4_isWithin 3 rm_X4_isWithin [.int x0, .int x1, .int x2] M Q := by
  refine g_start (by decide +kernel) (Nat.le_of_ble_eq_true rfl) ?_
  intro p e s m args below meth c hx hb hr hlocks hml hown hts hw ls hl
  replace hl : lv_has ls 3 [(0, .int x0), (1, .int x1), (2, .int x2)] := hl
  unfold w_X4_isWithin at h
  refine lv_iload_n hx hb dX4_isWithin_0 rfl (lv_at hl 0 rfl) ?_
  refine lv_iload_n hx hb dX4_isWithin_1 rfl (lv_at hl 1 rfl) ?_
  refine g_icmp_lt (tgt := 14) hx hb h dX4_isWithin_2 (by decide) ?_ ?_
  · clear h; intro h
    refine lv_iconst (v := 0) hx hb dX4_isWithin_14 (by decide) ?_
    exact g_zret hx hb hr hlocks hw (Or.inl rfl) h dX4_isWithin_15
  · clear h; intro h
    refine lv_iload_n hx hb dX4_isWithin_5 rfl (lv_at hl 0 rfl) ?_
    refine lv_iload_n hx hb dX4_isWithin_6 rfl (lv_at hl 2 rfl) ?_
    refine g_icmp_gt (tgt := 14) hx hb h dX4_isWithin_7 (by decide) ?_ ?_
    · clear h; intro h
      refine lv_iconst (v := 0) hx hb dX4_isWithin_14 (by decide) ?_
      exact g_zret hx hb hr hlocks hw (Or.inl rfl) h dX4_isWithin_15
    · clear h; intro h
      refine lv_iconst (v := 1) hx hb dX4_isWithin_10 (by decide) ?_
      refine lv_goto (tgt := 15) hx hb dX4_isWithin_11 (by decide) ?_
      exact g_zret hx hb hr hlocks hw (Or.inr rfl) h dX4_isWithin_15
abbrev rm_X4_isDay : Room := { frames := 1, cells := 0, slots := 0, locals := 22 }
set_option maxHeartbeats 4000000 in
set_option maxRecDepth 100000 in
theorem c_X4_isDay {o : Om} {l : Launch} (hn : 115 ≤ o.2.2.2) {M : Mm} {x0 : Int32} {Q : Int32 → Mm → Prop} (h : w_X4_isDay M x0 Q) : CZ o l yX4_isDay cX4_isDay 1 rm_X4_isDay [.int x0] M Q := by
  refine g_start (by decide +kernel) (Nat.le_of_ble_eq_true rfl) ?_
  intro p e s m args below meth c hx hb hr hlocks hml hown hts hw ls hl
  replace hl : lv_has ls 1 [(0, .int x0)] := hl
  unfold w_X4_isDay at h
  refine lv_iload_n hx hb dX4_isDay_0 rfl (lv_at hl 0 rfl) ?_
  refine lv_iconst (v := 0) hx hb dX4_isDay_1 (by decide) ?_
  refine lv_sipush (v := 999) hx hb dX4_isDay_2 (by decide) ?_
  refine g_cz hw (g_runS (As := [.int x0, .int (0 : Int32), .int (999 : Int32)]) (rest := []) hx hb hml hown hts mX4_isWithin sX4_isWithin kX4_60 hw (c_X4_isWithin hn h) rfl rfl ⟨Nat.le_of_ble_eq_true rfl, Nat.le_of_ble_eq_true rfl⟩ rfl hl.1 rfl (Nat.le_of_ble_eq_true rfl) dX4_isDay_5 ⟨Nat.zero_le _, Nat.zero_le _⟩) ?_
  clear h hw; intro v2 M1 H locs hw hz_v2 h
  exact g_zret hx hb hr hlocks hw hz_v2 h dX4_isDay_8
abbrev rm_X4_setPage : Room := { frames := 4, cells := 0, slots := 0, locals := 91 }
set_option maxHeartbeats 4000000 in
set_option maxRecDepth 100000 in
theorem c_X4_setPage {o : Om} {l : Launch} (hn : 115 ≤ o.2.2.2) {M : Mm} {x1 : Int32} {x2 : Int32} {Q : Int32 → Mm → Prop} (h : w_X4_setPage M x1 x2 Q) : CI o l yX4_setPage cX4_setPage 3 rm_X4_setPage [.ref (o.2.1 0 0), .int x1, .int x2] M Q := by
  refine g_start (by decide +kernel) (Nat.le_of_ble_eq_true rfl) ?_
  intro p e s m args below meth c hx hb hr hlocks hml hown hts hw ls hl
  replace hl : lv_has ls 3 [(0, .ref (o.2.1 0 0)), (1, .int x1), (2, .int x2)] := hl
  unfold w_X4_setPage at h
  refine lv_iload_n hx hb dX4_setPage_0 rfl (lv_at hl 1 rfl) ?_
  refine g_cz hw (g_runS (As := [.int x1]) (rest := []) hx hb hml hown hts mX4_isDay sX4_isDay kX4_36 hw (c_X4_isDay hn h) rfl rfl ⟨Nat.le_of_ble_eq_true rfl, Nat.le_of_ble_eq_true rfl⟩ rfl hl.1 rfl (Nat.le_of_ble_eq_true rfl) dX4_setPage_1 ⟨Nat.zero_le _, Nat.zero_le _⟩) ?_
  clear h hw; intro v2 M1 H locs hw hz_v2 h
  refine g_if_eq (tgt := 27) hx hb h dX4_setPage_4 (by decide) ?_ ?_
  · clear h; intro h
    refine lv_iconst (v := (-1)) hx hb dX4_setPage_27 (by decide) ?_
    exact g_iret hx hb hr hlocks hw h dX4_setPage_28
  · clear h; intro h
    refine lv_iload_n hx hb dX4_setPage_7 rfl (lv_at hl 2 rfl) ?_
    refine g_cz hw (g_runS (As := [.int x2]) (rest := []) hx hb hml hown hts mX4_isDay sX4_isDay kX4_36 hw (c_X4_isDay hn h) rfl rfl ⟨Nat.le_of_ble_eq_true rfl, Nat.le_of_ble_eq_true rfl⟩ rfl hl.1 rfl (Nat.le_of_ble_eq_true rfl) dX4_setPage_8 ⟨Nat.zero_le _, Nat.zero_le _⟩) ?_
    clear h hw; intro v4 M3 H locs hw hz_v4 h
    refine g_if_eq (tgt := 27) hx hb h dX4_setPage_11 (by decide) ?_ ?_
    · clear h; intro h
      refine lv_iconst (v := (-1)) hx hb dX4_setPage_27 (by decide) ?_
      exact g_iret hx hb hr hlocks hw h dX4_setPage_28
    · clear h; intro h
      refine lv_iload_n hx hb dX4_setPage_14 rfl (lv_at hl 2 rfl) ?_
      refine lv_iload_n hx hb dX4_setPage_15 rfl (lv_at hl 1 rfl) ?_
      refine g_icmp_lt (tgt := 27) hx hb h dX4_setPage_16 (by decide) ?_ ?_
      · clear h; intro h
        refine lv_iconst (v := (-1)) hx hb dX4_setPage_27 (by decide) ?_
        exact g_iret hx hb hr hlocks hw h dX4_setPage_28
      · clear h; intro h
        refine lv_iload_n hx hb dX4_setPage_19 rfl (lv_at hl 2 rfl) ?_
        refine lv_iload_n hx hb dX4_setPage_20 rfl (lv_at hl 1 rfl) ?_
        refine lv_isub hx hb dX4_setPage_21 ?_
        refine lv_bipush (v := 42) hx hb dX4_setPage_22 (by decide) ?_
        refine g_icmp_lt (tgt := 29) hx hb h dX4_setPage_24 (by decide) ?_ ?_
        · clear h; intro h
          refine lv_aload_n hx hb dX4_setPage_29 rfl (lv_at hl 0 rfl) ?_
          refine g_getf hx hb hts in_X4 hown hw 0 0 (ci_0 (by decide)) (bi_0 (by decide) hn) rfl rfl 2 (by decide) kX4_22 rfl dX4_setPage_30 ?_
          refine lv_aload_n hx hb dX4_setPage_33 rfl (lv_at hl 0 rfl) ?_
          refine g_getf hx hb hts in_X4 hown hw 0 0 (ci_0 (by decide)) (bi_0 (by decide) hn) rfl rfl 0 (by decide) kX4_10 rfl dX4_setPage_34 ?_
          refine g_getf hx hb hts in_X0 hown hw 5 0 (ci_5 (by decide)) (bi_5 (by decide) hn) rfl rfl 0 (by decide) kX4_40 rfl dX4_setPage_37 ?_
          refine g_cv hw (g_runV (As := [.ref (o.2.1 11 0)]) (rest := []) hx hb hml hown hts mX1_record vX1_record kX4_44 hw 1 0 (ci_1 (by decide)) (bi_1 (by decide) hn) rfl rfl (c_X1_record hn (by decide) h) rfl rfl ⟨Nat.le_of_ble_eq_true rfl, Nat.le_of_ble_eq_true rfl⟩ rfl hl.1 rfl (Nat.le_of_ble_eq_true rfl) dX4_setPage_40 ⟨Nat.zero_le _, Nat.zero_le _⟩) ?_
          clear h hw; intro M5 H locs hw h
          refine lv_aload_n hx hb dX4_setPage_43 rfl (lv_at hl 0 rfl) ?_
          refine g_getf hx hb hts in_X4 hown hw 0 0 (ci_0 (by decide)) (bi_0 (by decide) hn) rfl rfl 0 (by decide) kX4_10 rfl dX4_setPage_44 ?_
          refine g_getf hx hb hts in_X0 hown hw 5 0 (ci_5 (by decide)) (bi_5 (by decide) hn) rfl rfl 0 (by decide) kX4_40 rfl dX4_setPage_47 ?_
          refine lv_iload_n hx hb dX4_setPage_50 rfl (lv_at hl 1 rfl) ?_
          refine g_putf hx hb hts in_X2 tyX2 tyX2_ok nmX2 hown hw 11 0 (ci_11 (by decide)) (bi_11 (by decide) hn) rfl 0 (by decide) rfl rfl kX4_48 (by decide +kernel) (by decide +kernel) (by simp) h dX4_setPage_51 ?_
          clear h hw; intro M6 H locs hw h
          refine lv_aload_n hx hb dX4_setPage_54 rfl (lv_at hl 0 rfl) ?_
          refine g_getf hx hb hts in_X4 hown hw 0 0 (ci_0 (by decide)) (bi_0 (by decide) hn) rfl rfl 0 (by decide) kX4_10 rfl dX4_setPage_55 ?_
          refine g_getf hx hb hts in_X0 hown hw 5 0 (ci_5 (by decide)) (bi_5 (by decide) hn) rfl rfl 0 (by decide) kX4_40 rfl dX4_setPage_58 ?_
          refine lv_iload_n hx hb dX4_setPage_61 rfl (lv_at hl 2 rfl) ?_
          refine g_putf hx hb hts in_X2 tyX2 tyX2_ok nmX2 hown hw 11 0 (ci_11 (by decide)) (bi_11 (by decide) hn) rfl 1 (by decide) rfl rfl kX4_54 (by decide +kernel) (by decide +kernel) (by simp) h dX4_setPage_62 ?_
          clear h hw; intro M7 H locs hw h
          refine lv_aload_n hx hb dX4_setPage_65 rfl (lv_at hl 0 rfl) ?_
          refine g_getf hx hb hts in_X4 hown hw 0 0 (ci_0 (by decide)) (bi_0 (by decide) hn) rfl rfl 0 (by decide) kX4_10 rfl dX4_setPage_66 ?_
          refine g_cv hw (g_runV (As := []) (rest := []) hx hb hml hown hts mX0_lay vX0_lay kX4_33 hw 5 0 (ci_5 (by decide)) (bi_5 (by decide) hn) rfl rfl (c_X0_lay hn (by decide) h) rfl rfl ⟨Nat.le_of_ble_eq_true rfl, Nat.le_of_ble_eq_true rfl⟩ rfl hl.1 rfl (Nat.le_of_ble_eq_true rfl) dX4_setPage_69 ⟨Nat.zero_le _, Nat.zero_le _⟩) ?_
          clear h hw; intro M8 H locs hw h
          refine lv_aload_n hx hb dX4_setPage_72 rfl (lv_at hl 0 rfl) ?_
          refine g_getf hx hb hts in_X4 hown hw 0 0 (ci_0 (by decide)) (bi_0 (by decide) hn) rfl rfl 0 (by decide) kX4_10 rfl dX4_setPage_73 ?_
          refine g_getf hx hb hts in_X0 hown hw 5 0 (ci_5 (by decide)) (bi_5 (by decide) hn) rfl rfl 1 (by decide) kX4_57 rfl dX4_setPage_76 ?_
          exact g_iret hx hb hr hlocks hw h dX4_setPage_79
        · clear h; intro h
          refine lv_iconst (v := (-1)) hx hb dX4_setPage_27 (by decide) ?_
          exact g_iret hx hb hr hlocks hw h dX4_setPage_28
abbrev rm_X4_setWeek : Room := { frames := 4, cells := 0, slots := 0, locals := 91 }
set_option maxHeartbeats 4000000 in
set_option maxRecDepth 100000 in
theorem c_X4_setWeek {o : Om} {l : Launch} (hn : 115 ≤ o.2.2.2) {M : Mm} {x1 : Int32} {Q : Int32 → Mm → Prop} (h : w_X4_setWeek M x1 Q) : CI o l yX4_setWeek cX4_setWeek 2 rm_X4_setWeek [.ref (o.2.1 0 0), .int x1] M Q := by
  refine g_start (by decide +kernel) (Nat.le_of_ble_eq_true rfl) ?_
  intro p e s m args below meth c hx hb hr hlocks hml hown hts hw ls hl
  replace hl : lv_has ls 2 [(0, .ref (o.2.1 0 0)), (1, .int x1)] := hl
  unfold w_X4_setWeek at h
  refine lv_iload_n hx hb dX4_setWeek_0 rfl (lv_at hl 1 rfl) ?_
  refine lv_iconst (v := 0) hx hb dX4_setWeek_1 (by decide) ?_
  refine lv_bipush (v := 6) hx hb dX4_setWeek_2 (by decide) ?_
  refine g_cz hw (g_runS (As := [.int x1, .int (0 : Int32), .int (6 : Int32)]) (rest := []) hx hb hml hown hts mX4_isWithin sX4_isWithin kX4_60 hw (c_X4_isWithin hn h) rfl rfl ⟨Nat.le_of_ble_eq_true rfl, Nat.le_of_ble_eq_true rfl⟩ rfl hl.1 rfl (Nat.le_of_ble_eq_true rfl) dX4_setWeek_4 ⟨Nat.zero_le _, Nat.zero_le _⟩) ?_
  clear h hw; intro v2 M1 H locs hw hz_v2 h
  refine g_if_ne (tgt := 12) hx hb h dX4_setWeek_7 (by decide) ?_ ?_
  · clear h; intro h
    refine lv_aload_n hx hb dX4_setWeek_12 rfl (lv_at hl 0 rfl) ?_
    refine g_getf hx hb hts in_X4 hown hw 0 0 (ci_0 (by decide)) (bi_0 (by decide) hn) rfl rfl 2 (by decide) kX4_22 rfl dX4_setWeek_13 ?_
    refine lv_aload_n hx hb dX4_setWeek_16 rfl (lv_at hl 0 rfl) ?_
    refine g_getf hx hb hts in_X4 hown hw 0 0 (ci_0 (by decide)) (bi_0 (by decide) hn) rfl rfl 0 (by decide) kX4_10 rfl dX4_setWeek_17 ?_
    refine g_getf hx hb hts in_X0 hown hw 5 0 (ci_5 (by decide)) (bi_5 (by decide) hn) rfl rfl 0 (by decide) kX4_40 rfl dX4_setWeek_20 ?_
    refine g_cv hw (g_runV (As := [.ref (o.2.1 11 0)]) (rest := []) hx hb hml hown hts mX1_record vX1_record kX4_44 hw 1 0 (ci_1 (by decide)) (bi_1 (by decide) hn) rfl rfl (c_X1_record hn (by decide) h) rfl rfl ⟨Nat.le_of_ble_eq_true rfl, Nat.le_of_ble_eq_true rfl⟩ rfl hl.1 rfl (Nat.le_of_ble_eq_true rfl) dX4_setWeek_23 ⟨Nat.zero_le _, Nat.zero_le _⟩) ?_
    clear h hw; intro M3 H locs hw h
    refine lv_aload_n hx hb dX4_setWeek_26 rfl (lv_at hl 0 rfl) ?_
    refine g_getf hx hb hts in_X4 hown hw 0 0 (ci_0 (by decide)) (bi_0 (by decide) hn) rfl rfl 0 (by decide) kX4_10 rfl dX4_setWeek_27 ?_
    refine g_getf hx hb hts in_X0 hown hw 5 0 (ci_5 (by decide)) (bi_5 (by decide) hn) rfl rfl 0 (by decide) kX4_40 rfl dX4_setWeek_30 ?_
    refine lv_iload_n hx hb dX4_setWeek_33 rfl (lv_at hl 1 rfl) ?_
    refine g_putf hx hb hts in_X2 tyX2 tyX2_ok nmX2 hown hw 11 0 (ci_11 (by decide)) (bi_11 (by decide) hn) rfl 2 (by decide) rfl rfl kX4_64 (by decide +kernel) (by decide +kernel) (by simp) h dX4_setWeek_34 ?_
    clear h hw; intro M4 H locs hw h
    refine lv_aload_n hx hb dX4_setWeek_37 rfl (lv_at hl 0 rfl) ?_
    refine g_getf hx hb hts in_X4 hown hw 0 0 (ci_0 (by decide)) (bi_0 (by decide) hn) rfl rfl 0 (by decide) kX4_10 rfl dX4_setWeek_38 ?_
    refine g_cv hw (g_runV (As := []) (rest := []) hx hb hml hown hts mX0_lay vX0_lay kX4_33 hw 5 0 (ci_5 (by decide)) (bi_5 (by decide) hn) rfl rfl (c_X0_lay hn (by decide) h) rfl rfl ⟨Nat.le_of_ble_eq_true rfl, Nat.le_of_ble_eq_true rfl⟩ rfl hl.1 rfl (Nat.le_of_ble_eq_true rfl) dX4_setWeek_41 ⟨Nat.zero_le _, Nat.zero_le _⟩) ?_
    clear h hw; intro M5 H locs hw h
    refine lv_aload_n hx hb dX4_setWeek_44 rfl (lv_at hl 0 rfl) ?_
    refine g_getf hx hb hts in_X4 hown hw 0 0 (ci_0 (by decide)) (bi_0 (by decide) hn) rfl rfl 0 (by decide) kX4_10 rfl dX4_setWeek_45 ?_
    refine g_getf hx hb hts in_X0 hown hw 5 0 (ci_5 (by decide)) (bi_5 (by decide) hn) rfl rfl 1 (by decide) kX4_57 rfl dX4_setWeek_48 ?_
    exact g_iret hx hb hr hlocks hw h dX4_setWeek_51
  · clear h; intro h
    refine lv_iconst (v := (-1)) hx hb dX4_setWeek_10 (by decide) ?_
    exact g_iret hx hb hr hlocks hw h dX4_setWeek_11
abbrev rm_X4_setRows : Room := { frames := 2, cells := 0, slots := 0, locals := 43 }
set_option maxHeartbeats 4000000 in
set_option maxRecDepth 100000 in
theorem c_X4_setRows {o : Om} {l : Launch} (hn : 115 ≤ o.2.2.2) {M : Mm} {x1 : Int32} {Q : Int32 → Mm → Prop} (h : w_X4_setRows M x1 Q) : CI o l yX4_setRows cX4_setRows 3 rm_X4_setRows [.ref (o.2.1 0 0), .int x1] M Q := by
  refine g_start (by decide +kernel) (Nat.le_of_ble_eq_true rfl) ?_
  intro p e s m args below meth c hx hb hr hlocks hml hown hts hw ls hl
  replace hl : lv_has ls 3 [(0, .ref (o.2.1 0 0)), (1, .int x1)] := hl
  unfold w_X4_setRows at h
  refine lv_iload_n hx hb dX4_setRows_0 rfl (lv_at hl 1 rfl) ?_
  refine lv_iconst (v := 1) hx hb dX4_setRows_1 (by decide) ?_
  refine lv_bipush (v := 12) hx hb dX4_setRows_2 (by decide) ?_
  refine g_cz hw (g_runS (As := [.int x1, .int (1 : Int32), .int (12 : Int32)]) (rest := []) hx hb hml hown hts mX4_isWithin sX4_isWithin kX4_60 hw (c_X4_isWithin hn h) rfl rfl ⟨Nat.le_of_ble_eq_true rfl, Nat.le_of_ble_eq_true rfl⟩ rfl hl.1 rfl (Nat.le_of_ble_eq_true rfl) dX4_setRows_4 ⟨Nat.zero_le _, Nat.zero_le _⟩) ?_
  clear h hw; intro v2 M1 H locs hw hz_v2 h
  refine g_if_ne (tgt := 12) hx hb h dX4_setRows_7 (by decide) ?_ ?_
  · clear h; intro h
    refine lv_aload_n hx hb dX4_setRows_12 rfl (lv_at hl 0 rfl) ?_
    refine g_getf hx hb hts in_X4 hown hw 0 0 (ci_0 (by decide)) (bi_0 (by decide) hn) rfl rfl 2 (by decide) kX4_22 rfl dX4_setRows_13 ?_
    refine lv_aload_n hx hb dX4_setRows_16 rfl (lv_at hl 0 rfl) ?_
    refine g_getf hx hb hts in_X4 hown hw 0 0 (ci_0 (by decide)) (bi_0 (by decide) hn) rfl rfl 0 (by decide) kX4_10 rfl dX4_setRows_17 ?_
    refine g_getf hx hb hts in_X0 hown hw 5 0 (ci_5 (by decide)) (bi_5 (by decide) hn) rfl rfl 0 (by decide) kX4_40 rfl dX4_setRows_20 ?_
    refine g_cv hw (g_runV (As := [.ref (o.2.1 11 0)]) (rest := []) hx hb hml hown hts mX1_record vX1_record kX4_44 hw 1 0 (ci_1 (by decide)) (bi_1 (by decide) hn) rfl rfl (c_X1_record hn (by decide) h) rfl rfl ⟨Nat.le_of_ble_eq_true rfl, Nat.le_of_ble_eq_true rfl⟩ rfl hl.1 rfl (Nat.le_of_ble_eq_true rfl) dX4_setRows_23 ⟨Nat.zero_le _, Nat.zero_le _⟩) ?_
    clear h hw; intro M3 H locs hw h
    refine lv_aload_n hx hb dX4_setRows_26 rfl (lv_at hl 0 rfl) ?_
    refine g_getf hx hb hts in_X4 hown hw 0 0 (ci_0 (by decide)) (bi_0 (by decide) hn) rfl rfl 0 (by decide) kX4_10 rfl dX4_setRows_27 ?_
    refine g_getf hx hb hts in_X0 hown hw 5 0 (ci_5 (by decide)) (bi_5 (by decide) hn) rfl rfl 0 (by decide) kX4_40 rfl dX4_setRows_30 ?_
    refine g_getf hx hb hts in_X2 hown hw 11 0 (ci_11 (by decide)) (bi_11 (by decide) hn) rfl rfl 3 (by decide) kX4_67 rfl dX4_setRows_33 ?_
    refine g_topi h ?_
    clear h; intro v4 h
    refine lv_istore_n (lv' := [(2, .int v4), (0, .ref (o.2.1 0 0)), (1, .int x1)]) hx hb dX4_setRows_36 rfl hl (by decide) rfl ?_
    clear hl; clear ls; intro ls hl
    refine lv_aload_n hx hb dX4_setRows_37 rfl (lv_at hl 1 rfl) ?_
    refine g_getf hx hb hts in_X4 hown hw 0 0 (ci_0 (by decide)) (bi_0 (by decide) hn) rfl rfl 0 (by decide) kX4_10 rfl dX4_setRows_38 ?_
    refine g_getf hx hb hts in_X0 hown hw 5 0 (ci_5 (by decide)) (bi_5 (by decide) hn) rfl rfl 0 (by decide) kX4_40 rfl dX4_setRows_41 ?_
    refine lv_iload_n hx hb dX4_setRows_44 rfl (lv_at hl 2 rfl) ?_
    refine g_putf hx hb hts in_X2 tyX2 tyX2_ok nmX2 hown hw 11 0 (ci_11 (by decide)) (bi_11 (by decide) hn) rfl 3 (by decide) rfl rfl kX4_67 (by decide +kernel) (by decide +kernel) (by simp) h dX4_setRows_45 ?_
    clear h hw; intro M5 H locs hw h
    refine lv_iload_n hx hb dX4_setRows_48 rfl (lv_at hl 0 rfl) ?_
    exact g_iret hx hb hr hlocks hw h dX4_setRows_49
  · clear h; intro h
    refine lv_iconst (v := (-1)) hx hb dX4_setRows_10 (by decide) ?_
    exact g_iret hx hb hr hlocks hw h dX4_setRows_11
