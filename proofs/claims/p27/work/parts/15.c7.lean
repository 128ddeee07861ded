abbrev rm_L_bars : Room := { frames := 5, cells := 0, slots := 0, locals := 110 }
set_option maxHeartbeats 4000000 in
set_option maxRecDepth 100000 in
theorem c_L_bars {o : Om} {l : Launch} (hn : 115 ≤ o.2.2.2) {M : Mm} {Q : Int32 → Mm → Prop} (h : w_L_bars M Q) : CZ o l yL_bars cL_bars 13 rm_L_bars [.ref (o.2.1 0 0)] M Q := by
  refine g_start (by decide +kernel) (Nat.le_of_ble_eq_true rfl) ?_
  intro p e s m args below meth c hx hb hr hlocks hml hown hts hw ls hl
  replace hl : lv_has ls 13 [(0, .ref (o.2.1 0 0))] := hl
  unfold w_L_bars at h
  refine lv_iconst (v := 0) hx hb dL_bars_0 (by decide) ?_
  refine lv_istore_n (lv' := [(1, .int (0 : Int32)), (0, .ref (o.2.1 0 0))]) hx hb dL_bars_1 rfl hl (by decide) rfl ?_
  clear hl; clear ls; intro ls hl
  refine lv_iconst (v := 0) hx hb dL_bars_2 (by decide) ?_
  refine lv_istore_n (lv' := [(2, .int (0 : Int32)), (1, .int (0 : Int32)), (0, .ref (o.2.1 0 0))]) hx hb dL_bars_3 rfl hl (by decide) rfl ?_
  clear hl; clear ls; intro ls hl
  refine lv_iconst (v := 0) hx hb dL_bars_4 (by decide) ?_
  refine lv_istore_n (lv' := [(3, .int (0 : Int32)), (2, .int (0 : Int32)), (1, .int (0 : Int32)), (0, .ref (o.2.1 0 0))]) hx hb dL_bars_5 rfl hl (by decide) rfl ?_
  clear hl; clear ls; intro ls hl
  refine lv_iconst (v := 0) hx hb dL_bars_6 (by decide) ?_
  refine lv_istore (lv' := [(4, .int (0 : Int32)), (3, .int (0 : Int32)), (2, .int (0 : Int32)), (1, .int (0 : Int32)), (0, .ref (o.2.1 0 0))]) hx hb dL_bars_7 hl (by decide) rfl ?_
  clear hl; clear ls; intro ls hl
  obtain ⟨n, h⟩ := h
  refine letK_W (body := fun K => w_L_bars_L9 Q K) (fun (x : Int32 × Int32 × Int32 × Int32 × Mm) => ∀ (H : Heap) (locs : List Loc) (ls : Array Slot), WO o (WA o) s s.heap H locs x.2.2.2.2 → lv_has ls 13 [(0, .ref (o.2.1 0 0)), (1, .int x.1), (2, .int x.2.1), (3, .int x.2.2.1)] → W p l e rm_L_bars s m args below meth c H locs 0 0 (MQ below (QZ o Q) args s 0 0 (WA o)) (F0 m 539 ls [])) h ?_ ?_
  · clear h hw hl; clear ls; intro x h H locs ls hw hl
    obtain ⟨v146, v147, v148, v149, M150⟩ := x
    replace hl : lv_has ls 13 [(0, .ref (o.2.1 0 0)), (1, .int v146), (2, .int v147), (3, .int v148)] := hl
    dsimp only at h hw
    refine lv_aload_n hx hb dL_bars_539 rfl (lv_at hl 0 rfl) ?_
    refine lv_bipush (v := 8) hx hb dL_bars_540 (by decide) ?_
    refine g_ci hw (g_runV (As := [.int (8 : Int32)]) (rest := []) hx hb hml hown hts mX4_told vX4_told kL_32 hw 0 0 (ci_0 (by decide)) (bi_0 (by decide) hn) rfl rfl (c_X4_told hn h) rfl rfl ⟨Nat.le_of_ble_eq_true rfl, Nat.le_of_ble_eq_true rfl⟩ rfl hl.1 rfl (Nat.le_of_ble_eq_true rfl) dL_bars_542 ⟨Nat.zero_le _, Nat.zero_le _⟩) ?_
    clear h hw; intro v152 M151 H locs hw h
    refine lv_iload_n hx hb dL_bars_545 rfl (lv_at hl 1 rfl) ?_
    refine g_icmp_ne (tgt := 573) hx hb h dL_bars_546 (by decide) ?_ ?_
    · clear h; intro h
      refine lv_iconst (v := 0) hx hb dL_bars_573 (by decide) ?_
      exact g_zret hx hb hr hlocks hw (Or.inl rfl) h dL_bars_574
    · clear h; intro h
      refine lv_aload_n hx hb dL_bars_549 rfl (lv_at hl 0 rfl) ?_
      refine lv_bipush (v := 7) hx hb dL_bars_550 (by decide) ?_
      refine g_ci hw (g_runV (As := [.int (7 : Int32)]) (rest := []) hx hb hml hown hts mX4_told vX4_told kL_32 hw 0 0 (ci_0 (by decide)) (bi_0 (by decide) hn) rfl rfl (c_X4_told hn h) rfl rfl ⟨Nat.le_of_ble_eq_true rfl, Nat.le_of_ble_eq_true rfl⟩ rfl hl.1 rfl (Nat.le_of_ble_eq_true rfl) dL_bars_552 ⟨Nat.zero_le _, Nat.zero_le _⟩) ?_
      clear h hw; intro v154 M153 H locs hw h
      refine lv_iload_n hx hb dL_bars_555 rfl (lv_at hl 2 rfl) ?_
      refine g_icmp_ne (tgt := 573) hx hb h dL_bars_556 (by decide) ?_ ?_
      · clear h; intro h
        refine lv_iconst (v := 0) hx hb dL_bars_573 (by decide) ?_
        exact g_zret hx hb hr hlocks hw (Or.inl rfl) h dL_bars_574
      · clear h; intro h
        refine lv_aload_n hx hb dL_bars_559 rfl (lv_at hl 0 rfl) ?_
        refine lv_bipush (v := 6) hx hb dL_bars_560 (by decide) ?_
        refine g_ci hw (g_runV (As := [.int (6 : Int32)]) (rest := []) hx hb hml hown hts mX4_told vX4_told kL_32 hw 0 0 (ci_0 (by decide)) (bi_0 (by decide) hn) rfl rfl (c_X4_told hn h) rfl rfl ⟨Nat.le_of_ble_eq_true rfl, Nat.le_of_ble_eq_true rfl⟩ rfl hl.1 rfl (Nat.le_of_ble_eq_true rfl) dL_bars_562 ⟨Nat.zero_le _, Nat.zero_le _⟩) ?_
        clear h hw; intro v156 M155 H locs hw h
        refine lv_iload_n hx hb dL_bars_565 rfl (lv_at hl 3 rfl) ?_
        refine g_icmp_ne (tgt := 573) hx hb h dL_bars_566 (by decide) ?_ ?_
        · clear h; intro h
          refine lv_iconst (v := 0) hx hb dL_bars_573 (by decide) ?_
          exact g_zret hx hb hr hlocks hw (Or.inl rfl) h dL_bars_574
        · clear h; intro h
          refine lv_iconst (v := 1) hx hb dL_bars_569 (by decide) ?_
          refine lv_goto (tgt := 574) hx hb dL_bars_570 (by decide) ?_
          exact g_zret hx hb hr hlocks hw (Or.inr rfl) h dL_bars_574
  clear h; intro K6 hK6 h
  refine loop_W (body := w_L_bars_L9 Q K6) (fun (x : Int32 × Int32 × Int32 × Int32 × Mm) => ∀ (H : Heap) (locs : List Loc) (ls : Array Slot), WO o (WA o) s s.heap H locs x.2.2.2.2 → lv_has ls 13 [(0, .ref (o.2.1 0 0)), (1, .int x.1), (2, .int x.2.1), (3, .int x.2.2.1), (4, .int x.2.2.2.1)] → W p l e rm_L_bars s m args below meth c H locs 0 0 (MQ below (QZ o Q) args s 0 0 (WA o)) (F0 m 9 ls [])) ?_ n _ h _ _ _ hw (lv_sub hl [4, 3, 2, 1, 0] rfl)
  clear h hw hl; clear ls; intro R7 x hR7 h H locs ls hw hl
  obtain ⟨v1, v2, v3, v4, M5⟩ := x
  replace hl : lv_has ls 13 [(0, .ref (o.2.1 0 0)), (1, .int v1), (2, .int v2), (3, .int v3), (4, .int v4)] := hl
  dsimp only at hw
  unfold w_L_bars_L9 at h
  dsimp only at h
  refine lv_iload hx hb dL_bars_9 (lv_at hl 4 rfl) ?_
  refine lv_aload_n hx hb dL_bars_11 rfl (lv_at hl 0 rfl) ?_
  refine lv_iconst (v := 5) hx hb dL_bars_12 (by decide) ?_
  refine g_ci hw (g_runV (As := [.int (5 : Int32)]) (rest := [.int v4]) hx hb hml hown hts mX4_told vX4_told kL_32 hw 0 0 (ci_0 (by decide)) (bi_0 (by decide) hn) rfl rfl (c_X4_told hn h) rfl rfl ⟨Nat.le_of_ble_eq_true rfl, Nat.le_of_ble_eq_true rfl⟩ rfl hl.1 rfl (Nat.le_of_ble_eq_true rfl) dL_bars_13 ⟨Nat.zero_le _, Nat.zero_le _⟩) ?_
  clear h hw; intro v9 M8 H locs hw h
  refine g_icmp_ge (tgt := 539) hx hb h dL_bars_16 (by decide) ?_ ?_
  · clear h; intro h
    exact hK6 (v1, v2, v3, v4, M8) h _ _ _ hw (lv_sub hl [0, 1, 2, 3] rfl)
  · clear h; intro h
    refine lv_iconst (v := 0) hx hb dL_bars_19 (by decide) ?_
    refine lv_istore (lv' := [(5, .int (0 : Int32)), (0, .ref (o.2.1 0 0)), (1, .int v1), (2, .int v2), (3, .int v3), (4, .int v4)]) hx hb dL_bars_20 hl (by decide) rfl ?_
    clear hl; clear ls; intro ls hl
    refine lv_iconst (v := 0) hx hb dL_bars_22 (by decide) ?_
    refine lv_istore (lv' := [(6, .int (0 : Int32)), (5, .int (0 : Int32)), (0, .ref (o.2.1 0 0)), (1, .int v1), (2, .int v2), (3, .int v3), (4, .int v4)]) hx hb dL_bars_23 hl (by decide) rfl ?_
    clear hl; clear ls; intro ls hl
    refine lv_aload_n hx hb dL_bars_25 rfl (lv_at hl 2 rfl) ?_
    refine lv_iload hx hb dL_bars_26 (lv_at hl 6 rfl) ?_
    refine lv_iconst (v := 1) hx hb dL_bars_28 (by decide) ?_
    refine g_ci hw (g_runV (As := [.int v4, .int (1 : Int32)]) (rest := []) hx hb hml hown hts mX4_entry vX4_entry kL_41 hw 0 0 (ci_0 (by decide)) (bi_0 (by decide) hn) rfl rfl (c_X4_entry hn h) rfl rfl ⟨Nat.le_of_ble_eq_true rfl, Nat.le_of_ble_eq_true rfl⟩ rfl hl.1 rfl (Nat.le_of_ble_eq_true rfl) dL_bars_29 ⟨Nat.zero_le _, Nat.zero_le _⟩) ?_
    clear h hw; intro v11 M10 H locs hw h
    refine lv_aload_n hx hb dL_bars_32 rfl (lv_at hl 2 rfl) ?_
    refine lv_iload hx hb dL_bars_33 (lv_at hl 6 rfl) ?_
    refine lv_iconst (v := 0) hx hb dL_bars_35 (by decide) ?_
    refine g_ci hw (g_runV (As := [.int v4, .int (0 : Int32)]) (rest := [.int v11]) hx hb hml hown hts mX4_entry vX4_entry kL_41 hw 0 0 (ci_0 (by decide)) (bi_0 (by decide) hn) rfl rfl (c_X4_entry hn h) rfl rfl ⟨Nat.le_of_ble_eq_true rfl, Nat.le_of_ble_eq_true rfl⟩ rfl hl.1 rfl (Nat.le_of_ble_eq_true rfl) dL_bars_36 ⟨Nat.zero_le _, Nat.zero_le _⟩) ?_
    clear h hw; intro v13 M12 H locs hw h
    refine letJ_W (fun (x : Int32 × Mm) => ∀ (H : Heap) (locs : List Loc) (ls : Array Slot), WO o (WA o) s s.heap H locs x.2 → lv_has ls 13 [(0, .ref (o.2.1 0 0)), (1, .int v1), (2, .int v2), (3, .int v3), (4, .int v4), (5, .int (0 : Int32)), (6, .int (0 : Int32))] → W p l e rm_L_bars s m args below meth c H locs 0 0 (MQ below (QZ o Q) args s 0 0 (WA o)) (F0 m 59 ls [.int x.1])) h ?_ ?_
    · clear h hw hl; clear ls; intro x h H locs ls hw hl
      obtain ⟨v14, M16⟩ := x
      replace hl : lv_has ls 13 [(0, .ref (o.2.1 0 0)), (1, .int v1), (2, .int v2), (3, .int v3), (4, .int v4), (5, .int (0 : Int32)), (6, .int (0 : Int32))] := hl
      dsimp only at h
      dsimp only at hw
      refine lv_istore (lv' := [(7, .int v14), (0, .ref (o.2.1 0 0)), (1, .int v1), (2, .int v2), (3, .int v3), (4, .int v4), (5, .int (0 : Int32)), (6, .int (0 : Int32))]) hx hb dL_bars_59 hl (by decide) rfl ?_
      clear hl; clear ls; intro ls hl
      refine lv_iconst (v := 0) hx hb dL_bars_61 (by decide) ?_
      refine lv_istore (lv' := [(8, .int (0 : Int32)), (7, .int v14), (0, .ref (o.2.1 0 0)), (1, .int v1), (2, .int v2), (3, .int v3), (4, .int v4), (5, .int (0 : Int32)), (6, .int (0 : Int32))]) hx hb dL_bars_62 hl (by decide) rfl ?_
      clear hl; clear ls; intro ls hl
      obtain ⟨n, h⟩ := h
      refine letK_W (body := fun K => w_L_bars_L64 v1 v2 v3 v4 v14 Q K) (fun (x : Int32 × Int32 × Mm) => ∀ (H : Heap) (locs : List Loc) (ls : Array Slot), WO o (WA o) s s.heap H locs x.2.2 → lv_has ls 13 [(0, .ref (o.2.1 0 0)), (1, .int v1), (2, .int v2), (3, .int v3), (4, .int v4), (5, .int x.1), (6, .int (0 : Int32)), (7, .int v14)] → W p l e rm_L_bars s m args below meth c H locs 0 0 (MQ below (QZ o Q) args s 0 0 (WA o)) (F0 m 363 ls [])) h ?_ ?_
      · clear h hw hl; clear ls; intro x h H locs ls hw hl
        obtain ⟨v94, v95, M96⟩ := x
        replace hl : lv_has ls 13 [(0, .ref (o.2.1 0 0)), (1, .int v1), (2, .int v2), (3, .int v3), (4, .int v4), (5, .int v94), (6, .int (0 : Int32)), (7, .int v14)] := hl
        dsimp only at h hw
        refine lv_aload_n hx hb dL_bars_363 rfl (lv_at hl 0 rfl) ?_
        refine lv_iconst (v := 0) hx hb dL_bars_364 (by decide) ?_
        refine g_ci hw (g_runV (As := [.int (0 : Int32)]) (rest := []) hx hb hml hown hts mX4_told vX4_told kL_32 hw 0 0 (ci_0 (by decide)) (bi_0 (by decide) hn) rfl rfl (c_X4_told hn h) rfl rfl ⟨Nat.le_of_ble_eq_true rfl, Nat.le_of_ble_eq_true rfl⟩ rfl hl.1 rfl (Nat.le_of_ble_eq_true rfl) dL_bars_365 ⟨Nat.zero_le _, Nat.zero_le _⟩) ?_
        clear h hw; intro v98 M97 H locs hw h
        refine lv_istore (lv' := [(8, .int v98), (0, .ref (o.2.1 0 0)), (1, .int v1), (2, .int v2), (3, .int v3), (4, .int v4), (5, .int v94), (6, .int (0 : Int32)), (7, .int v14)]) hx hb dL_bars_368 hl (by decide) rfl ?_
        clear hl; clear ls; intro ls hl
        obtain ⟨n, h⟩ := h
        refine letK_W (body := fun K => w_L_bars_L370 v1 v2 v3 v4 v94 v14 Q K) (fun (x : Int32 × Int32 × Mm) => ∀ (H : Heap) (locs : List Loc) (ls : Array Slot), WO o (WA o) s s.heap H locs x.2.2 → lv_has ls 13 [(0, .ref (o.2.1 0 0)), (1, .int v1), (2, .int v2), (3, .int v3), (4, .int v4), (5, .int v94), (6, .int x.1), (7, .int v14)] → W p l e rm_L_bars s m args below meth c H locs 0 0 (MQ below (QZ o Q) args s 0 0 (WA o)) (F0 m 455 ls [])) h ?_ ?_
        · clear h hw hl; clear ls; intro x h H locs ls hw hl
          obtain ⟨v123, v124, M125⟩ := x
          replace hl : lv_has ls 13 [(0, .ref (o.2.1 0 0)), (1, .int v1), (2, .int v2), (3, .int v3), (4, .int v4), (5, .int v94), (6, .int v123), (7, .int v14)] := hl
          dsimp only at h hw
          refine lv_aload_n hx hb dL_bars_455 rfl (lv_at hl 0 rfl) ?_
          refine lv_iload hx hb dL_bars_456 (lv_at hl 4 rfl) ?_
          refine lv_iconst (v := 4) hx hb dL_bars_458 (by decide) ?_
          refine g_ci hw (g_runV (As := [.int v4, .int (4 : Int32)]) (rest := []) hx hb hml hown hts mX4_entry vX4_entry kL_41 hw 0 0 (ci_0 (by decide)) (bi_0 (by decide) hn) rfl rfl (c_X4_entry hn h) rfl rfl ⟨Nat.le_of_ble_eq_true rfl, Nat.le_of_ble_eq_true rfl⟩ rfl hl.1 rfl (Nat.le_of_ble_eq_true rfl) dL_bars_459 ⟨Nat.zero_le _, Nat.zero_le _⟩) ?_
          clear h hw; intro v127 M126 H locs hw h
          refine lv_iload hx hb dL_bars_462 (lv_at hl 7 rfl) ?_
          refine letJ_W (fun (x : Int32) => ∀ (H : Heap) (locs : List Loc) (ls : Array Slot), WO o (WA o) s s.heap H locs M126 → lv_has ls 13 [(0, .ref (o.2.1 0 0)), (1, .int v1), (2, .int v2), (3, .int v3), (4, .int v4), (5, .int v94), (6, .int v123), (7, .int v14)] → W p l e rm_L_bars s m args below meth c H locs 0 0 (MQ below (QZ o Q) args s 0 0 (WA o)) (F0 m 472 ls [.int x, .int v127])) h ?_ ?_
          · clear h hw hl; clear ls; intro x h H locs ls hw hl
            obtain ⟨v128, rfl⟩ : ∃ z, z = x := ⟨_, rfl⟩
            replace hl : lv_has ls 13 [(0, .ref (o.2.1 0 0)), (1, .int v1), (2, .int v2), (3, .int v3), (4, .int v4), (5, .int v94), (6, .int v123), (7, .int v14)] := hl
            refine g_icmp_ne (tgt := 500) hx hb h dL_bars_472 (by decide) ?_ ?_
            · clear h; intro h
              refine lv_iconst (v := 0) hx hb dL_bars_500 (by decide) ?_
              exact g_zret hx hb hr hlocks hw (Or.inl rfl) h dL_bars_501
            · clear h; intro h
              refine lv_aload_n hx hb dL_bars_475 rfl (lv_at hl 0 rfl) ?_
              refine lv_iload hx hb dL_bars_476 (lv_at hl 4 rfl) ?_
              refine lv_iconst (v := 5) hx hb dL_bars_478 (by decide) ?_
              refine g_ci hw (g_runV (As := [.int v4, .int (5 : Int32)]) (rest := []) hx hb hml hown hts mX4_entry vX4_entry kL_41 hw 0 0 (ci_0 (by decide)) (bi_0 (by decide) hn) rfl rfl (c_X4_entry hn h) rfl rfl ⟨Nat.le_of_ble_eq_true rfl, Nat.le_of_ble_eq_true rfl⟩ rfl hl.1 rfl (Nat.le_of_ble_eq_true rfl) dL_bars_479 ⟨Nat.zero_le _, Nat.zero_le _⟩) ?_
              clear h hw; intro v131 M130 H locs hw h
              refine lv_iload hx hb dL_bars_482 (lv_at hl 6 rfl) ?_
              refine g_icmp_ne (tgt := 500) hx hb h dL_bars_484 (by decide) ?_ ?_
              · clear h; intro h
                refine lv_iconst (v := 0) hx hb dL_bars_500 (by decide) ?_
                exact g_zret hx hb hr hlocks hw (Or.inl rfl) h dL_bars_501
              · clear h; intro h
                refine lv_aload_n hx hb dL_bars_487 rfl (lv_at hl 0 rfl) ?_
                refine lv_iload hx hb dL_bars_488 (lv_at hl 4 rfl) ?_
                refine lv_bipush (v := 7) hx hb dL_bars_490 (by decide) ?_
                refine g_ci hw (g_runV (As := [.int v4, .int (7 : Int32)]) (rest := []) hx hb hml hown hts mX4_entry vX4_entry kL_41 hw 0 0 (ci_0 (by decide)) (bi_0 (by decide) hn) rfl rfl (c_X4_entry hn h) rfl rfl ⟨Nat.le_of_ble_eq_true rfl, Nat.le_of_ble_eq_true rfl⟩ rfl hl.1 rfl (Nat.le_of_ble_eq_true rfl) dL_bars_492 ⟨Nat.zero_le _, Nat.zero_le _⟩) ?_
                clear h hw; intro v133 M132 H locs hw h
                refine lv_iload hx hb dL_bars_495 (lv_at hl 5 rfl) ?_
                refine g_icmp_eq (tgt := 502) hx hb h dL_bars_497 (by decide) ?_ ?_
                · clear h; intro h
                  refine lv_iload_n hx hb dL_bars_502 rfl (lv_at hl 1 rfl) ?_
                  refine lv_iload hx hb dL_bars_503 (lv_at hl 5 rfl) ?_
                  refine lv_iadd hx hb dL_bars_505 ?_
                  refine g_topi h ?_
                  clear h; intro v134 h
                  refine lv_istore_n (lv' := [(1, .int v134), (0, .ref (o.2.1 0 0)), (2, .int v2), (3, .int v3), (4, .int v4), (5, .int v94), (6, .int v123), (7, .int v14)]) hx hb dL_bars_506 rfl hl (by decide) rfl ?_
                  clear hl; clear ls; intro ls hl
                  refine lv_iload_n hx hb dL_bars_507 rfl (lv_at hl 2 rfl) ?_
                  refine lv_iload hx hb dL_bars_508 (lv_at hl 6 rfl) ?_
                  refine letJ_W (fun (x : Int32) => ∀ (H : Heap) (locs : List Loc) (ls : Array Slot), WO o (WA o) s s.heap H locs M132 → lv_has ls 13 [(0, .ref (o.2.1 0 0)), (1, .int v134), (3, .int v3), (4, .int v4), (7, .int v14)] → W p l e rm_L_bars s m args below meth c H locs 0 0 (MQ below (QZ o Q) args s 0 0 (WA o)) (F0 m 518 ls [.int x, .int v2])) h ?_ ?_
                  · clear h hw hl; clear ls; intro x h H locs ls hw hl
                    obtain ⟨v135, rfl⟩ : ∃ z, z = x := ⟨_, rfl⟩
                    replace hl : lv_has ls 13 [(0, .ref (o.2.1 0 0)), (1, .int v134), (3, .int v3), (4, .int v4), (7, .int v14)] := hl
                    refine lv_iadd hx hb dL_bars_518 ?_
                    refine g_topi h ?_
                    clear h; intro v137 h
                    refine lv_istore_n (lv' := [(2, .int v137), (0, .ref (o.2.1 0 0)), (1, .int v134), (3, .int v3), (4, .int v4), (7, .int v14)]) hx hb dL_bars_519 rfl hl (by decide) rfl ?_
                    clear hl; clear ls; intro ls hl
                    refine lv_iload_n hx hb dL_bars_520 rfl (lv_at hl 3 rfl) ?_
                    refine lv_iload hx hb dL_bars_521 (lv_at hl 5 rfl) ?_
                    refine g_if_eq (tgt := 530) hx hb h dL_bars_523 (by decide) ?_ ?_
                    · clear h; intro h
                      refine lv_iconst (v := 0) hx hb dL_bars_530 (by decide) ?_
                      refine lv_iadd hx hb dL_bars_531 ?_
                      refine g_topi h ?_
                      clear h; intro v138 h
                      refine lv_istore_n (lv' := [(3, .int v138), (2, .int v137), (0, .ref (o.2.1 0 0)), (1, .int v134), (4, .int v4), (7, .int v14)]) hx hb dL_bars_532 rfl hl (by decide) rfl ?_
                      clear hl; clear ls; intro ls hl
                      refine g_iinc (k := 4) (v := (v4 + (1 : Int32))) (lv' := fun v139 => [(4, .int v139), (3, .int v138), (2, .int v137), (0, .ref (o.2.1 0 0)), (1, .int v134), (7, .int v14)]) hx hb dL_bars_533 hl rfl rfl (by decide) (fun _ => rfl) h ?_
                      clear h hl; clear ls; intro v139 ls h hl
                      refine lv_goto (tgt := 9) hx hb dL_bars_536 (by decide) ?_
                      exact hR7 (v134, v137, v138, v139, M132) h _ _ _ hw (lv_sub hl [3, 4, 2, 1, 0] rfl)
                    · clear h; intro h
                      refine lv_iconst (v := 1) hx hb dL_bars_526 (by decide) ?_
                      refine lv_goto (tgt := 531) hx hb dL_bars_527 (by decide) ?_
                      refine lv_iadd hx hb dL_bars_531 ?_
                      refine g_topi h ?_
                      clear h; intro v140 h
                      refine lv_istore_n (lv' := [(3, .int v140), (2, .int v137), (0, .ref (o.2.1 0 0)), (1, .int v134), (4, .int v4), (7, .int v14)]) hx hb dL_bars_532 rfl hl (by decide) rfl ?_
                      clear hl; clear ls; intro ls hl
                      refine g_iinc (k := 4) (v := (v4 + (1 : Int32))) (lv' := fun v141 => [(4, .int v141), (3, .int v140), (2, .int v137), (0, .ref (o.2.1 0 0)), (1, .int v134), (7, .int v14)]) hx hb dL_bars_533 hl rfl rfl (by decide) (fun _ => rfl) h ?_
                      clear h hl; clear ls; intro v141 ls h hl
                      refine lv_goto (tgt := 9) hx hb dL_bars_536 (by decide) ?_
                      exact hR7 (v134, v137, v140, v141, M132) h _ _ _ hw (lv_sub hl [3, 4, 2, 1, 0] rfl)
                  clear h; intro J136 hJ136 h
                  refine g_if_le (tgt := 517) hx hb h dL_bars_510 (by decide) ?_ ?_
                  · clear h; intro h
                    refine lv_iconst (v := 0) hx hb dL_bars_517 (by decide) ?_
                    exact hJ136 (0 : Int32) h _ _ _ hw (lv_sub hl [1, 0, 3, 4, 7] rfl)
                  · clear h; intro h
                    refine lv_iconst (v := 1) hx hb dL_bars_513 (by decide) ?_
                    refine lv_goto (tgt := 518) hx hb dL_bars_514 (by decide) ?_
                    exact hJ136 (1 : Int32) h _ _ _ hw (lv_sub hl [1, 0, 3, 4, 7] rfl)
                · clear h; intro h
                  refine lv_iconst (v := 0) hx hb dL_bars_500 (by decide) ?_
                  exact g_zret hx hb hr hlocks hw (Or.inl rfl) h dL_bars_501
          clear h; intro J129 hJ129 h
          refine g_if_eq (tgt := 471) hx hb h dL_bars_464 (by decide) ?_ ?_
          · clear h; intro h
            refine lv_iconst (v := 0) hx hb dL_bars_471 (by decide) ?_
            exact hJ129 (0 : Int32) h _ _ _ hw (lv_sub hl [0, 1, 2, 3, 4, 5, 6, 7] rfl)
          · clear h; intro h
            refine lv_iconst (v := 1) hx hb dL_bars_467 (by decide) ?_
            refine lv_goto (tgt := 472) hx hb dL_bars_468 (by decide) ?_
            exact hJ129 (1 : Int32) h _ _ _ hw (lv_sub hl [0, 1, 2, 3, 4, 5, 6, 7] rfl)
        clear h; intro K102 hK102 h
        refine loop_W (body := w_L_bars_L370 v1 v2 v3 v4 v94 v14 Q K102) (fun (x : Int32 × Int32 × Mm) => ∀ (H : Heap) (locs : List Loc) (ls : Array Slot), WO o (WA o) s s.heap H locs x.2.2 → lv_has ls 13 [(0, .ref (o.2.1 0 0)), (1, .int v1), (2, .int v2), (3, .int v3), (4, .int v4), (5, .int v94), (6, .int x.1), (7, .int v14), (8, .int x.2.1)] → W p l e rm_L_bars s m args below meth c H locs 0 0 (MQ below (QZ o Q) args s 0 0 (WA o)) (F0 m 370 ls [])) ?_ n _ h _ _ _ hw (lv_sub hl [1, 2, 3, 4, 5, 6, 7, 8, 0] rfl)
        clear h hw hl; clear ls; intro R103 x hR103 h H locs ls hw hl
        obtain ⟨v99, v100, M101⟩ := x
        replace hl : lv_has ls 13 [(0, .ref (o.2.1 0 0)), (1, .int v1), (2, .int v2), (3, .int v3), (4, .int v4), (5, .int v94), (6, .int v99), (7, .int v14), (8, .int v100)] := hl
        dsimp only at hw
        unfold w_L_bars_L370 at h
        dsimp only at h
        refine lv_iload hx hb dL_bars_370 (lv_at hl 8 rfl) ?_
        refine lv_aload_n hx hb dL_bars_372 rfl (lv_at hl 0 rfl) ?_
        refine lv_iconst (v := 1) hx hb dL_bars_373 (by decide) ?_
        refine g_ci hw (g_runV (As := [.int (1 : Int32)]) (rest := [.int v100]) hx hb hml hown hts mX4_told vX4_told kL_32 hw 0 0 (ci_0 (by decide)) (bi_0 (by decide) hn) rfl rfl (c_X4_told hn h) rfl rfl ⟨Nat.le_of_ble_eq_true rfl, Nat.le_of_ble_eq_true rfl⟩ rfl hl.1 rfl (Nat.le_of_ble_eq_true rfl) dL_bars_374 ⟨Nat.zero_le _, Nat.zero_le _⟩) ?_
        clear h hw; intro v105 M104 H locs hw h
        refine g_icmp_gt (tgt := 455) hx hb h dL_bars_377 (by decide) ?_ ?_
        · clear h; intro h
          exact hK102 (v99, v100, M104) h _ _ _ hw (lv_sub hl [0, 1, 2, 3, 4, 5, 6, 7] rfl)
        · clear h; intro h
          refine lv_iload hx hb dL_bars_380 (lv_at hl 8 rfl) ?_
          refine lv_aload_n hx hb dL_bars_382 rfl (lv_at hl 0 rfl) ?_
          refine lv_iload hx hb dL_bars_383 (lv_at hl 4 rfl) ?_
          refine lv_iconst (v := 0) hx hb dL_bars_385 (by decide) ?_
          refine g_ci hw (g_runV (As := [.int v4, .int (0 : Int32)]) (rest := [.int v100]) hx hb hml hown hts mX4_entry vX4_entry kL_41 hw 0 0 (ci_0 (by decide)) (bi_0 (by decide) hn) rfl rfl (c_X4_entry hn h) rfl rfl ⟨Nat.le_of_ble_eq_true rfl, Nat.le_of_ble_eq_true rfl⟩ rfl hl.1 rfl (Nat.le_of_ble_eq_true rfl) dL_bars_386 ⟨Nat.zero_le _, Nat.zero_le _⟩) ?_
          clear h hw; intro v107 M106 H locs hw h
          refine letJ_W (fun (x : Int32 × Mm) => ∀ (H : Heap) (locs : List Loc) (ls : Array Slot), WO o (WA o) s s.heap H locs x.2 → lv_has ls 13 [(0, .ref (o.2.1 0 0)), (1, .int v1), (2, .int v2), (3, .int v3), (4, .int v4), (5, .int v94), (6, .int v99), (7, .int v14), (8, .int v100)] → W p l e rm_L_bars s m args below meth c H locs 0 0 (MQ below (QZ o Q) args s 0 0 (WA o)) (F0 m 409 ls [.int x.1])) h ?_ ?_
          · clear h hw hl; clear ls; intro x h H locs ls hw hl
            obtain ⟨v108, M110⟩ := x
            replace hl : lv_has ls 13 [(0, .ref (o.2.1 0 0)), (1, .int v1), (2, .int v2), (3, .int v3), (4, .int v4), (5, .int v94), (6, .int v99), (7, .int v14), (8, .int v100)] := hl
            dsimp only at h
            dsimp only at hw
            refine lv_istore (lv' := [(9, .int v108), (0, .ref (o.2.1 0 0)), (1, .int v1), (2, .int v2), (3, .int v3), (4, .int v4), (5, .int v94), (6, .int v99), (7, .int v14), (8, .int v100)]) hx hb dL_bars_409 hl (by decide) rfl ?_
            clear hl; clear ls; intro ls hl
            refine lv_iload hx hb dL_bars_411 (lv_at hl 7 rfl) ?_
            refine lv_iload hx hb dL_bars_413 (lv_at hl 0 rfl) ?_
            refine letJ_W (fun (x : Int32) => ∀ (H : Heap) (locs : List Loc) (ls : Array Slot), WO o (WA o) s s.heap H locs M110 → lv_has ls 13 [(0, .ref (o.2.1 0 0)), (1, .int v1), (2, .int v2), (3, .int v3), (4, .int v4), (5, .int v94), (7, .int v14), (8, .int v100), (9, .int v108)] → W p l e rm_L_bars s m args below meth c H locs 0 0 (MQ below (QZ o Q) args s 0 0 (WA o)) (F0 m 423 ls [.int x, .int v99])) h ?_ ?_
            · clear h hw hl; clear ls; intro x h H locs ls hw hl
              obtain ⟨v111, rfl⟩ : ∃ z, z = x := ⟨_, rfl⟩
              replace hl : lv_has ls 13 [(0, .ref (o.2.1 0 0)), (1, .int v1), (2, .int v2), (3, .int v3), (4, .int v4), (5, .int v94), (7, .int v14), (8, .int v100), (9, .int v108)] := hl
              refine lv_iadd hx hb dL_bars_423 ?_
              refine g_topi h ?_
              clear h; intro v113 h
              refine lv_istore (lv' := [(6, .int v113), (0, .ref (o.2.1 0 0)), (1, .int v1), (2, .int v2), (3, .int v3), (4, .int v4), (5, .int v94), (7, .int v14), (8, .int v100), (9, .int v108)]) hx hb dL_bars_424 hl (by decide) rfl ?_
              clear hl; clear ls; intro ls hl
              refine lv_aload_n hx hb dL_bars_426 rfl (lv_at hl 1 rfl) ?_
              refine lv_iload hx hb dL_bars_427 (lv_at hl 5 rfl) ?_
              refine lv_iload hx hb dL_bars_429 (lv_at hl 8 rfl) ?_
              refine g_ci hw (g_runV (As := [.int v4, .int v100]) (rest := []) hx hb hml hown hts mX4_rowOf vX4_rowOf kL_48 hw 0 0 (ci_0 (by decide)) (bi_0 (by decide) hn) rfl rfl (c_X4_rowOf hn h) rfl rfl ⟨Nat.le_of_ble_eq_true rfl, Nat.le_of_ble_eq_true rfl⟩ rfl hl.1 rfl (Nat.le_of_ble_eq_true rfl) dL_bars_431 ⟨Nat.zero_le _, Nat.zero_le _⟩) ?_
              clear h hw; intro v115 M114 H locs hw h
              refine letJ_W (fun (x : Int32) => ∀ (H : Heap) (locs : List Loc) (ls : Array Slot), WO o (WA o) s s.heap H locs M114 → lv_has ls 13 [(0, .ref (o.2.1 0 0)), (1, .int v1), (2, .int v2), (3, .int v3), (4, .int v4), (5, .int v94), (6, .int v113), (7, .int v14), (8, .int v100), (9, .int v108)] → W p l e rm_L_bars s m args below meth c H locs 0 0 (MQ below (QZ o Q) args s 0 0 (WA o)) (F0 m 442 ls [.int x])) h ?_ ?_
              · clear h hw hl; clear ls; intro x h H locs ls hw hl
                obtain ⟨v116, rfl⟩ : ∃ z, z = x := ⟨_, rfl⟩
                replace hl : lv_has ls 13 [(0, .ref (o.2.1 0 0)), (1, .int v1), (2, .int v2), (3, .int v3), (4, .int v4), (5, .int v94), (6, .int v113), (7, .int v14), (8, .int v100), (9, .int v108)] := hl
                refine lv_iload hx hb dL_bars_442 (lv_at hl 9 rfl) ?_
                refine g_icmp_eq (tgt := 449) hx hb h dL_bars_444 (by decide) ?_ ?_
                · clear h; intro h
                  refine g_iinc (k := 8) (v := (v100 + (1 : Int32))) (lv' := fun v118 => [(8, .int v118), (0, .ref (o.2.1 0 0)), (1, .int v1), (2, .int v2), (3, .int v3), (4, .int v4), (5, .int v94), (6, .int v113), (7, .int v14), (9, .int v108)]) hx hb dL_bars_449 hl rfl rfl (by decide) (fun _ => rfl) h ?_
                  clear h hl; clear ls; intro v118 ls h hl
                  refine lv_goto (tgt := 370) hx hb dL_bars_452 (by decide) ?_
                  exact hR103 (v113, v118, M114) h _ _ _ hw (lv_sub hl [1, 2, 3, 4, 5, 6, 7, 8, 0] rfl)
                · clear h; intro h
                  refine lv_iconst (v := 0) hx hb dL_bars_447 (by decide) ?_
                  exact g_zret hx hb hr hlocks hw (Or.inl rfl) h dL_bars_448
              clear h; intro J117 hJ117 h
              refine g_if_lt (tgt := 441) hx hb h dL_bars_434 (by decide) ?_ ?_
              · clear h; intro h
                refine lv_iconst (v := 0) hx hb dL_bars_441 (by decide) ?_
                exact hJ117 (0 : Int32) h _ _ _ hw (lv_sub hl [1, 2, 3, 4, 5, 6, 0, 7, 8, 9] rfl)
              · clear h; intro h
                refine lv_iconst (v := 1) hx hb dL_bars_437 (by decide) ?_
                refine lv_goto (tgt := 442) hx hb dL_bars_438 (by decide) ?_
                exact hJ117 (1 : Int32) h _ _ _ hw (lv_sub hl [1, 2, 3, 4, 5, 6, 0, 7, 8, 9] rfl)
            clear h; intro J112 hJ112 h
            refine g_if_eq (tgt := 422) hx hb h dL_bars_415 (by decide) ?_ ?_
            · clear h; intro h
              refine lv_iconst (v := 0) hx hb dL_bars_422 (by decide) ?_
              exact hJ112 (0 : Int32) h _ _ _ hw (lv_sub hl [1, 2, 3, 4, 5, 6, 8, 9, 0] rfl)
            · clear h; intro h
              refine lv_iconst (v := 1) hx hb dL_bars_418 (by decide) ?_
              refine lv_goto (tgt := 423) hx hb dL_bars_419 (by decide) ?_
              exact hJ112 (1 : Int32) h _ _ _ hw (lv_sub hl [1, 2, 3, 4, 5, 6, 8, 9, 0] rfl)
          clear h; intro J109 hJ109 h
          refine letJ_W (fun (x : Mm) => ∀ (H : Heap) (locs : List Loc) (ls : Array Slot), WO o (WA o) s s.heap H locs x → lv_has ls 13 [(0, .ref (o.2.1 0 0)), (1, .int v1), (2, .int v2), (3, .int v3), (4, .int v4), (5, .int v94), (6, .int v99), (7, .int v14), (8, .int v100)] → W p l e rm_L_bars s m args below meth c H locs 0 0 (MQ below (QZ o Q) args s 0 0 (WA o)) (F0 m 408 ls [])) h ?_ ?_
          · clear h hw hl; clear ls; intro x h H locs ls hw hl
            obtain ⟨M120, rfl⟩ : ∃ z, z = x := ⟨_, rfl⟩
            replace hl : lv_has ls 13 [(0, .ref (o.2.1 0 0)), (1, .int v1), (2, .int v2), (3, .int v3), (4, .int v4), (5, .int v94), (6, .int v99), (7, .int v14), (8, .int v100)] := hl
            refine lv_iconst (v := 0) hx hb dL_bars_408 (by decide) ?_
            exact hJ109 ((0 : Int32), M120) h _ _ _ hw (lv_sub hl [0, 1, 2, 3, 4, 5, 6, 7, 8] rfl)
          clear h; intro J119 hJ119 h
          refine g_icmp_lt (tgt := 408) hx hb h dL_bars_389 (by decide) ?_ ?_
          · clear h; intro h
            exact hJ119 M106 h _ _ _ hw (lv_sub hl [0, 1, 2, 3, 4, 5, 6, 7, 8] rfl)
          · clear h; intro h
            refine lv_iload hx hb dL_bars_392 (lv_at hl 8 rfl) ?_
            refine lv_aload_n hx hb dL_bars_394 rfl (lv_at hl 0 rfl) ?_
            refine lv_iload hx hb dL_bars_395 (lv_at hl 4 rfl) ?_
            refine lv_iconst (v := 1) hx hb dL_bars_397 (by decide) ?_
            refine g_ci hw (g_runV (As := [.int v4, .int (1 : Int32)]) (rest := [.int v100]) hx hb hml hown hts mX4_entry vX4_entry kL_41 hw 0 0 (ci_0 (by decide)) (bi_0 (by decide) hn) rfl rfl (c_X4_entry hn h) rfl rfl ⟨Nat.le_of_ble_eq_true rfl, Nat.le_of_ble_eq_true rfl⟩ rfl hl.1 rfl (Nat.le_of_ble_eq_true rfl) dL_bars_398 ⟨Nat.zero_le _, Nat.zero_le _⟩) ?_
            clear h hw; intro v122 M121 H locs hw h
            refine g_icmp_gt (tgt := 408) hx hb h dL_bars_401 (by decide) ?_ ?_
            · clear h; intro h
              exact hJ119 M121 h _ _ _ hw (lv_sub hl [0, 1, 2, 3, 4, 5, 6, 7, 8] rfl)
            · clear h; intro h
              refine lv_iconst (v := 1) hx hb dL_bars_404 (by decide) ?_
              refine lv_goto (tgt := 409) hx hb dL_bars_405 (by decide) ?_
              exact hJ109 ((1 : Int32), M121) h _ _ _ hw (lv_sub hl [0, 1, 2, 3, 4, 5, 6, 7, 8] rfl)
      clear h; intro K20 hK20 h
      refine loop_W (body := w_L_bars_L64 v1 v2 v3 v4 v14 Q K20) (fun (x : Int32 × Int32 × Mm) => ∀ (H : Heap) (locs : List Loc) (ls : Array Slot), WO o (WA o) s s.heap H locs x.2.2 → lv_has ls 13 [(0, .ref (o.2.1 0 0)), (1, .int v1), (2, .int v2), (3, .int v3), (4, .int v4), (5, .int x.1), (6, .int (0 : Int32)), (7, .int v14), (8, .int x.2.1)] → W p l e rm_L_bars s m args below meth c H locs 0 0 (MQ below (QZ o Q) args s 0 0 (WA o)) (F0 m 64 ls [])) ?_ n _ h _ _ _ hw (lv_sub hl [2, 3, 4, 5, 6, 7, 8, 1, 0] rfl)
      clear h hw hl; clear ls; intro R21 x hR21 h H locs ls hw hl
      obtain ⟨v17, v18, M19⟩ := x
      replace hl : lv_has ls 13 [(0, .ref (o.2.1 0 0)), (1, .int v1), (2, .int v2), (3, .int v3), (4, .int v4), (5, .int v17), (6, .int (0 : Int32)), (7, .int v14), (8, .int v18)] := hl
      dsimp only at hw
      unfold w_L_bars_L64 at h
      dsimp only at h
      refine lv_iload hx hb dL_bars_64 (lv_at hl 8 rfl) ?_
      refine lv_aload_n hx hb dL_bars_66 rfl (lv_at hl 0 rfl) ?_
      refine lv_iconst (v := 4) hx hb dL_bars_67 (by decide) ?_
      refine g_ci hw (g_runV (As := [.int (4 : Int32)]) (rest := [.int v18]) hx hb hml hown hts mX4_told vX4_told kL_32 hw 0 0 (ci_0 (by decide)) (bi_0 (by decide) hn) rfl rfl (c_X4_told hn h) rfl rfl ⟨Nat.le_of_ble_eq_true rfl, Nat.le_of_ble_eq_true rfl⟩ rfl hl.1 rfl (Nat.le_of_ble_eq_true rfl) dL_bars_68 ⟨Nat.zero_le _, Nat.zero_le _⟩) ?_
      clear h hw; intro v23 M22 H locs hw h
      refine g_icmp_ge (tgt := 363) hx hb h dL_bars_71 (by decide) ?_ ?_
      · clear h; intro h
        exact hK20 (v17, v18, M22) h _ _ _ hw (lv_sub hl [0, 1, 2, 3, 4, 5, 6, 7] rfl)
      · clear h; intro h
        refine lv_aload_n hx hb dL_bars_74 rfl (lv_at hl 0 rfl) ?_
        refine lv_iload hx hb dL_bars_75 (lv_at hl 4 rfl) ?_
        refine lv_iconst (v := 0) hx hb dL_bars_77 (by decide) ?_
        refine g_ci hw (g_runV (As := [.int v4, .int (0 : Int32)]) (rest := []) hx hb hml hown hts mX4_entry vX4_entry kL_41 hw 0 0 (ci_0 (by decide)) (bi_0 (by decide) hn) rfl rfl (c_X4_entry hn h) rfl rfl ⟨Nat.le_of_ble_eq_true rfl, Nat.le_of_ble_eq_true rfl⟩ rfl hl.1 rfl (Nat.le_of_ble_eq_true rfl) dL_bars_78 ⟨Nat.zero_le _, Nat.zero_le _⟩) ?_
        clear h hw; intro v25 M24 H locs hw h
        refine lv_aload_n hx hb dL_bars_81 rfl (lv_at hl 0 rfl) ?_
        refine lv_iload hx hb dL_bars_82 (lv_at hl 8 rfl) ?_
        refine lv_iconst (v := 0) hx hb dL_bars_84 (by decide) ?_
        refine g_ci hw (g_runV (As := [.int v18, .int (0 : Int32)]) (rest := [.int v25]) hx hb hml hown hts mX4_week vX4_week kL_35 hw 0 0 (ci_0 (by decide)) (bi_0 (by decide) hn) rfl rfl (c_X4_week hn h) rfl rfl ⟨Nat.le_of_ble_eq_true rfl, Nat.le_of_ble_eq_true rfl⟩ rfl hl.1 rfl (Nat.le_of_ble_eq_true rfl) dL_bars_85 ⟨Nat.zero_le _, Nat.zero_le _⟩) ?_
        clear h hw; intro v27 M26 H locs hw h
        refine letJ_W (fun (x : Int32 × Mm) => ∀ (H : Heap) (locs : List Loc) (ls : Array Slot), WO o (WA o) s s.heap H locs x.2 → lv_has ls 13 [(0, .ref (o.2.1 0 0)), (1, .int v1), (2, .int v2), (3, .int v3), (4, .int v4), (5, .int v17), (6, .int (0 : Int32)), (7, .int v14), (8, .int v18)] → W p l e rm_L_bars s m args below meth c H locs 0 0 (MQ below (QZ o Q) args s 0 0 (WA o)) (F0 m 108 ls [.int x.1])) h ?_ ?_
        · clear h hw hl; clear ls; intro x h H locs ls hw hl
          obtain ⟨v28, M30⟩ := x
          replace hl : lv_has ls 13 [(0, .ref (o.2.1 0 0)), (1, .int v1), (2, .int v2), (3, .int v3), (4, .int v4), (5, .int v17), (6, .int (0 : Int32)), (7, .int v14), (8, .int v18)] := hl
          dsimp only at h
          dsimp only at hw
          refine lv_istore (lv' := [(9, .int v28), (0, .ref (o.2.1 0 0)), (1, .int v1), (2, .int v2), (3, .int v3), (4, .int v4), (5, .int v17), (6, .int (0 : Int32)), (7, .int v14), (8, .int v18)]) hx hb dL_bars_108 hl (by decide) rfl ?_
          clear hl; clear ls; intro ls hl
          refine lv_aload_n hx hb dL_bars_110 rfl (lv_at hl 1 rfl) ?_
          refine lv_iload hx hb dL_bars_111 (lv_at hl 5 rfl) ?_
          refine lv_iconst (v := 1) hx hb dL_bars_113 (by decide) ?_
          refine g_ci hw (g_runV (As := [.int v4, .int (1 : Int32)]) (rest := []) hx hb hml hown hts mX4_entry vX4_entry kL_41 hw 0 0 (ci_0 (by decide)) (bi_0 (by decide) hn) rfl rfl (c_X4_entry hn h) rfl rfl ⟨Nat.le_of_ble_eq_true rfl, Nat.le_of_ble_eq_true rfl⟩ rfl hl.1 rfl (Nat.le_of_ble_eq_true rfl) dL_bars_114 ⟨Nat.zero_le _, Nat.zero_le _⟩) ?_
          clear h hw; intro v32 M31 H locs hw h
          refine lv_aload_n hx hb dL_bars_117 rfl (lv_at hl 1 rfl) ?_
          refine lv_iload hx hb dL_bars_118 (lv_at hl 9 rfl) ?_
          refine lv_iconst (v := 1) hx hb dL_bars_120 (by decide) ?_
          refine g_ci hw (g_runV (As := [.int v18, .int (1 : Int32)]) (rest := [.int v32]) hx hb hml hown hts mX4_week vX4_week kL_35 hw 0 0 (ci_0 (by decide)) (bi_0 (by decide) hn) rfl rfl (c_X4_week hn h) rfl rfl ⟨Nat.le_of_ble_eq_true rfl, Nat.le_of_ble_eq_true rfl⟩ rfl hl.1 rfl (Nat.le_of_ble_eq_true rfl) dL_bars_121 ⟨Nat.zero_le _, Nat.zero_le _⟩) ?_
          clear h hw; intro v34 M33 H locs hw h
          refine letJ_W (fun (x : Int32 × Mm) => ∀ (H : Heap) (locs : List Loc) (ls : Array Slot), WO o (WA o) s s.heap H locs x.2 → lv_has ls 13 [(0, .ref (o.2.1 0 0)), (1, .int v1), (2, .int v2), (3, .int v3), (4, .int v4), (5, .int v17), (6, .int (0 : Int32)), (7, .int v14), (8, .int v18), (9, .int v28)] → W p l e rm_L_bars s m args below meth c H locs 0 0 (MQ below (QZ o Q) args s 0 0 (WA o)) (F0 m 144 ls [.int x.1])) h ?_ ?_
          · clear h hw hl; clear ls; intro x h H locs ls hw hl
            obtain ⟨v35, M37⟩ := x
            replace hl : lv_has ls 13 [(0, .ref (o.2.1 0 0)), (1, .int v1), (2, .int v2), (3, .int v3), (4, .int v4), (5, .int v17), (6, .int (0 : Int32)), (7, .int v14), (8, .int v18), (9, .int v28)] := hl
            dsimp only at h
            dsimp only at hw
            refine lv_istore (lv' := [(10, .int v35), (0, .ref (o.2.1 0 0)), (1, .int v1), (2, .int v2), (3, .int v3), (4, .int v4), (5, .int v17), (6, .int (0 : Int32)), (7, .int v14), (8, .int v18), (9, .int v28)]) hx hb dL_bars_144 hl (by decide) rfl ?_
            clear hl; clear ls; intro ls hl
            refine lv_iload hx hb dL_bars_146 (lv_at hl 8 rfl) ?_
            refine letJ_W (fun (x : Unit) => ∀ (H : Heap) (locs : List Loc) (ls : Array Slot), WO o (WA o) s s.heap H locs M37 → lv_has ls 13 [(0, .ref (o.2.1 0 0)), (1, .int v1), (2, .int v2), (3, .int v3), (4, .int v4), (5, .int v17), (6, .int (0 : Int32)), (7, .int v14), (8, .int v18)] → W p l e rm_L_bars s m args below meth c H locs 0 0 (MQ below (QZ o Q) args s 0 0 (WA o)) (F0 m 158 ls [])) h ?_ ?_
            · clear h hw hl; clear ls; intro x h H locs ls hw hl
              replace hl : lv_has ls 13 [(0, .ref (o.2.1 0 0)), (1, .int v1), (2, .int v2), (3, .int v3), (4, .int v4), (5, .int v17), (6, .int (0 : Int32)), (7, .int v14), (8, .int v18)] := hl
              refine lv_aload_n hx hb dL_bars_158 rfl (lv_at hl 0 rfl) ?_
              refine lv_iload hx hb dL_bars_159 (lv_at hl 4 rfl) ?_
              refine lv_iload hx hb dL_bars_161 (lv_at hl 8 rfl) ?_
              refine lv_iconst (v := 0) hx hb dL_bars_163 (by decide) ?_
              refine g_ci hw (g_runV (As := [.int v4, .int v18, .int (0 : Int32)]) (rest := []) hx hb hml hown hts mX4_bar vX4_bar kL_44 hw 0 0 (ci_0 (by decide)) (bi_0 (by decide) hn) rfl rfl (c_X4_bar hn h) rfl rfl ⟨Nat.le_of_ble_eq_true rfl, Nat.le_of_ble_eq_true rfl⟩ rfl hl.1 rfl (Nat.le_of_ble_eq_true rfl) dL_bars_164 ⟨Nat.zero_le _, Nat.zero_le _⟩) ?_
              clear h hw; intro v40 M39 H locs hw h
              refine lv_bipush (v := (-9)) hx hb dL_bars_167 (by decide) ?_
              refine g_icmp_eq (tgt := 357) hx hb h dL_bars_169 (by decide) ?_ ?_
              · clear h; intro h
                refine g_iinc (k := 8) (v := (v18 + (1 : Int32))) (lv' := fun v41 => [(8, .int v41), (0, .ref (o.2.1 0 0)), (1, .int v1), (2, .int v2), (3, .int v3), (4, .int v4), (5, .int v17), (6, .int (0 : Int32)), (7, .int v14)]) hx hb dL_bars_357 hl rfl rfl (by decide) (fun _ => rfl) h ?_
                clear h hl; clear ls; intro v41 ls h hl
                refine lv_goto (tgt := 64) hx hb dL_bars_360 (by decide) ?_
                exact hR21 (v17, v41, M39) h _ _ _ hw (lv_sub hl [1, 2, 3, 4, 5, 6, 7, 8, 0] rfl)
              · clear h; intro h
                refine lv_iconst (v := 0) hx hb dL_bars_172 (by decide) ?_
                exact g_zret hx hb hr hlocks hw (Or.inl rfl) h dL_bars_173
            clear h; intro J38 hJ38 h
            refine g_if_eq (tgt := 158) hx hb h dL_bars_148 (by decide) ?_ ?_
            · clear h; intro h
              exact hJ38 () h _ _ _ hw (lv_sub hl [1, 2, 3, 4, 5, 6, 7, 8, 9] rfl)
            · clear h; intro h
              refine lv_iload hx hb dL_bars_151 (lv_at hl 10 rfl) ?_
              refine lv_iload hx hb dL_bars_153 (lv_at hl 0 rfl) ?_
              refine g_icmp_le (tgt := 174) hx hb h dL_bars_155 (by decide) ?_ ?_
              · clear h; intro h
                refine g_iinc (k := 6) (v := (v17 + (1 : Int32))) (lv' := fun v42 => [(5, .int v42), (10, .int v35), (0, .ref (o.2.1 0 0)), (1, .int v1), (2, .int v2), (3, .int v3), (4, .int v4), (6, .int (0 : Int32)), (7, .int v14), (8, .int v18), (9, .int v28)]) hx hb dL_bars_174 hl rfl rfl (by decide) (fun _ => rfl) h ?_
                clear h hl; clear ls; intro v42 ls h hl
                refine lv_aload_n hx hb dL_bars_177 rfl (lv_at hl 2 rfl) ?_
                refine lv_iload hx hb dL_bars_178 (lv_at hl 6 rfl) ?_
                refine lv_iload hx hb dL_bars_180 (lv_at hl 9 rfl) ?_
                refine lv_iconst (v := 1) hx hb dL_bars_182 (by decide) ?_
                refine g_ci hw (g_runV (As := [.int v4, .int v18, .int (1 : Int32)]) (rest := []) hx hb hml hown hts mX4_bar vX4_bar kL_44 hw 0 0 (ci_0 (by decide)) (bi_0 (by decide) hn) rfl rfl (c_X4_bar hn h) rfl rfl ⟨Nat.le_of_ble_eq_true rfl, Nat.le_of_ble_eq_true rfl⟩ rfl hl.1 rfl (Nat.le_of_ble_eq_true rfl) dL_bars_183 ⟨Nat.zero_le _, Nat.zero_le _⟩) ?_
                clear h hw; intro v44 M43 H locs hw h
                refine lv_iload hx hb dL_bars_186 (lv_at hl 10 rfl) ?_
                refine letJ_W (fun (x : Int32 × Mm) => ∀ (H : Heap) (locs : List Loc) (ls : Array Slot), WO o (WA o) s s.heap H locs x.2 → lv_has ls 13 [(0, .ref (o.2.1 0 0)), (1, .int v1), (2, .int v2), (3, .int v3), (4, .int v4), (5, .int v42), (6, .int (0 : Int32)), (7, .int v14), (8, .int v18), (9, .int v28), (10, .int v35)] → W p l e rm_L_bars s m args below meth c H locs 0 0 (MQ below (QZ o Q) args s 0 0 (WA o)) (F0 m 299 ls [.int x.1])) h ?_ ?_
                · clear h hw hl; clear ls; intro x h H locs ls hw hl
                  obtain ⟨v45, M47⟩ := x
                  replace hl : lv_has ls 13 [(0, .ref (o.2.1 0 0)), (1, .int v1), (2, .int v2), (3, .int v3), (4, .int v4), (5, .int v42), (6, .int (0 : Int32)), (7, .int v14), (8, .int v18), (9, .int v28), (10, .int v35)] := hl
                  dsimp only at h
                  dsimp only at hw
                  refine lv_istore (lv' := [(11, .int v45), (0, .ref (o.2.1 0 0)), (1, .int v1), (2, .int v2), (3, .int v3), (4, .int v4), (5, .int v42), (6, .int (0 : Int32)), (7, .int v14), (8, .int v18), (9, .int v28), (10, .int v35)]) hx hb dL_bars_299 hl (by decide) rfl ?_
                  clear hl; clear ls; intro ls hl
                  refine lv_iload hx hb dL_bars_301 (lv_at hl 10 rfl) ?_
                  refine lv_istore (lv' := [(12, .int v28), (11, .int v45), (0, .ref (o.2.1 0 0)), (1, .int v1), (2, .int v2), (3, .int v3), (4, .int v4), (5, .int v42), (6, .int (0 : Int32)), (7, .int v14), (8, .int v18), (9, .int v28), (10, .int v35)]) hx hb dL_bars_303 hl (by decide) rfl ?_
                  clear hl; clear ls; intro ls hl
                  obtain ⟨n, h⟩ := h
                  refine letK_W (body := fun K => w_L_bars_L305 v1 v2 v3 v4 v42 v14 v18 v35 K) (fun (x : Int32 × Int32 × Mm) => ∀ (H : Heap) (locs : List Loc) (ls : Array Slot), WO o (WA o) s s.heap H locs x.2.2 → lv_has ls 13 [(0, .ref (o.2.1 0 0)), (1, .int v1), (2, .int v2), (3, .int v3), (4, .int v4), (5, .int v42), (6, .int (0 : Int32)), (7, .int v14), (8, .int v18), (11, .int x.1)] → W p l e rm_L_bars s m args below meth c H locs 0 0 (MQ below (QZ o Q) args s 0 0 (WA o)) (F0 m 350 ls [])) h ?_ ?_
                  · clear h hw hl; clear ls; intro x h H locs ls hw hl
                    obtain ⟨v60, v61, M62⟩ := x
                    replace hl : lv_has ls 13 [(0, .ref (o.2.1 0 0)), (1, .int v1), (2, .int v2), (3, .int v3), (4, .int v4), (5, .int v42), (6, .int (0 : Int32)), (7, .int v14), (8, .int v18), (11, .int v60)] := hl
                    dsimp only at h hw
                    refine lv_iload hx hb dL_bars_350 (lv_at hl 9 rfl) ?_
                    refine g_if_ne (tgt := 357) hx hb h dL_bars_352 (by decide) ?_ ?_
                    · clear h; intro h
                      refine g_iinc (k := 8) (v := (v18 + (1 : Int32))) (lv' := fun v63 => [(8, .int v63), (0, .ref (o.2.1 0 0)), (1, .int v1), (2, .int v2), (3, .int v3), (4, .int v4), (5, .int v42), (6, .int (0 : Int32)), (7, .int v14), (11, .int v60)]) hx hb dL_bars_357 hl rfl rfl (by decide) (fun _ => rfl) h ?_
                      clear h hl; clear ls; intro v63 ls h hl
                      refine lv_goto (tgt := 64) hx hb dL_bars_360 (by decide) ?_
                      exact hR21 (v42, v63, M62) h _ _ _ hw (lv_sub hl [1, 2, 3, 4, 5, 6, 7, 8, 0] rfl)
                    · clear h; intro h
                      refine lv_iconst (v := 0) hx hb dL_bars_355 (by decide) ?_
                      exact g_zret hx hb hr hlocks hw (Or.inl rfl) h dL_bars_356
                  clear h; intro K51 hK51 h
                  refine loop_W (body := w_L_bars_L305 v1 v2 v3 v4 v42 v14 v18 v35 K51) (fun (x : Int32 × Int32 × Mm) => ∀ (H : Heap) (locs : List Loc) (ls : Array Slot), WO o (WA o) s s.heap H locs x.2.2 → lv_has ls 13 [(0, .ref (o.2.1 0 0)), (1, .int v1), (2, .int v2), (3, .int v3), (4, .int v4), (5, .int v42), (6, .int (0 : Int32)), (7, .int v14), (8, .int v18), (10, .int v35), (11, .int x.1), (12, .int x.2.1)] → W p l e rm_L_bars s m args below meth c H locs 0 0 (MQ below (QZ o Q) args s 0 0 (WA o)) (F0 m 305 ls [])) ?_ n _ h _ _ _ hw (lv_sub hl [2, 3, 4, 5, 6, 7, 8, 9, 10, 12, 1, 0] rfl)
                  clear h hw hl; clear ls; intro R52 x hR52 h H locs ls hw hl
                  obtain ⟨v48, v49, M50⟩ := x
                  replace hl : lv_has ls 13 [(0, .ref (o.2.1 0 0)), (1, .int v1), (2, .int v2), (3, .int v3), (4, .int v4), (5, .int v42), (6, .int (0 : Int32)), (7, .int v14), (8, .int v18), (10, .int v35), (11, .int v48), (12, .int v49)] := hl
                  dsimp only at hw
                  unfold w_L_bars_L305 at h
                  dsimp only at h
                  refine lv_iload hx hb dL_bars_305 (lv_at hl 11 rfl) ?_
                  refine lv_iload hx hb dL_bars_307 (lv_at hl 9 rfl) ?_
                  refine g_icmp_gt (tgt := 350) hx hb h dL_bars_309 (by decide) ?_ ?_
                  · clear h; intro h
                    exact hK51 (v48, v49, M50) h _ _ _ hw (lv_sub hl [0, 1, 2, 3, 4, 5, 6, 7, 8, 10] rfl)
                  · clear h; intro h
                    refine lv_iload hx hb dL_bars_312 (lv_at hl 10 rfl) ?_
                    refine g_if_eq (tgt := 341) hx hb h dL_bars_314 (by decide) ?_ ?_
                    · clear h; intro h
                      refine lv_iconst (v := 0) hx hb dL_bars_341 (by decide) ?_
                      refine lv_istore (lv' := [(11, .int (0 : Int32)), (0, .ref (o.2.1 0 0)), (1, .int v1), (2, .int v2), (3, .int v3), (4, .int v4), (5, .int v42), (6, .int (0 : Int32)), (7, .int v14), (8, .int v18), (10, .int v35), (12, .int v49)]) hx hb dL_bars_342 hl (by decide) rfl ?_
                      clear hl; clear ls; intro ls hl
                      refine g_iinc (k := 11) (v := (v49 + (1 : Int32))) (lv' := fun v53 => [(12, .int v53), (11, .int (0 : Int32)), (0, .ref (o.2.1 0 0)), (1, .int v1), (2, .int v2), (3, .int v3), (4, .int v4), (5, .int v42), (6, .int (0 : Int32)), (7, .int v14), (8, .int v18), (10, .int v35)]) hx hb dL_bars_344 hl rfl rfl (by decide) (fun _ => rfl) h ?_
                      clear h hl; clear ls; intro v53 ls h hl
                      refine lv_goto (tgt := 305) hx hb dL_bars_347 (by decide) ?_
                      exact hR52 ((0 : Int32), v53, M50) h _ _ _ hw (lv_sub hl [2, 3, 4, 5, 6, 7, 8, 9, 10, 11, 1, 0] rfl)
                    · clear h; intro h
                      refine lv_aload_n hx hb dL_bars_317 rfl (lv_at hl 0 rfl) ?_
                      refine lv_iload hx hb dL_bars_318 (lv_at hl 4 rfl) ?_
                      refine lv_iload hx hb dL_bars_320 (lv_at hl 11 rfl) ?_
                      refine g_ci hw (g_runV (As := [.int v4, .int v49]) (rest := []) hx hb hml hown hts mX4_rowOf vX4_rowOf kL_48 hw 0 0 (ci_0 (by decide)) (bi_0 (by decide) hn) rfl rfl (c_X4_rowOf hn h) rfl rfl ⟨Nat.le_of_ble_eq_true rfl, Nat.le_of_ble_eq_true rfl⟩ rfl hl.1 rfl (Nat.le_of_ble_eq_true rfl) dL_bars_322 ⟨Nat.zero_le _, Nat.zero_le _⟩) ?_
                      clear h hw; intro v55 M54 H locs hw h
                      refine lv_aload_n hx hb dL_bars_325 rfl (lv_at hl 0 rfl) ?_
                      refine lv_iload hx hb dL_bars_326 (lv_at hl 4 rfl) ?_
                      refine lv_iload hx hb dL_bars_328 (lv_at hl 8 rfl) ?_
                      refine lv_iconst (v := 0) hx hb dL_bars_330 (by decide) ?_
                      refine g_ci hw (g_runV (As := [.int v4, .int v18, .int (0 : Int32)]) (rest := [.int v55]) hx hb hml hown hts mX4_bar vX4_bar kL_44 hw 0 0 (ci_0 (by decide)) (bi_0 (by decide) hn) rfl rfl (c_X4_bar hn h) rfl rfl ⟨Nat.le_of_ble_eq_true rfl, Nat.le_of_ble_eq_true rfl⟩ rfl hl.1 rfl (Nat.le_of_ble_eq_true rfl) dL_bars_331 ⟨Nat.zero_le _, Nat.zero_le _⟩) ?_
                      clear h hw; intro v57 M56 H locs hw h
                      refine g_icmp_ne (tgt := 341) hx hb h dL_bars_334 (by decide) ?_ ?_
                      · clear h; intro h
                        refine lv_iconst (v := 0) hx hb dL_bars_341 (by decide) ?_
                        refine lv_istore (lv' := [(11, .int (0 : Int32)), (0, .ref (o.2.1 0 0)), (1, .int v1), (2, .int v2), (3, .int v3), (4, .int v4), (5, .int v42), (6, .int (0 : Int32)), (7, .int v14), (8, .int v18), (10, .int v35), (12, .int v49)]) hx hb dL_bars_342 hl (by decide) rfl ?_
                        clear hl; clear ls; intro ls hl
                        refine g_iinc (k := 11) (v := (v49 + (1 : Int32))) (lv' := fun v58 => [(12, .int v58), (11, .int (0 : Int32)), (0, .ref (o.2.1 0 0)), (1, .int v1), (2, .int v2), (3, .int v3), (4, .int v4), (5, .int v42), (6, .int (0 : Int32)), (7, .int v14), (8, .int v18), (10, .int v35)]) hx hb dL_bars_344 hl rfl rfl (by decide) (fun _ => rfl) h ?_
                        clear h hl; clear ls; intro v58 ls h hl
                        refine lv_goto (tgt := 305) hx hb dL_bars_347 (by decide) ?_
                        exact hR52 ((0 : Int32), v58, M56) h _ _ _ hw (lv_sub hl [2, 3, 4, 5, 6, 7, 8, 9, 10, 11, 1, 0] rfl)
                      · clear h; intro h
                        refine lv_iconst (v := 1) hx hb dL_bars_337 (by decide) ?_
                        refine lv_goto (tgt := 342) hx hb dL_bars_338 (by decide) ?_
                        refine lv_istore (lv' := [(11, .int (1 : Int32)), (0, .ref (o.2.1 0 0)), (1, .int v1), (2, .int v2), (3, .int v3), (4, .int v4), (5, .int v42), (6, .int (0 : Int32)), (7, .int v14), (8, .int v18), (10, .int v35), (12, .int v49)]) hx hb dL_bars_342 hl (by decide) rfl ?_
                        clear hl; clear ls; intro ls hl
                        refine g_iinc (k := 11) (v := (v49 + (1 : Int32))) (lv' := fun v59 => [(12, .int v59), (11, .int (1 : Int32)), (0, .ref (o.2.1 0 0)), (1, .int v1), (2, .int v2), (3, .int v3), (4, .int v4), (5, .int v42), (6, .int (0 : Int32)), (7, .int v14), (8, .int v18), (10, .int v35)]) hx hb dL_bars_344 hl rfl rfl (by decide) (fun _ => rfl) h ?_
                        clear h hl; clear ls; intro v59 ls h hl
                        refine lv_goto (tgt := 305) hx hb dL_bars_347 (by decide) ?_
                        exact hR52 ((1 : Int32), v59, M56) h _ _ _ hw (lv_sub hl [2, 3, 4, 5, 6, 7, 8, 9, 10, 11, 1, 0] rfl)
                clear h; intro J46 hJ46 h
                refine letJ_W (fun (x : Mm) => ∀ (H : Heap) (locs : List Loc) (ls : Array Slot), WO o (WA o) s s.heap H locs x → lv_has ls 13 [(0, .ref (o.2.1 0 0)), (1, .int v1), (2, .int v2), (3, .int v3), (4, .int v4), (5, .int v42), (6, .int (0 : Int32)), (7, .int v14), (8, .int v18), (9, .int v28), (10, .int v35)] → W p l e rm_L_bars s m args below meth c H locs 0 0 (MQ below (QZ o Q) args s 0 0 (WA o)) (F0 m 298 ls [])) h ?_ ?_
                · clear h hw hl; clear ls; intro x h H locs ls hw hl
                  obtain ⟨M65, rfl⟩ : ∃ z, z = x := ⟨_, rfl⟩
                  replace hl : lv_has ls 13 [(0, .ref (o.2.1 0 0)), (1, .int v1), (2, .int v2), (3, .int v3), (4, .int v4), (5, .int v42), (6, .int (0 : Int32)), (7, .int v14), (8, .int v18), (9, .int v28), (10, .int v35)] := hl
                  refine lv_iconst (v := 0) hx hb dL_bars_298 (by decide) ?_
                  exact hJ46 ((0 : Int32), M65) h _ _ _ hw (lv_sub hl [0, 1, 2, 3, 4, 5, 6, 7, 8, 9, 10] rfl)
                clear h; intro J64 hJ64 h
                refine g_icmp_ne (tgt := 298) hx hb h dL_bars_188 (by decide) ?_ ?_
                · clear h; intro h
                  exact hJ64 M43 h _ _ _ hw (lv_sub hl [2, 3, 4, 5, 6, 0, 7, 8, 9, 10, 1] rfl)
                · clear h; intro h
                  refine lv_aload_n hx hb dL_bars_191 rfl (lv_at hl 2 rfl) ?_
                  refine lv_iload hx hb dL_bars_192 (lv_at hl 6 rfl) ?_
                  refine lv_iload hx hb dL_bars_194 (lv_at hl 9 rfl) ?_
                  refine lv_iconst (v := 2) hx hb dL_bars_196 (by decide) ?_
                  refine g_ci hw (g_runV (As := [.int v4, .int v18, .int (2 : Int32)]) (rest := []) hx hb hml hown hts mX4_bar vX4_bar kL_44 hw 0 0 (ci_0 (by decide)) (bi_0 (by decide) hn) rfl rfl (c_X4_bar hn h) rfl rfl ⟨Nat.le_of_ble_eq_true rfl, Nat.le_of_ble_eq_true rfl⟩ rfl hl.1 rfl (Nat.le_of_ble_eq_true rfl) dL_bars_197 ⟨Nat.zero_le _, Nat.zero_le _⟩) ?_
                  clear h hw; intro v67 M66 H locs hw h
                  refine lv_iload hx hb dL_bars_200 (lv_at hl 1 rfl) ?_
                  refine g_icmp_ne (tgt := 298) hx hb h dL_bars_202 (by decide) ?_ ?_
                  · clear h; intro h
                    exact hJ64 M66 h _ _ _ hw (lv_sub hl [2, 3, 4, 5, 6, 0, 7, 8, 9, 10, 1] rfl)
                  · clear h; intro h
                    refine lv_aload_n hx hb dL_bars_205 rfl (lv_at hl 2 rfl) ?_
                    refine lv_iload hx hb dL_bars_206 (lv_at hl 6 rfl) ?_
                    refine lv_iload hx hb dL_bars_208 (lv_at hl 9 rfl) ?_
                    refine lv_iconst (v := 3) hx hb dL_bars_210 (by decide) ?_
                    refine g_ci hw (g_runV (As := [.int v4, .int v18, .int (3 : Int32)]) (rest := []) hx hb hml hown hts mX4_bar vX4_bar kL_44 hw 0 0 (ci_0 (by decide)) (bi_0 (by decide) hn) rfl rfl (c_X4_bar hn h) rfl rfl ⟨Nat.le_of_ble_eq_true rfl, Nat.le_of_ble_eq_true rfl⟩ rfl hl.1 rfl (Nat.le_of_ble_eq_true rfl) dL_bars_211 ⟨Nat.zero_le _, Nat.zero_le _⟩) ?_
                    clear h hw; intro v69 M68 H locs hw h
                    refine lv_aload_n hx hb dL_bars_214 rfl (lv_at hl 2 rfl) ?_
                    refine lv_iload hx hb dL_bars_215 (lv_at hl 6 rfl) ?_
                    refine lv_iconst (v := 0) hx hb dL_bars_217 (by decide) ?_
                    refine g_ci hw (g_runV (As := [.int v4, .int (0 : Int32)]) (rest := [.int v69]) hx hb hml hown hts mX4_entry vX4_entry kL_41 hw 0 0 (ci_0 (by decide)) (bi_0 (by decide) hn) rfl rfl (c_X4_entry hn h) rfl rfl ⟨Nat.le_of_ble_eq_true rfl, Nat.le_of_ble_eq_true rfl⟩ rfl hl.1 rfl (Nat.le_of_ble_eq_true rfl) dL_bars_218 ⟨Nat.zero_le _, Nat.zero_le _⟩) ?_
                    clear h hw; intro v71 M70 H locs hw h
                    refine lv_iload hx hb dL_bars_221 (lv_at hl 10 rfl) ?_
                    refine letJ_W (fun (x : Int32) => ∀ (H : Heap) (locs : List Loc) (ls : Array Slot), WO o (WA o) s s.heap H locs M70 → lv_has ls 13 [(0, .ref (o.2.1 0 0)), (1, .int v1), (2, .int v2), (3, .int v3), (4, .int v4), (5, .int v42), (6, .int (0 : Int32)), (7, .int v14), (8, .int v18), (9, .int v28), (10, .int v35)] → W p l e rm_L_bars s m args below meth c H locs 0 0 (MQ below (QZ o Q) args s 0 0 (WA o)) (F0 m 231 ls [.int x, .int v69])) h ?_ ?_
                    · clear h hw hl; clear ls; intro x h H locs ls hw hl
                      obtain ⟨v72, rfl⟩ : ∃ z, z = x := ⟨_, rfl⟩
                      replace hl : lv_has ls 13 [(0, .ref (o.2.1 0 0)), (1, .int v1), (2, .int v2), (3, .int v3), (4, .int v4), (5, .int v42), (6, .int (0 : Int32)), (7, .int v14), (8, .int v18), (9, .int v28), (10, .int v35)] := hl
                      refine g_icmp_ne (tgt := 298) hx hb h dL_bars_231 (by decide) ?_ ?_
                      · clear h; intro h
                        exact hJ64 M70 h _ _ _ hw (lv_sub hl [0, 1, 2, 3, 4, 5, 6, 7, 8, 9, 10] rfl)
                      · clear h; intro h
                        refine lv_aload_n hx hb dL_bars_234 rfl (lv_at hl 0 rfl) ?_
                        refine lv_iload hx hb dL_bars_235 (lv_at hl 4 rfl) ?_
                        refine lv_iload hx hb dL_bars_237 (lv_at hl 8 rfl) ?_
                        refine lv_iconst (v := 4) hx hb dL_bars_239 (by decide) ?_
                        refine g_ci hw (g_runV (As := [.int v4, .int v18, .int (4 : Int32)]) (rest := []) hx hb hml hown hts mX4_bar vX4_bar kL_44 hw 0 0 (ci_0 (by decide)) (bi_0 (by decide) hn) rfl rfl (c_X4_bar hn h) rfl rfl ⟨Nat.le_of_ble_eq_true rfl, Nat.le_of_ble_eq_true rfl⟩ rfl hl.1 rfl (Nat.le_of_ble_eq_true rfl) dL_bars_240 ⟨Nat.zero_le _, Nat.zero_le _⟩) ?_
                        clear h hw; intro v75 M74 H locs hw h
                        refine lv_aload_n hx hb dL_bars_243 rfl (lv_at hl 0 rfl) ?_
                        refine lv_iload hx hb dL_bars_244 (lv_at hl 4 rfl) ?_
                        refine lv_iconst (v := 1) hx hb dL_bars_246 (by decide) ?_
                        refine g_ci hw (g_runV (As := [.int v4, .int (1 : Int32)]) (rest := [.int v75]) hx hb hml hown hts mX4_entry vX4_entry kL_41 hw 0 0 (ci_0 (by decide)) (bi_0 (by decide) hn) rfl rfl (c_X4_entry hn h) rfl rfl ⟨Nat.le_of_ble_eq_true rfl, Nat.le_of_ble_eq_true rfl⟩ rfl hl.1 rfl (Nat.le_of_ble_eq_true rfl) dL_bars_247 ⟨Nat.zero_le _, Nat.zero_le _⟩) ?_
                        clear h hw; intro v77 M76 H locs hw h
                        refine lv_iload hx hb dL_bars_250 (lv_at hl 10 rfl) ?_
                        refine letJ_W (fun (x : Int32) => ∀ (H : Heap) (locs : List Loc) (ls : Array Slot), WO o (WA o) s s.heap H locs M76 → lv_has ls 13 [(0, .ref (o.2.1 0 0)), (1, .int v1), (2, .int v2), (3, .int v3), (4, .int v4), (5, .int v42), (6, .int (0 : Int32)), (7, .int v14), (8, .int v18), (9, .int v28), (10, .int v35)] → W p l e rm_L_bars s m args below meth c H locs 0 0 (MQ below (QZ o Q) args s 0 0 (WA o)) (F0 m 260 ls [.int x, .int v75])) h ?_ ?_
                        · clear h hw hl; clear ls; intro x h H locs ls hw hl
                          obtain ⟨v78, rfl⟩ : ∃ z, z = x := ⟨_, rfl⟩
                          replace hl : lv_has ls 13 [(0, .ref (o.2.1 0 0)), (1, .int v1), (2, .int v2), (3, .int v3), (4, .int v4), (5, .int v42), (6, .int (0 : Int32)), (7, .int v14), (8, .int v18), (9, .int v28), (10, .int v35)] := hl
                          refine g_icmp_ne (tgt := 298) hx hb h dL_bars_260 (by decide) ?_ ?_
                          · clear h; intro h
                            exact hJ64 M76 h _ _ _ hw (lv_sub hl [0, 1, 2, 3, 4, 5, 6, 7, 8, 9, 10] rfl)
                          · clear h; intro h
                            refine lv_aload_n hx hb dL_bars_263 rfl (lv_at hl 0 rfl) ?_
                            refine lv_iload hx hb dL_bars_264 (lv_at hl 4 rfl) ?_
                            refine lv_iload hx hb dL_bars_266 (lv_at hl 8 rfl) ?_
                            refine lv_iconst (v := 0) hx hb dL_bars_268 (by decide) ?_
                            refine g_ci hw (g_runV (As := [.int v4, .int v18, .int (0 : Int32)]) (rest := []) hx hb hml hown hts mX4_bar vX4_bar kL_44 hw 0 0 (ci_0 (by decide)) (bi_0 (by decide) hn) rfl rfl (c_X4_bar hn h) rfl rfl ⟨Nat.le_of_ble_eq_true rfl, Nat.le_of_ble_eq_true rfl⟩ rfl hl.1 rfl (Nat.le_of_ble_eq_true rfl) dL_bars_269 ⟨Nat.zero_le _, Nat.zero_le _⟩) ?_
                            clear h hw; intro v81 M80 H locs hw h
                            refine g_if_lt (tgt := 298) hx hb h dL_bars_272 (by decide) ?_ ?_
                            · clear h; intro h
                              exact hJ64 M80 h _ _ _ hw (lv_sub hl [0, 1, 2, 3, 4, 5, 6, 7, 8, 9, 10] rfl)
                            · clear h; intro h
                              refine lv_aload_n hx hb dL_bars_275 rfl (lv_at hl 0 rfl) ?_
                              refine lv_iload hx hb dL_bars_276 (lv_at hl 4 rfl) ?_
                              refine lv_iload hx hb dL_bars_278 (lv_at hl 8 rfl) ?_
                              refine lv_iconst (v := 0) hx hb dL_bars_280 (by decide) ?_
                              refine g_ci hw (g_runV (As := [.int v4, .int v18, .int (0 : Int32)]) (rest := []) hx hb hml hown hts mX4_bar vX4_bar kL_44 hw 0 0 (ci_0 (by decide)) (bi_0 (by decide) hn) rfl rfl (c_X4_bar hn h) rfl rfl ⟨Nat.le_of_ble_eq_true rfl, Nat.le_of_ble_eq_true rfl⟩ rfl hl.1 rfl (Nat.le_of_ble_eq_true rfl) dL_bars_281 ⟨Nat.zero_le _, Nat.zero_le _⟩) ?_
                              clear h hw; intro v83 M82 H locs hw h
                              refine lv_aload_n hx hb dL_bars_284 rfl (lv_at hl 0 rfl) ?_
                              refine lv_iload hx hb dL_bars_285 (lv_at hl 8 rfl) ?_
                              refine lv_iconst (v := 3) hx hb dL_bars_287 (by decide) ?_
                              refine g_ci hw (g_runV (As := [.int v18, .int (3 : Int32)]) (rest := [.int v83]) hx hb hml hown hts mX4_week vX4_week kL_35 hw 0 0 (ci_0 (by decide)) (bi_0 (by decide) hn) rfl rfl (c_X4_week hn h) rfl rfl ⟨Nat.le_of_ble_eq_true rfl, Nat.le_of_ble_eq_true rfl⟩ rfl hl.1 rfl (Nat.le_of_ble_eq_true rfl) dL_bars_288 ⟨Nat.zero_le _, Nat.zero_le _⟩) ?_
                              clear h hw; intro v85 M84 H locs hw h
                              refine g_icmp_ge (tgt := 298) hx hb h dL_bars_291 (by decide) ?_ ?_
                              · clear h; intro h
                                exact hJ64 M84 h _ _ _ hw (lv_sub hl [0, 1, 2, 3, 4, 5, 6, 7, 8, 9, 10] rfl)
                              · clear h; intro h
                                refine lv_iconst (v := 1) hx hb dL_bars_294 (by decide) ?_
                                refine lv_goto (tgt := 299) hx hb dL_bars_295 (by decide) ?_
                                exact hJ46 ((1 : Int32), M84) h _ _ _ hw (lv_sub hl [0, 1, 2, 3, 4, 5, 6, 7, 8, 9, 10] rfl)
                        clear h; intro J79 hJ79 h
                        refine g_icmp_le (tgt := 259) hx hb h dL_bars_252 (by decide) ?_ ?_
                        · clear h; intro h
                          refine lv_iconst (v := 0) hx hb dL_bars_259 (by decide) ?_
                          exact hJ79 (0 : Int32) h _ _ _ hw (lv_sub hl [0, 1, 2, 3, 4, 5, 6, 7, 8, 9, 10] rfl)
                        · clear h; intro h
                          refine lv_iconst (v := 1) hx hb dL_bars_255 (by decide) ?_
                          refine lv_goto (tgt := 260) hx hb dL_bars_256 (by decide) ?_
                          exact hJ79 (1 : Int32) h _ _ _ hw (lv_sub hl [0, 1, 2, 3, 4, 5, 6, 7, 8, 9, 10] rfl)
                    clear h; intro J73 hJ73 h
                    refine g_icmp_ge (tgt := 230) hx hb h dL_bars_223 (by decide) ?_ ?_
                    · clear h; intro h
                      refine lv_iconst (v := 0) hx hb dL_bars_230 (by decide) ?_
                      exact hJ73 (0 : Int32) h _ _ _ hw (lv_sub hl [2, 3, 4, 5, 6, 0, 7, 8, 9, 10, 1] rfl)
                    · clear h; intro h
                      refine lv_iconst (v := 1) hx hb dL_bars_226 (by decide) ?_
                      refine lv_goto (tgt := 231) hx hb dL_bars_227 (by decide) ?_
                      exact hJ73 (1 : Int32) h _ _ _ hw (lv_sub hl [2, 3, 4, 5, 6, 0, 7, 8, 9, 10, 1] rfl)
              · clear h; intro h
                exact hJ38 () h _ _ _ hw (lv_sub hl [1, 2, 3, 4, 5, 6, 7, 8, 9] rfl)
          clear h; intro J36 hJ36 h
          refine g_icmp_ge (tgt := 137) hx hb h dL_bars_124 (by decide) ?_ ?_
          · clear h; intro h
            refine lv_aload_n hx hb dL_bars_137 rfl (lv_at hl 1 rfl) ?_
            refine lv_iload hx hb dL_bars_138 (lv_at hl 9 rfl) ?_
            refine lv_iconst (v := 1) hx hb dL_bars_140 (by decide) ?_
            refine g_ci hw (g_runV (As := [.int v18, .int (1 : Int32)]) (rest := []) hx hb hml hown hts mX4_week vX4_week kL_35 hw 0 0 (ci_0 (by decide)) (bi_0 (by decide) hn) rfl rfl (c_X4_week hn h) rfl rfl ⟨Nat.le_of_ble_eq_true rfl, Nat.le_of_ble_eq_true rfl⟩ rfl hl.1 rfl (Nat.le_of_ble_eq_true rfl) dL_bars_141 ⟨Nat.zero_le _, Nat.zero_le _⟩) ?_
            clear h hw; intro v87 M86 H locs hw h
            exact hJ36 (v87, M86) h _ _ _ hw (lv_sub hl [1, 2, 3, 4, 5, 6, 7, 8, 9, 0] rfl)
          · clear h; intro h
            refine lv_aload_n hx hb dL_bars_127 rfl (lv_at hl 1 rfl) ?_
            refine lv_iload hx hb dL_bars_128 (lv_at hl 5 rfl) ?_
            refine lv_iconst (v := 1) hx hb dL_bars_130 (by decide) ?_
            refine g_ci hw (g_runV (As := [.int v4, .int (1 : Int32)]) (rest := []) hx hb hml hown hts mX4_entry vX4_entry kL_41 hw 0 0 (ci_0 (by decide)) (bi_0 (by decide) hn) rfl rfl (c_X4_entry hn h) rfl rfl ⟨Nat.le_of_ble_eq_true rfl, Nat.le_of_ble_eq_true rfl⟩ rfl hl.1 rfl (Nat.le_of_ble_eq_true rfl) dL_bars_131 ⟨Nat.zero_le _, Nat.zero_le _⟩) ?_
            clear h hw; intro v89 M88 H locs hw h
            refine lv_goto (tgt := 144) hx hb dL_bars_134 (by decide) ?_
            exact hJ36 (v89, M88) h _ _ _ hw (lv_sub hl [1, 2, 3, 4, 5, 6, 7, 8, 9, 0] rfl)
        clear h; intro J29 hJ29 h
        refine g_icmp_le (tgt := 101) hx hb h dL_bars_88 (by decide) ?_ ?_
        · clear h; intro h
          refine lv_aload_n hx hb dL_bars_101 rfl (lv_at hl 0 rfl) ?_
          refine lv_iload hx hb dL_bars_102 (lv_at hl 8 rfl) ?_
          refine lv_iconst (v := 0) hx hb dL_bars_104 (by decide) ?_
          refine g_ci hw (g_runV (As := [.int v18, .int (0 : Int32)]) (rest := []) hx hb hml hown hts mX4_week vX4_week kL_35 hw 0 0 (ci_0 (by decide)) (bi_0 (by decide) hn) rfl rfl (c_X4_week hn h) rfl rfl ⟨Nat.le_of_ble_eq_true rfl, Nat.le_of_ble_eq_true rfl⟩ rfl hl.1 rfl (Nat.le_of_ble_eq_true rfl) dL_bars_105 ⟨Nat.zero_le _, Nat.zero_le _⟩) ?_
          clear h hw; intro v91 M90 H locs hw h
          exact hJ29 (v91, M90) h _ _ _ hw (lv_sub hl [0, 1, 2, 3, 4, 5, 6, 7, 8] rfl)
        · clear h; intro h
          refine lv_aload_n hx hb dL_bars_91 rfl (lv_at hl 0 rfl) ?_
          refine lv_iload hx hb dL_bars_92 (lv_at hl 4 rfl) ?_
          refine lv_iconst (v := 0) hx hb dL_bars_94 (by decide) ?_
          refine g_ci hw (g_runV (As := [.int v4, .int (0 : Int32)]) (rest := []) hx hb hml hown hts mX4_entry vX4_entry kL_41 hw 0 0 (ci_0 (by decide)) (bi_0 (by decide) hn) rfl rfl (c_X4_entry hn h) rfl rfl ⟨Nat.le_of_ble_eq_true rfl, Nat.le_of_ble_eq_true rfl⟩ rfl hl.1 rfl (Nat.le_of_ble_eq_true rfl) dL_bars_95 ⟨Nat.zero_le _, Nat.zero_le _⟩) ?_
          clear h hw; intro v93 M92 H locs hw h
          refine lv_goto (tgt := 108) hx hb dL_bars_98 (by decide) ?_
          exact hJ29 (v93, M92) h _ _ _ hw (lv_sub hl [0, 1, 2, 3, 4, 5, 6, 7, 8] rfl)
    clear h; intro J15 hJ15 h
    refine letJ_W (fun (x : Mm) => ∀ (H : Heap) (locs : List Loc) (ls : Array Slot), WO o (WA o) s s.heap H locs x → lv_has ls 13 [(0, .ref (o.2.1 0 0)), (1, .int v1), (2, .int v2), (3, .int v3), (4, .int v4), (5, .int (0 : Int32)), (6, .int (0 : Int32))] → W p l e rm_L_bars s m args below meth c H locs 0 0 (MQ below (QZ o Q) args s 0 0 (WA o)) (F0 m 54 ls [])) h ?_ ?_
    · clear h hw hl; clear ls; intro x h H locs ls hw hl
      obtain ⟨M143, rfl⟩ : ∃ z, z = x := ⟨_, rfl⟩
      replace hl : lv_has ls 13 [(0, .ref (o.2.1 0 0)), (1, .int v1), (2, .int v2), (3, .int v3), (4, .int v4), (5, .int (0 : Int32)), (6, .int (0 : Int32))] := hl
      refine lv_iconst (v := 1) hx hb dL_bars_54 (by decide) ?_
      refine lv_goto (tgt := 59) hx hb dL_bars_55 (by decide) ?_
      exact hJ15 ((1 : Int32), M143) h _ _ _ hw (lv_sub hl [0, 1, 2, 3, 4, 5, 6] rfl)
    clear h; intro J142 hJ142 h
    refine g_icmp_gt (tgt := 54) hx hb h dL_bars_39 (by decide) ?_ ?_
    · clear h; intro h
      exact hJ142 M12 h _ _ _ hw (lv_sub hl [2, 3, 4, 5, 6, 1, 0] rfl)
    · clear h; intro h
      refine lv_aload_n hx hb dL_bars_42 rfl (lv_at hl 2 rfl) ?_
      refine lv_iload hx hb dL_bars_43 (lv_at hl 6 rfl) ?_
      refine lv_iconst (v := 2) hx hb dL_bars_45 (by decide) ?_
      refine g_ci hw (g_runV (As := [.int v4, .int (2 : Int32)]) (rest := []) hx hb hml hown hts mX4_entry vX4_entry kL_41 hw 0 0 (ci_0 (by decide)) (bi_0 (by decide) hn) rfl rfl (c_X4_entry hn h) rfl rfl ⟨Nat.le_of_ble_eq_true rfl, Nat.le_of_ble_eq_true rfl⟩ rfl hl.1 rfl (Nat.le_of_ble_eq_true rfl) dL_bars_46 ⟨Nat.zero_le _, Nat.zero_le _⟩) ?_
      clear h hw; intro v145 M144 H locs hw h
      refine lv_bipush (v := (-9)) hx hb dL_bars_49 (by decide) ?_
      refine g_icmp_ne (tgt := 58) hx hb h dL_bars_51 (by decide) ?_ ?_
      · clear h; intro h
        refine lv_iconst (v := 0) hx hb dL_bars_58 (by decide) ?_
        exact hJ15 ((0 : Int32), M144) h _ _ _ hw (lv_sub hl [2, 3, 4, 5, 6, 1, 0] rfl)
      · clear h; intro h
        exact hJ142 M144 h _ _ _ hw (lv_sub hl [2, 3, 4, 5, 6, 1, 0] rfl)
