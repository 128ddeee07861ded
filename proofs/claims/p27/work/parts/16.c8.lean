abbrev rm_L_day : Room := { frames := 5, cells := 0, slots := 0, locals := 110 }
set_option maxHeartbeats 4000000 in
set_option maxRecDepth 100000 in
theorem c_L_day {o : Om} {l : Launch} (hn : 116 ≤ o.2.2.2) {M : Mm} {x1 : Int32} {Q : Int32 → Mm → Prop} (h : w_L_day M x1 Q) : CZ o l yL_day cL_day 11 rm_L_day [.ref (o.2.1 0 0), .int x1, .ref (o.2.1 17 0)] M Q := by
  refine g_start (by decide +kernel) (Nat.le_of_ble_eq_true rfl) ?_
  intro p e s m args below meth c hx hb hr hlocks hml hown hts hw ls hl
  replace hl : lv_has ls 11 [(0, .ref (o.2.1 0 0)), (1, .int x1), (2, .ref (o.2.1 17 0))] := hl
  unfold w_L_day at h
  refine lv_iconst (v := 0) hx hb dL_day_0 (by decide) ?_
  refine lv_istore_n (lv' := [(3, .int (0 : Int32)), (0, .ref (o.2.1 0 0)), (1, .int x1), (2, .ref (o.2.1 17 0))]) hx hb dL_day_1 rfl hl (by decide) rfl ?_
  clear hl; clear ls; intro ls hl
  refine lv_iconst (v := 0) hx hb dL_day_2 (by decide) ?_
  refine lv_istore (lv' := [(4, .int (0 : Int32)), (3, .int (0 : Int32)), (0, .ref (o.2.1 0 0)), (1, .int x1), (2, .ref (o.2.1 17 0))]) hx hb dL_day_3 hl (by decide) rfl ?_
  clear hl; clear ls; intro ls hl
  refine lv_iconst (v := 0) hx hb dL_day_5 (by decide) ?_
  refine lv_istore (lv' := [(5, .int (0 : Int32)), (4, .int (0 : Int32)), (3, .int (0 : Int32)), (0, .ref (o.2.1 0 0)), (1, .int x1), (2, .ref (o.2.1 17 0))]) hx hb dL_day_6 hl (by decide) rfl ?_
  clear hl; clear ls; intro ls hl
  refine lv_iconst (v := 0) hx hb dL_day_8 (by decide) ?_
  refine lv_istore (lv' := [(6, .int (0 : Int32)), (5, .int (0 : Int32)), (4, .int (0 : Int32)), (3, .int (0 : Int32)), (0, .ref (o.2.1 0 0)), (1, .int x1), (2, .ref (o.2.1 17 0))]) hx hb dL_day_9 hl (by decide) rfl ?_
  clear hl; clear ls; intro ls hl
  obtain ⟨n, h⟩ := h
  refine letK_W (body := fun K => w_L_day_L11 x1 Q K) (fun (x : Int32 × Int32 × Int32 × Int32 × Mm) => ∀ (H : Heap) (locs : List Loc) (ls : Array Slot), WO o (WA o) s s.heap H locs x.2.2.2.2 → lv_has ls 11 [(0, .ref (o.2.1 0 0)), (1, .int x1), (2, .ref (o.2.1 17 0)), (3, .int x.1), (4, .int x.2.1), (5, .int x.2.2.1)] → W p l e rm_L_day s m args below meth c H locs 0 0 (MQ below (QZ o Q) args s 0 0 (WA o)) (F0 m 137 ls [])) h ?_ ?_
  · clear h hw hl; clear ls; intro x h H locs ls hw hl
    obtain ⟨v41, v42, v43, v44, M45⟩ := x
    replace hl : lv_has ls 11 [(0, .ref (o.2.1 0 0)), (1, .int x1), (2, .ref (o.2.1 17 0)), (3, .int v41), (4, .int v42), (5, .int v43)] := hl
    dsimp only at h hw
    refine lv_iconst (v := 0) hx hb dL_day_137 (by decide) ?_
    refine lv_istore (lv' := [(6, .int (0 : Int32)), (0, .ref (o.2.1 0 0)), (1, .int x1), (2, .ref (o.2.1 17 0)), (3, .int v41), (4, .int v42), (5, .int v43)]) hx hb dL_day_138 hl (by decide) rfl ?_
    clear hl; clear ls; intro ls hl
    refine lv_iconst (v := 0) hx hb dL_day_140 (by decide) ?_
    refine lv_istore (lv' := [(7, .int (0 : Int32)), (6, .int (0 : Int32)), (0, .ref (o.2.1 0 0)), (1, .int x1), (2, .ref (o.2.1 17 0)), (3, .int v41), (4, .int v42), (5, .int v43)]) hx hb dL_day_141 hl (by decide) rfl ?_
    clear hl; clear ls; intro ls hl
    refine lv_iconst (v := 0) hx hb dL_day_143 (by decide) ?_
    refine lv_istore (lv' := [(8, .int (0 : Int32)), (7, .int (0 : Int32)), (6, .int (0 : Int32)), (0, .ref (o.2.1 0 0)), (1, .int x1), (2, .ref (o.2.1 17 0)), (3, .int v41), (4, .int v42), (5, .int v43)]) hx hb dL_day_144 hl (by decide) rfl ?_
    clear hl; clear ls; intro ls hl
    obtain ⟨n, h⟩ := h
    refine letK_W (body := fun K => w_L_day_L146 x1 v41 v42 v43 Q K) (fun (x : Int32 × Int32 × Int32 × Mm) => ∀ (H : Heap) (locs : List Loc) (ls : Array Slot), WO o (WA o) s s.heap H locs x.2.2.2 → lv_has ls 11 [(0, .ref (o.2.1 0 0)), (1, .int x1), (3, .int v41), (4, .int v42), (5, .int v43), (6, .int x.1), (7, .int x.2.1)] → W p l e rm_L_day s m args below meth c H locs 0 0 (MQ below (QZ o Q) args s 0 0 (WA o)) (F0 m 284 ls [])) h ?_ ?_
    · clear h hw hl; clear ls; intro x h H locs ls hw hl
      obtain ⟨v86, v87, v88, M89⟩ := x
      replace hl : lv_has ls 11 [(0, .ref (o.2.1 0 0)), (1, .int x1), (3, .int v41), (4, .int v42), (5, .int v43), (6, .int v86), (7, .int v87)] := hl
      dsimp only at h hw
      refine lv_iconst (v := 0) hx hb dL_day_284 (by decide) ?_
      refine lv_istore (lv' := [(8, .int (0 : Int32)), (0, .ref (o.2.1 0 0)), (1, .int x1), (3, .int v41), (4, .int v42), (5, .int v43), (6, .int v86), (7, .int v87)]) hx hb dL_day_285 hl (by decide) rfl ?_
      clear hl; clear ls; intro ls hl
      refine lv_iconst (v := 0) hx hb dL_day_287 (by decide) ?_
      refine lv_istore (lv' := [(9, .int (0 : Int32)), (8, .int (0 : Int32)), (0, .ref (o.2.1 0 0)), (1, .int x1), (3, .int v41), (4, .int v42), (5, .int v43), (6, .int v86), (7, .int v87)]) hx hb dL_day_288 hl (by decide) rfl ?_
      clear hl; clear ls; intro ls hl
      obtain ⟨n, h⟩ := h
      refine letK_W (body := fun K => w_L_day_L290 x1 v41 v42 v43 v86 v87 Q K) (fun (x : Int32 × Int32 × Mm) => ∀ (H : Heap) (locs : List Loc) (ls : Array Slot), WO o (WA o) s s.heap H locs x.2.2 → lv_has ls 11 [(0, .ref (o.2.1 0 0)), (1, .int x1), (3, .int v41), (4, .int v42), (5, .int v43), (6, .int v86), (7, .int v87), (8, .int x.1)] → W p l e rm_L_day s m args below meth c H locs 0 0 (MQ below (QZ o Q) args s 0 0 (WA o)) (F0 m 347 ls [])) h ?_ ?_
      · clear h hw hl; clear ls; intro x h H locs ls hw hl
        obtain ⟨v106, v107, M108⟩ := x
        replace hl : lv_has ls 11 [(0, .ref (o.2.1 0 0)), (1, .int x1), (3, .int v41), (4, .int v42), (5, .int v43), (6, .int v86), (7, .int v87), (8, .int v106)] := hl
        dsimp only at h hw
        refine lv_iload hx hb dL_day_347 (lv_at hl 5 rfl) ?_
        refine letJ_W (fun (x : Int32 × Mm) => ∀ (H : Heap) (locs : List Loc) (ls : Array Slot), WO o (WA o) s s.heap H locs x.2 → lv_has ls 11 [(0, .ref (o.2.1 0 0)), (1, .int x1), (3, .int v41), (4, .int v42), (5, .int v43), (6, .int v86), (7, .int v87), (8, .int v106)] → W p l e rm_L_day s m args below meth c H locs 0 0 (MQ below (QZ o Q) args s 0 0 (WA o)) (F0 m 377 ls [.int x.1])) h ?_ ?_
        · clear h hw hl; clear ls; intro x h H locs ls hw hl
          obtain ⟨v109, M111⟩ := x
          replace hl : lv_has ls 11 [(0, .ref (o.2.1 0 0)), (1, .int x1), (3, .int v41), (4, .int v42), (5, .int v43), (6, .int v86), (7, .int v87), (8, .int v106)] := hl
          dsimp only at h
          dsimp only at hw
          refine lv_istore (lv' := [(9, .int v109), (0, .ref (o.2.1 0 0)), (1, .int x1), (3, .int v41), (4, .int v42), (5, .int v43), (6, .int v86), (7, .int v87), (8, .int v106)]) hx hb dL_day_377 hl (by decide) rfl ?_
          clear hl; clear ls; intro ls hl
          refine lv_iload hx hb dL_day_379 (lv_at hl 0 rfl) ?_
          refine g_if_eq (tgt := 451) hx hb h dL_day_381 (by decide) ?_ ?_
          · clear h; intro h
            refine lv_iconst (v := 0) hx hb dL_day_451 (by decide) ?_
            exact g_zret hx hb hr hlocks hw (Or.inl rfl) h dL_day_452
          · clear h; intro h
            refine lv_iload hx hb dL_day_384 (lv_at hl 8 rfl) ?_
            refine lv_iload hx hb dL_day_386 (lv_at hl 7 rfl) ?_
            refine g_icmp_ne (tgt := 451) hx hb h dL_day_388 (by decide) ?_ ?_
            · clear h; intro h
              refine lv_iconst (v := 0) hx hb dL_day_451 (by decide) ?_
              exact g_zret hx hb hr hlocks hw (Or.inl rfl) h dL_day_452
            · clear h; intro h
              refine lv_iload hx hb dL_day_391 (lv_at hl 7 rfl) ?_
              refine lv_iload hx hb dL_day_393 (lv_at hl 6 rfl) ?_
              refine lv_iadd hx hb dL_day_395 ?_
              refine lv_iload hx hb dL_day_396 (lv_at hl 4 rfl) ?_
              refine lv_iload hx hb dL_day_398 (lv_at hl 5 rfl) ?_
              refine lv_iadd hx hb dL_day_400 ?_
              refine g_icmp_ne (tgt := 451) hx hb h dL_day_401 (by decide) ?_ ?_
              · clear h; intro h
                refine lv_iconst (v := 0) hx hb dL_day_451 (by decide) ?_
                exact g_zret hx hb hr hlocks hw (Or.inl rfl) h dL_day_452
              · clear h; intro h
                refine lv_aload_n hx hb dL_day_404 rfl (lv_at hl 1 rfl) ?_
                refine lv_iload_n hx hb dL_day_405 rfl (lv_at hl 2 rfl) ?_
                refine lv_iconst (v := 2) hx hb dL_day_406 (by decide) ?_
                refine g_ci hw (g_runV (As := [.int x1, .int (2 : Int32)]) (rest := []) hx hb hml hown hts mX4_day vX4_day kL_38 hw 0 0 (ci_0 (by decide)) (bi_0 (by decide) (Nat.le_trans (by decide) hn)) rfl rfl (c_X4_day (Nat.le_trans (by decide) hn) h) rfl rfl ⟨Nat.le_of_ble_eq_true rfl, Nat.le_of_ble_eq_true rfl⟩ rfl hl.1 rfl (Nat.le_of_ble_eq_true rfl) dL_day_407 ⟨Nat.zero_le _, Nat.zero_le _⟩) ?_
                clear h hw; intro v113 M112 H locs hw h
                refine lv_iload hx hb dL_day_410 (lv_at hl 4 rfl) ?_
                refine g_icmp_ne (tgt := 451) hx hb h dL_day_412 (by decide) ?_ ?_
                · clear h; intro h
                  refine lv_iconst (v := 0) hx hb dL_day_451 (by decide) ?_
                  exact g_zret hx hb hr hlocks hw (Or.inl rfl) h dL_day_452
                · clear h; intro h
                  refine lv_aload_n hx hb dL_day_415 rfl (lv_at hl 1 rfl) ?_
                  refine lv_iload_n hx hb dL_day_416 rfl (lv_at hl 2 rfl) ?_
                  refine lv_iconst (v := 3) hx hb dL_day_417 (by decide) ?_
                  refine g_ci hw (g_runV (As := [.int x1, .int (3 : Int32)]) (rest := []) hx hb hml hown hts mX4_day vX4_day kL_38 hw 0 0 (ci_0 (by decide)) (bi_0 (by decide) (Nat.le_trans (by decide) hn)) rfl rfl (c_X4_day (Nat.le_trans (by decide) hn) h) rfl rfl ⟨Nat.le_of_ble_eq_true rfl, Nat.le_of_ble_eq_true rfl⟩ rfl hl.1 rfl (Nat.le_of_ble_eq_true rfl) dL_day_418 ⟨Nat.zero_le _, Nat.zero_le _⟩) ?_
                  clear h hw; intro v115 M114 H locs hw h
                  refine lv_iload hx hb dL_day_421 (lv_at hl 5 rfl) ?_
                  refine g_icmp_ne (tgt := 451) hx hb h dL_day_423 (by decide) ?_ ?_
                  · clear h; intro h
                    refine lv_iconst (v := 0) hx hb dL_day_451 (by decide) ?_
                    exact g_zret hx hb hr hlocks hw (Or.inl rfl) h dL_day_452
                  · clear h; intro h
                    refine lv_aload_n hx hb dL_day_426 rfl (lv_at hl 1 rfl) ?_
                    refine lv_iload_n hx hb dL_day_427 rfl (lv_at hl 2 rfl) ?_
                    refine lv_iconst (v := 4) hx hb dL_day_428 (by decide) ?_
                    refine g_ci hw (g_runV (As := [.int x1, .int (4 : Int32)]) (rest := []) hx hb hml hown hts mX4_day vX4_day kL_38 hw 0 0 (ci_0 (by decide)) (bi_0 (by decide) (Nat.le_trans (by decide) hn)) rfl rfl (c_X4_day (Nat.le_trans (by decide) hn) h) rfl rfl ⟨Nat.le_of_ble_eq_true rfl, Nat.le_of_ble_eq_true rfl⟩ rfl hl.1 rfl (Nat.le_of_ble_eq_true rfl) dL_day_429 ⟨Nat.zero_le _, Nat.zero_le _⟩) ?_
                    clear h hw; intro v117 M116 H locs hw h
                    refine lv_iload hx hb dL_day_432 (lv_at hl 6 rfl) ?_
                    refine g_icmp_ne (tgt := 451) hx hb h dL_day_434 (by decide) ?_ ?_
                    · clear h; intro h
                      refine lv_iconst (v := 0) hx hb dL_day_451 (by decide) ?_
                      exact g_zret hx hb hr hlocks hw (Or.inl rfl) h dL_day_452
                    · clear h; intro h
                      refine lv_aload_n hx hb dL_day_437 rfl (lv_at hl 1 rfl) ?_
                      refine lv_iload_n hx hb dL_day_438 rfl (lv_at hl 2 rfl) ?_
                      refine lv_iconst (v := 5) hx hb dL_day_439 (by decide) ?_
                      refine g_ci hw (g_runV (As := [.int x1, .int (5 : Int32)]) (rest := []) hx hb hml hown hts mX4_day vX4_day kL_38 hw 0 0 (ci_0 (by decide)) (bi_0 (by decide) (Nat.le_trans (by decide) hn)) rfl rfl (c_X4_day (Nat.le_trans (by decide) hn) h) rfl rfl ⟨Nat.le_of_ble_eq_true rfl, Nat.le_of_ble_eq_true rfl⟩ rfl hl.1 rfl (Nat.le_of_ble_eq_true rfl) dL_day_440 ⟨Nat.zero_le _, Nat.zero_le _⟩) ?_
                      clear h hw; intro v119 M118 H locs hw h
                      refine lv_iload_n hx hb dL_day_443 rfl (lv_at hl 3 rfl) ?_
                      refine g_icmp_ne (tgt := 451) hx hb h dL_day_444 (by decide) ?_ ?_
                      · clear h; intro h
                        refine lv_iconst (v := 0) hx hb dL_day_451 (by decide) ?_
                        exact g_zret hx hb hr hlocks hw (Or.inl rfl) h dL_day_452
                      · clear h; intro h
                        refine lv_iconst (v := 1) hx hb dL_day_447 (by decide) ?_
                        refine lv_goto (tgt := 452) hx hb dL_day_448 (by decide) ?_
                        exact g_zret hx hb hr hlocks hw (Or.inr rfl) h dL_day_452
        clear h; intro J110 hJ110 h
        refine letJ_W (fun (x : Mm) => ∀ (H : Heap) (locs : List Loc) (ls : Array Slot), WO o (WA o) s s.heap H locs x → lv_has ls 11 [(0, .ref (o.2.1 0 0)), (1, .int x1), (3, .int v41), (4, .int v42), (5, .int v43), (6, .int v86), (7, .int v87), (8, .int v106)] → W p l e rm_L_day s m args below meth c H locs 0 0 (MQ below (QZ o Q) args s 0 0 (WA o)) (F0 m 372 ls [])) h ?_ ?_
        · clear h hw hl; clear ls; intro x h H locs ls hw hl
          obtain ⟨M121, rfl⟩ : ∃ z, z = x := ⟨_, rfl⟩
          replace hl : lv_has ls 11 [(0, .ref (o.2.1 0 0)), (1, .int x1), (3, .int v41), (4, .int v42), (5, .int v43), (6, .int v86), (7, .int v87), (8, .int v106)] := hl
          refine lv_iconst (v := 1) hx hb dL_day_372 (by decide) ?_
          refine lv_goto (tgt := 377) hx hb dL_day_373 (by decide) ?_
          exact hJ110 ((1 : Int32), M121) h _ _ _ hw (lv_sub hl [0, 1, 2, 3, 4, 5, 6, 7] rfl)
        clear h; intro J120 hJ120 h
        refine g_if_eq (tgt := 372) hx hb h dL_day_349 (by decide) ?_ ?_
        · clear h; intro h
          exact hJ120 M108 h _ _ _ hw (lv_sub hl [0, 1, 2, 3, 4, 5, 6, 7] rfl)
        · clear h; intro h
          refine lv_aload_n hx hb dL_day_352 rfl (lv_at hl 0 rfl) ?_
          refine lv_iload_n hx hb dL_day_353 rfl (lv_at hl 1 rfl) ?_
          refine lv_aload_n hx hb dL_day_354 rfl (lv_at hl 0 rfl) ?_
          refine lv_iconst (v := 3) hx hb dL_day_355 (by decide) ?_
          refine g_ci hw (g_runV (As := [.int (3 : Int32)]) (rest := [.int x1, .ref (o.2.1 0 0)]) hx hb hml hown hts mX4_told vX4_told kL_32 hw 0 0 (ci_0 (by decide)) (bi_0 (by decide) (Nat.le_trans (by decide) hn)) rfl rfl (c_X4_told (Nat.le_trans (by decide) hn) h) rfl rfl ⟨Nat.le_of_ble_eq_true rfl, Nat.le_of_ble_eq_true rfl⟩ rfl hl.1 rfl (Nat.le_of_ble_eq_true rfl) dL_day_356 ⟨Nat.zero_le _, Nat.zero_le _⟩) ?_
          clear h hw; intro v123 M122 H locs hw h
          refine lv_iconst (v := 1) hx hb dL_day_359 (by decide) ?_
          refine lv_isub hx hb dL_day_360 ?_
          refine g_ci hw (g_runV (As := [.int x1, .int (v123 - (1 : Int32))]) (rest := []) hx hb hml hown hts mX4_shown vX4_shown kL_51 hw 0 0 (ci_0 (by decide)) (bi_0 (by decide) (Nat.le_trans (by decide) hn)) rfl rfl (c_X4_shown (Nat.le_trans (by decide) hn) h) rfl rfl ⟨Nat.le_of_ble_eq_true rfl, Nat.le_of_ble_eq_true rfl⟩ rfl hl.1 rfl (Nat.le_of_ble_eq_true rfl) dL_day_361 ⟨Nat.zero_le _, Nat.zero_le _⟩) ?_
          clear h hw; intro v125 M124 H locs hw h
          refine lv_bipush (v := (-10)) hx hb dL_day_364 (by decide) ?_
          refine lv_iload hx hb dL_day_366 (lv_at hl 5 rfl) ?_
          refine lv_isub hx hb dL_day_368 ?_
          refine g_icmp_ne (tgt := 376) hx hb h dL_day_369 (by decide) ?_ ?_
          · clear h; intro h
            refine lv_iconst (v := 0) hx hb dL_day_376 (by decide) ?_
            exact hJ110 ((0 : Int32), M124) h _ _ _ hw (lv_sub hl [0, 1, 2, 3, 4, 5, 6, 7] rfl)
          · clear h; intro h
            exact hJ120 M124 h _ _ _ hw (lv_sub hl [0, 1, 2, 3, 4, 5, 6, 7] rfl)
      clear h; intro K93 hK93 h
      refine loop_W (body := w_L_day_L290 x1 v41 v42 v43 v86 v87 Q K93) (fun (x : Int32 × Int32 × Mm) => ∀ (H : Heap) (locs : List Loc) (ls : Array Slot), WO o (WA o) s s.heap H locs x.2.2 → lv_has ls 11 [(0, .ref (o.2.1 0 0)), (1, .int x1), (3, .int v41), (4, .int v42), (5, .int v43), (6, .int v86), (7, .int v87), (8, .int x.1), (9, .int x.2.1)] → W p l e rm_L_day s m args below meth c H locs 0 0 (MQ below (QZ o Q) args s 0 0 (WA o)) (F0 m 290 ls [])) ?_ n _ h _ _ _ hw (lv_sub hl [2, 3, 4, 5, 6, 7, 8, 1, 0] rfl)
      clear h hw hl; clear ls; intro R94 x hR94 h H locs ls hw hl
      obtain ⟨v90, v91, M92⟩ := x
      replace hl : lv_has ls 11 [(0, .ref (o.2.1 0 0)), (1, .int x1), (3, .int v41), (4, .int v42), (5, .int v43), (6, .int v86), (7, .int v87), (8, .int v90), (9, .int v91)] := hl
      dsimp only at hw
      unfold w_L_day_L290 at h
      dsimp only at h
      refine lv_iload hx hb dL_day_290 (lv_at hl 8 rfl) ?_
      refine lv_bipush (v := 12) hx hb dL_day_292 (by decide) ?_
      refine g_icmp_ge (tgt := 347) hx hb h dL_day_294 (by decide) ?_ ?_
      · clear h; intro h
        exact hK93 (v90, v91, M92) h _ _ _ hw (lv_sub hl [0, 1, 2, 3, 4, 5, 6, 7] rfl)
      · clear h; intro h
        refine lv_iload hx hb dL_day_297 (lv_at hl 7 rfl) ?_
        refine lv_aload_n hx hb dL_day_299 rfl (lv_at hl 0 rfl) ?_
        refine lv_iload_n hx hb dL_day_300 rfl (lv_at hl 1 rfl) ?_
        refine lv_iload hx hb dL_day_301 (lv_at hl 8 rfl) ?_
        refine g_ci hw (g_runV (As := [.int x1, .int v91]) (rest := [.int v90]) hx hb hml hown hts mX4_shown vX4_shown kL_51 hw 0 0 (ci_0 (by decide)) (bi_0 (by decide) (Nat.le_trans (by decide) hn)) rfl rfl (c_X4_shown (Nat.le_trans (by decide) hn) h) rfl rfl ⟨Nat.le_of_ble_eq_true rfl, Nat.le_of_ble_eq_true rfl⟩ rfl hl.1 rfl (Nat.le_of_ble_eq_true rfl) dL_day_303 ⟨Nat.zero_le _, Nat.zero_le _⟩) ?_
        clear h hw; intro v96 M95 H locs hw h
        refine letJ_W (fun (x : Int32) => ∀ (H : Heap) (locs : List Loc) (ls : Array Slot), WO o (WA o) s s.heap H locs M95 → lv_has ls 11 [(0, .ref (o.2.1 0 0)), (1, .int x1), (3, .int v41), (4, .int v42), (5, .int v43), (6, .int v86), (7, .int v87), (9, .int v91)] → W p l e rm_L_day s m args below meth c H locs 0 0 (MQ below (QZ o Q) args s 0 0 (WA o)) (F0 m 314 ls [.int x, .int v90])) h ?_ ?_
        · clear h hw hl; clear ls; intro x h H locs ls hw hl
          obtain ⟨v97, rfl⟩ : ∃ z, z = x := ⟨_, rfl⟩
          replace hl : lv_has ls 11 [(0, .ref (o.2.1 0 0)), (1, .int x1), (3, .int v41), (4, .int v42), (5, .int v43), (6, .int v86), (7, .int v87), (9, .int v91)] := hl
          refine lv_iadd hx hb dL_day_314 ?_
          refine g_topi h ?_
          clear h; intro v99 h
          refine lv_istore (lv' := [(8, .int v99), (0, .ref (o.2.1 0 0)), (1, .int x1), (3, .int v41), (4, .int v42), (5, .int v43), (6, .int v86), (7, .int v87), (9, .int v91)]) hx hb dL_day_315 hl (by decide) rfl ?_
          clear hl; clear ls; intro ls hl
          refine lv_iload hx hb dL_day_317 (lv_at hl 8 rfl) ?_
          refine lv_aload_n hx hb dL_day_319 rfl (lv_at hl 1 rfl) ?_
          refine lv_iconst (v := 3) hx hb dL_day_320 (by decide) ?_
          refine g_ci hw (g_runV (As := [.int (3 : Int32)]) (rest := [.int v91]) hx hb hml hown hts mX4_told vX4_told kL_32 hw 0 0 (ci_0 (by decide)) (bi_0 (by decide) (Nat.le_trans (by decide) hn)) rfl rfl (c_X4_told (Nat.le_trans (by decide) hn) h) rfl rfl ⟨Nat.le_of_ble_eq_true rfl, Nat.le_of_ble_eq_true rfl⟩ rfl hl.1 rfl (Nat.le_of_ble_eq_true rfl) dL_day_321 ⟨Nat.zero_le _, Nat.zero_le _⟩) ?_
          clear h hw; intro v101 M100 H locs hw h
          refine g_icmp_lt (tgt := 341) hx hb h dL_day_324 (by decide) ?_ ?_
          · clear h; intro h
            refine g_iinc (k := 8) (v := (v91 + (1 : Int32))) (lv' := fun v102 => [(9, .int v102), (8, .int v99), (0, .ref (o.2.1 0 0)), (1, .int x1), (3, .int v41), (4, .int v42), (5, .int v43), (6, .int v86), (7, .int v87)]) hx hb dL_day_341 hl rfl rfl (by decide) (fun _ => rfl) h ?_
            clear h hl; clear ls; intro v102 ls h hl
            refine lv_goto (tgt := 290) hx hb dL_day_344 (by decide) ?_
            exact hR94 (v99, v102, M100) h _ _ _ hw (lv_sub hl [2, 3, 4, 5, 6, 7, 8, 1, 0] rfl)
          · clear h; intro h
            refine lv_aload_n hx hb dL_day_327 rfl (lv_at hl 1 rfl) ?_
            refine lv_iload_n hx hb dL_day_328 rfl (lv_at hl 2 rfl) ?_
            refine lv_iload hx hb dL_day_329 (lv_at hl 8 rfl) ?_
            refine g_ci hw (g_runV (As := [.int x1, .int v91]) (rest := []) hx hb hml hown hts mX4_shown vX4_shown kL_51 hw 0 0 (ci_0 (by decide)) (bi_0 (by decide) (Nat.le_trans (by decide) hn)) rfl rfl (c_X4_shown (Nat.le_trans (by decide) hn) h) rfl rfl ⟨Nat.le_of_ble_eq_true rfl, Nat.le_of_ble_eq_true rfl⟩ rfl hl.1 rfl (Nat.le_of_ble_eq_true rfl) dL_day_331 ⟨Nat.zero_le _, Nat.zero_le _⟩) ?_
            clear h hw; intro v104 M103 H locs hw h
            refine lv_bipush (v := (-9)) hx hb dL_day_334 (by decide) ?_
            refine g_icmp_eq (tgt := 341) hx hb h dL_day_336 (by decide) ?_ ?_
            · clear h; intro h
              refine g_iinc (k := 8) (v := (v91 + (1 : Int32))) (lv' := fun v105 => [(9, .int v105), (8, .int v99), (0, .ref (o.2.1 0 0)), (1, .int x1), (3, .int v41), (4, .int v42), (5, .int v43), (6, .int v86), (7, .int v87)]) hx hb dL_day_341 hl rfl rfl (by decide) (fun _ => rfl) h ?_
              clear h hl; clear ls; intro v105 ls h hl
              refine lv_goto (tgt := 290) hx hb dL_day_344 (by decide) ?_
              exact hR94 (v99, v105, M103) h _ _ _ hw (lv_sub hl [2, 3, 4, 5, 6, 7, 8, 1, 0] rfl)
            · clear h; intro h
              refine lv_iconst (v := 0) hx hb dL_day_339 (by decide) ?_
              exact g_zret hx hb hr hlocks hw (Or.inl rfl) h dL_day_340
        clear h; intro J98 hJ98 h
        refine g_if_lt (tgt := 313) hx hb h dL_day_306 (by decide) ?_ ?_
        · clear h; intro h
          refine lv_iconst (v := 0) hx hb dL_day_313 (by decide) ?_
          exact hJ98 (0 : Int32) h _ _ _ hw (lv_sub hl [0, 1, 2, 3, 4, 5, 6, 8] rfl)
        · clear h; intro h
          refine lv_iconst (v := 1) hx hb dL_day_309 (by decide) ?_
          refine lv_goto (tgt := 314) hx hb dL_day_310 (by decide) ?_
          exact hJ98 (1 : Int32) h _ _ _ hw (lv_sub hl [0, 1, 2, 3, 4, 5, 6, 8] rfl)
    clear h; intro K50 hK50 h
    refine loop_W (body := w_L_day_L146 x1 v41 v42 v43 Q K50) (fun (x : Int32 × Int32 × Int32 × Mm) => ∀ (H : Heap) (locs : List Loc) (ls : Array Slot), WO o (WA o) s s.heap H locs x.2.2.2 → lv_has ls 11 [(0, .ref (o.2.1 0 0)), (1, .int x1), (2, .ref (o.2.1 17 0)), (3, .int v41), (4, .int v42), (5, .int v43), (6, .int x.1), (7, .int x.2.1), (8, .int x.2.2.1)] → W p l e rm_L_day s m args below meth c H locs 0 0 (MQ below (QZ o Q) args s 0 0 (WA o)) (F0 m 146 ls [])) ?_ n _ h _ _ _ hw (lv_sub hl [3, 4, 5, 6, 7, 8, 2, 1, 0] rfl)
    clear h hw hl; clear ls; intro R51 x hR51 h H locs ls hw hl
    obtain ⟨v46, v47, v48, M49⟩ := x
    replace hl : lv_has ls 11 [(0, .ref (o.2.1 0 0)), (1, .int x1), (2, .ref (o.2.1 17 0)), (3, .int v41), (4, .int v42), (5, .int v43), (6, .int v46), (7, .int v47), (8, .int v48)] := hl
    dsimp only at hw
    unfold w_L_day_L146 at h
    dsimp only at h
    refine lv_iload hx hb dL_day_146 (lv_at hl 8 rfl) ?_
    refine lv_aload_n hx hb dL_day_148 rfl (lv_at hl 0 rfl) ?_
    refine lv_iconst (v := 5) hx hb dL_day_149 (by decide) ?_
    refine g_ci hw (g_runV (As := [.int (5 : Int32)]) (rest := [.int v48]) hx hb hml hown hts mX4_told vX4_told kL_32 hw 0 0 (ci_0 (by decide)) (bi_0 (by decide) (Nat.le_trans (by decide) hn)) rfl rfl (c_X4_told (Nat.le_trans (by decide) hn) h) rfl rfl ⟨Nat.le_of_ble_eq_true rfl, Nat.le_of_ble_eq_true rfl⟩ rfl hl.1 rfl (Nat.le_of_ble_eq_true rfl) dL_day_150 ⟨Nat.zero_le _, Nat.zero_le _⟩) ?_
    clear h hw; intro v53 M52 H locs hw h
    refine g_icmp_ge (tgt := 284) hx hb h dL_day_153 (by decide) ?_ ?_
    · clear h; intro h
      exact hK50 (v46, v47, v48, M52) h _ _ _ hw (lv_sub hl [0, 1, 3, 4, 5, 6, 7] rfl)
    · clear h; intro h
      refine lv_aload_n hx hb dL_day_156 rfl (lv_at hl 0 rfl) ?_
      refine lv_iload hx hb dL_day_157 (lv_at hl 8 rfl) ?_
      refine lv_iload_n hx hb dL_day_159 rfl (lv_at hl 1 rfl) ?_
      refine g_ci hw (g_runV (As := [.int v48, .int x1]) (rest := []) hx hb hml hown hts mX4_rowOf vX4_rowOf kL_48 hw 0 0 (ci_0 (by decide)) (bi_0 (by decide) (Nat.le_trans (by decide) hn)) rfl rfl (c_X4_rowOf (Nat.le_trans (by decide) hn) h) rfl rfl ⟨Nat.le_of_ble_eq_true rfl, Nat.le_of_ble_eq_true rfl⟩ rfl hl.1 rfl (Nat.le_of_ble_eq_true rfl) dL_day_160 ⟨Nat.zero_le _, Nat.zero_le _⟩) ?_
      clear h hw; intro v55 M54 H locs hw h
      refine lv_istore (lv' := [(9, .int v55), (0, .ref (o.2.1 0 0)), (1, .int x1), (2, .ref (o.2.1 17 0)), (3, .int v41), (4, .int v42), (5, .int v43), (6, .int v46), (7, .int v47), (8, .int v48)]) hx hb dL_day_163 hl (by decide) rfl ?_
      clear hl; clear ls; intro ls hl
      refine lv_iconst (v := 1) hx hb dL_day_165 (by decide) ?_
      refine lv_istore (lv' := [(10, .int (1 : Int32)), (9, .int v55), (0, .ref (o.2.1 0 0)), (1, .int x1), (2, .ref (o.2.1 17 0)), (3, .int v41), (4, .int v42), (5, .int v43), (6, .int v46), (7, .int v47), (8, .int v48)]) hx hb dL_day_166 hl (by decide) rfl ?_
      clear hl; clear ls; intro ls hl
      obtain ⟨n, h⟩ := h
      refine letK_W (body := fun K => w_L_day_L168 x1 v41 v42 v43 v46 v47 v48 v55 K) (fun (x : Int32 × Mm) => ∀ (H : Heap) (locs : List Loc) (ls : Array Slot), WO o (WA o) s s.heap H locs x.2 → lv_has ls 11 [(0, .ref (o.2.1 0 0)), (1, .int x1), (2, .ref (o.2.1 17 0)), (3, .int v41), (4, .int v42), (5, .int v43), (6, .int v46), (7, .int v47), (8, .int v48), (9, .int v55)] → W p l e rm_L_day s m args below meth c H locs 0 0 (MQ below (QZ o Q) args s 0 0 (WA o)) (F0 m 208 ls [])) h ?_ ?_
      · clear h hw hl; clear ls; intro x h H locs ls hw hl
        obtain ⟨v66, M67⟩ := x
        replace hl : lv_has ls 11 [(0, .ref (o.2.1 0 0)), (1, .int x1), (2, .ref (o.2.1 17 0)), (3, .int v41), (4, .int v42), (5, .int v43), (6, .int v46), (7, .int v47), (8, .int v48), (9, .int v55)] := hl
        dsimp only at h hw
        refine lv_iload hx hb dL_day_208 (lv_at hl 9 rfl) ?_
        refine lv_aload_n hx hb dL_day_210 rfl (lv_at hl 0 rfl) ?_
        refine lv_iconst (v := 3) hx hb dL_day_211 (by decide) ?_
        refine g_ci hw (g_runV (As := [.int (3 : Int32)]) (rest := [.int v55]) hx hb hml hown hts mX4_told vX4_told kL_32 hw 0 0 (ci_0 (by decide)) (bi_0 (by decide) (Nat.le_trans (by decide) hn)) rfl rfl (c_X4_told (Nat.le_trans (by decide) hn) h) rfl rfl ⟨Nat.le_of_ble_eq_true rfl, Nat.le_of_ble_eq_true rfl⟩ rfl hl.1 rfl (Nat.le_of_ble_eq_true rfl) dL_day_212 ⟨Nat.zero_le _, Nat.zero_le _⟩) ?_
        clear h hw; intro v69 M68 H locs hw h
        refine lv_iconst (v := 1) hx hb dL_day_215 (by decide) ?_
        refine lv_isub hx hb dL_day_216 ?_
        refine letJ_W (fun (x : Int32 × Mm) => ∀ (H : Heap) (locs : List Loc) (ls : Array Slot), WO o (WA o) s s.heap H locs x.2 → lv_has ls 11 [(0, .ref (o.2.1 0 0)), (1, .int x1), (2, .ref (o.2.1 17 0)), (3, .int v41), (4, .int v42), (5, .int v43), (6, .int v46), (7, .int v47), (8, .int v48), (9, .int v55)] → W p l e rm_L_day s m args below meth c H locs 0 0 (MQ below (QZ o Q) args s 0 0 (WA o)) (F0 m 234 ls [.int x.1])) h ?_ ?_
        · clear h hw hl; clear ls; intro x h H locs ls hw hl
          obtain ⟨v70, M72⟩ := x
          replace hl : lv_has ls 11 [(0, .ref (o.2.1 0 0)), (1, .int x1), (2, .ref (o.2.1 17 0)), (3, .int v41), (4, .int v42), (5, .int v43), (6, .int v46), (7, .int v47), (8, .int v48), (9, .int v55)] := hl
          dsimp only at h
          dsimp only at hw
          refine lv_istore (lv' := [(10, .int v70), (0, .ref (o.2.1 0 0)), (1, .int x1), (2, .ref (o.2.1 17 0)), (3, .int v41), (4, .int v42), (5, .int v43), (6, .int v46), (7, .int v47), (8, .int v48), (9, .int v55)]) hx hb dL_day_234 hl (by decide) rfl ?_
          clear hl; clear ls; intro ls hl
          refine lv_iload hx hb dL_day_236 (lv_at hl 7 rfl) ?_
          refine lv_iload hx hb dL_day_238 (lv_at hl 0 rfl) ?_
          refine letJ_W (fun (x : Int32) => ∀ (H : Heap) (locs : List Loc) (ls : Array Slot), WO o (WA o) s s.heap H locs M72 → lv_has ls 11 [(0, .ref (o.2.1 0 0)), (1, .int x1), (2, .ref (o.2.1 17 0)), (3, .int v41), (4, .int v42), (5, .int v43), (7, .int v47), (8, .int v48), (9, .int v55), (10, .int v70)] → W p l e rm_L_day s m args below meth c H locs 0 0 (MQ below (QZ o Q) args s 0 0 (WA o)) (F0 m 248 ls [.int x, .int v46])) h ?_ ?_
          · clear h hw hl; clear ls; intro x h H locs ls hw hl
            obtain ⟨v73, rfl⟩ : ∃ z, z = x := ⟨_, rfl⟩
            replace hl : lv_has ls 11 [(0, .ref (o.2.1 0 0)), (1, .int x1), (2, .ref (o.2.1 17 0)), (3, .int v41), (4, .int v42), (5, .int v43), (7, .int v47), (8, .int v48), (9, .int v55), (10, .int v70)] := hl
            refine lv_iadd hx hb dL_day_248 ?_
            refine g_topi h ?_
            clear h; intro v75 h
            refine lv_istore (lv' := [(6, .int v75), (0, .ref (o.2.1 0 0)), (1, .int x1), (2, .ref (o.2.1 17 0)), (3, .int v41), (4, .int v42), (5, .int v43), (7, .int v47), (8, .int v48), (9, .int v55), (10, .int v70)]) hx hb dL_day_249 hl (by decide) rfl ?_
            clear hl; clear ls; intro ls hl
            refine lv_iload hx hb dL_day_251 (lv_at hl 9 rfl) ?_
            refine g_if_lt (tgt := 278) hx hb h dL_day_253 (by decide) ?_ ?_
            · clear h; intro h
              refine g_iinc (k := 8) (v := (v48 + (1 : Int32))) (lv' := fun v76 => [(8, .int v76), (6, .int v75), (0, .ref (o.2.1 0 0)), (1, .int x1), (2, .ref (o.2.1 17 0)), (3, .int v41), (4, .int v42), (5, .int v43), (7, .int v47), (9, .int v55), (10, .int v70)]) hx hb dL_day_278 hl rfl rfl (by decide) (fun _ => rfl) h ?_
              clear h hl; clear ls; intro v76 ls h hl
              refine lv_goto (tgt := 146) hx hb dL_day_281 (by decide) ?_
              exact hR51 (v75, v47, v76, M72) h _ _ _ hw (lv_sub hl [2, 3, 4, 5, 6, 7, 1, 8, 0] rfl)
            · clear h; intro h
              refine lv_iload hx hb dL_day_256 (lv_at hl 10 rfl) ?_
              refine g_if_ne (tgt := 278) hx hb h dL_day_258 (by decide) ?_ ?_
              · clear h; intro h
                refine g_iinc (k := 8) (v := (v48 + (1 : Int32))) (lv' := fun v77 => [(8, .int v77), (6, .int v75), (0, .ref (o.2.1 0 0)), (1, .int x1), (2, .ref (o.2.1 17 0)), (3, .int v41), (4, .int v42), (5, .int v43), (7, .int v47), (9, .int v55), (10, .int v70)]) hx hb dL_day_278 hl rfl rfl (by decide) (fun _ => rfl) h ?_
                clear h hl; clear ls; intro v77 ls h hl
                refine lv_goto (tgt := 146) hx hb dL_day_281 (by decide) ?_
                exact hR51 (v75, v47, v77, M72) h _ _ _ hw (lv_sub hl [2, 3, 4, 5, 6, 7, 1, 8, 0] rfl)
              · clear h; intro h
                refine g_iinc (k := 7) (v := (v47 + (1 : Int32))) (lv' := fun v78 => [(7, .int v78), (6, .int v75), (0, .ref (o.2.1 0 0)), (1, .int x1), (2, .ref (o.2.1 17 0)), (3, .int v41), (4, .int v42), (5, .int v43), (8, .int v48), (9, .int v55), (10, .int v70)]) hx hb dL_day_261 hl rfl rfl (by decide) (fun _ => rfl) h ?_
                clear h hl; clear ls; intro v78 ls h hl
                refine lv_aload_n hx hb dL_day_264 rfl (lv_at hl 2 rfl) ?_
                refine lv_iload_n hx hb dL_day_265 rfl (lv_at hl 3 rfl) ?_
                refine lv_iload hx hb dL_day_266 (lv_at hl 9 rfl) ?_
                refine g_ci hw (g_runV (As := [.int x1, .int v55]) (rest := []) hx hb hml hown hts mX4_shown vX4_shown kL_51 hw 0 0 (ci_0 (by decide)) (bi_0 (by decide) (Nat.le_trans (by decide) hn)) rfl rfl (c_X4_shown (Nat.le_trans (by decide) hn) h) rfl rfl ⟨Nat.le_of_ble_eq_true rfl, Nat.le_of_ble_eq_true rfl⟩ rfl hl.1 rfl (Nat.le_of_ble_eq_true rfl) dL_day_268 ⟨Nat.zero_le _, Nat.zero_le _⟩) ?_
                clear h hw; intro v80 M79 H locs hw h
                refine lv_iload hx hb dL_day_271 (lv_at hl 8 rfl) ?_
                refine g_icmp_eq (tgt := 278) hx hb h dL_day_273 (by decide) ?_ ?_
                · clear h; intro h
                  refine g_iinc (k := 8) (v := (v48 + (1 : Int32))) (lv' := fun v81 => [(8, .int v81), (7, .int v78), (6, .int v75), (0, .ref (o.2.1 0 0)), (1, .int x1), (2, .ref (o.2.1 17 0)), (3, .int v41), (4, .int v42), (5, .int v43), (9, .int v55), (10, .int v70)]) hx hb dL_day_278 hl rfl rfl (by decide) (fun _ => rfl) h ?_
                  clear h hl; clear ls; intro v81 ls h hl
                  refine lv_goto (tgt := 146) hx hb dL_day_281 (by decide) ?_
                  exact hR51 (v75, v78, v81, M79) h _ _ _ hw (lv_sub hl [3, 4, 5, 6, 7, 8, 2, 1, 0] rfl)
                · clear h; intro h
                  refine lv_iconst (v := 0) hx hb dL_day_276 (by decide) ?_
                  exact g_zret hx hb hr hlocks hw (Or.inl rfl) h dL_day_277
          clear h; intro J74 hJ74 h
          refine g_if_eq (tgt := 247) hx hb h dL_day_240 (by decide) ?_ ?_
          · clear h; intro h
            refine lv_iconst (v := 0) hx hb dL_day_247 (by decide) ?_
            exact hJ74 (0 : Int32) h _ _ _ hw (lv_sub hl [1, 2, 3, 4, 5, 6, 8, 9, 10, 0] rfl)
          · clear h; intro h
            refine lv_iconst (v := 1) hx hb dL_day_243 (by decide) ?_
            refine lv_goto (tgt := 248) hx hb dL_day_244 (by decide) ?_
            exact hJ74 (1 : Int32) h _ _ _ hw (lv_sub hl [1, 2, 3, 4, 5, 6, 8, 9, 10, 0] rfl)
        clear h; intro J71 hJ71 h
        refine letJ_W (fun (x : Mm) => ∀ (H : Heap) (locs : List Loc) (ls : Array Slot), WO o (WA o) s s.heap H locs x → lv_has ls 11 [(0, .ref (o.2.1 0 0)), (1, .int x1), (2, .ref (o.2.1 17 0)), (3, .int v41), (4, .int v42), (5, .int v43), (6, .int v46), (7, .int v47), (8, .int v48), (9, .int v55)] → W p l e rm_L_day s m args below meth c H locs 0 0 (MQ below (QZ o Q) args s 0 0 (WA o)) (F0 m 233 ls [])) h ?_ ?_
        · clear h hw hl; clear ls; intro x h H locs ls hw hl
          obtain ⟨M83, rfl⟩ : ∃ z, z = x := ⟨_, rfl⟩
          replace hl : lv_has ls 11 [(0, .ref (o.2.1 0 0)), (1, .int x1), (2, .ref (o.2.1 17 0)), (3, .int v41), (4, .int v42), (5, .int v43), (6, .int v46), (7, .int v47), (8, .int v48), (9, .int v55)] := hl
          refine lv_iconst (v := 0) hx hb dL_day_233 (by decide) ?_
          exact hJ71 ((0 : Int32), M83) h _ _ _ hw (lv_sub hl [0, 1, 2, 3, 4, 5, 6, 7, 8, 9] rfl)
        clear h; intro J82 hJ82 h
        refine g_icmp_lt (tgt := 233) hx hb h dL_day_217 (by decide) ?_ ?_
        · clear h; intro h
          exact hJ82 M68 h _ _ _ hw (lv_sub hl [0, 1, 2, 3, 4, 5, 6, 7, 8, 9] rfl)
        · clear h; intro h
          refine lv_iload_n hx hb dL_day_220 rfl (lv_at hl 3 rfl) ?_
          refine lv_aload_n hx hb dL_day_221 rfl (lv_at hl 0 rfl) ?_
          refine lv_iconst (v := 3) hx hb dL_day_222 (by decide) ?_
          refine g_ci hw (g_runV (As := [.int (3 : Int32)]) (rest := [.int v41]) hx hb hml hown hts mX4_told vX4_told kL_32 hw 0 0 (ci_0 (by decide)) (bi_0 (by decide) (Nat.le_trans (by decide) hn)) rfl rfl (c_X4_told (Nat.le_trans (by decide) hn) h) rfl rfl ⟨Nat.le_of_ble_eq_true rfl, Nat.le_of_ble_eq_true rfl⟩ rfl hl.1 rfl (Nat.le_of_ble_eq_true rfl) dL_day_223 ⟨Nat.zero_le _, Nat.zero_le _⟩) ?_
          clear h hw; intro v85 M84 H locs hw h
          refine g_icmp_le (tgt := 233) hx hb h dL_day_226 (by decide) ?_ ?_
          · clear h; intro h
            exact hJ82 M84 h _ _ _ hw (lv_sub hl [0, 1, 2, 3, 4, 5, 6, 7, 8, 9] rfl)
          · clear h; intro h
            refine lv_iconst (v := 1) hx hb dL_day_229 (by decide) ?_
            refine lv_goto (tgt := 234) hx hb dL_day_230 (by decide) ?_
            exact hJ71 ((1 : Int32), M84) h _ _ _ hw (lv_sub hl [0, 1, 2, 3, 4, 5, 6, 7, 8, 9] rfl)
      clear h; intro K58 hK58 h
      refine loop_W (body := w_L_day_L168 x1 v41 v42 v43 v46 v47 v48 v55 K58) (fun (x : Int32 × Mm) => ∀ (H : Heap) (locs : List Loc) (ls : Array Slot), WO o (WA o) s s.heap H locs x.2 → lv_has ls 11 [(0, .ref (o.2.1 0 0)), (1, .int x1), (2, .ref (o.2.1 17 0)), (3, .int v41), (4, .int v42), (5, .int v43), (6, .int v46), (7, .int v47), (8, .int v48), (9, .int v55), (10, .int x.1)] → W p l e rm_L_day s m args below meth c H locs 0 0 (MQ below (QZ o Q) args s 0 0 (WA o)) (F0 m 168 ls [])) ?_ n _ h _ _ _ hw (lv_sub hl [2, 3, 4, 5, 6, 7, 8, 9, 10, 1, 0] rfl)
      clear h hw hl; clear ls; intro R59 x hR59 h H locs ls hw hl
      obtain ⟨v56, M57⟩ := x
      replace hl : lv_has ls 11 [(0, .ref (o.2.1 0 0)), (1, .int x1), (2, .ref (o.2.1 17 0)), (3, .int v41), (4, .int v42), (5, .int v43), (6, .int v46), (7, .int v47), (8, .int v48), (9, .int v55), (10, .int v56)] := hl
      dsimp only at hw
      unfold w_L_day_L168 at h
      dsimp only at h
      refine lv_iload hx hb dL_day_168 (lv_at hl 10 rfl) ?_
      refine lv_bipush (v := 12) hx hb dL_day_170 (by decide) ?_
      refine g_icmp_gt (tgt := 208) hx hb h dL_day_172 (by decide) ?_ ?_
      · clear h; intro h
        exact hK58 (v56, M57) h _ _ _ hw (lv_sub hl [0, 1, 2, 3, 4, 5, 6, 7, 8, 9] rfl)
      · clear h; intro h
        refine lv_aload_n hx hb dL_day_175 rfl (lv_at hl 2 rfl) ?_
        refine lv_iload hx hb dL_day_176 (lv_at hl 10 rfl) ?_
        refine lv_dup2_11 hx hb dL_day_178 rfl rfl ?_
        refine g_iald hx hb hw 17 0 (ci_17 (by decide)) (bi_17 (by decide) hn) rfl h dL_day_179 ?_
        clear h; intro v60 h
        refine lv_iload hx hb dL_day_180 (lv_at hl 9 rfl) ?_
        refine lv_iload hx hb dL_day_182 (lv_at hl 10 rfl) ?_
        refine lv_iconst (v := 1) hx hb dL_day_184 (by decide) ?_
        refine lv_isub hx hb dL_day_185 ?_
        refine letJ_W (fun (x : Int32) => ∀ (H : Heap) (locs : List Loc) (ls : Array Slot), WO o (WA o) s s.heap H locs M57 → lv_has ls 11 [(0, .ref (o.2.1 0 0)), (1, .int x1), (2, .ref (o.2.1 17 0)), (3, .int v41), (4, .int v42), (5, .int v43), (6, .int v46), (7, .int v47), (8, .int v48), (9, .int v55), (10, .int v56)] → W p l e rm_L_day s m args below meth c H locs 0 0 (MQ below (QZ o Q) args s 0 0 (WA o)) (F0 m 200 ls [.int x, .int v60, .int v56, .ref (o.2.1 17 0)])) h ?_ ?_
        · clear h hw hl; clear ls; intro x h H locs ls hw hl
          obtain ⟨v61, rfl⟩ : ∃ z, z = x := ⟨_, rfl⟩
          replace hl : lv_has ls 11 [(0, .ref (o.2.1 0 0)), (1, .int x1), (2, .ref (o.2.1 17 0)), (3, .int v41), (4, .int v42), (5, .int v43), (6, .int v46), (7, .int v47), (8, .int v48), (9, .int v55), (10, .int v56)] := hl
          refine lv_iadd hx hb dL_day_200 ?_
          refine g_iast hx hb hw 17 0 (ci_17 (by decide)) (bi_17 (by decide) hn) (fun _ => rfl) h dL_day_201 ?_
          clear h hw; intro M63 H locs hw h
          refine g_iinc (k := 10) (v := (v56 + (1 : Int32))) (lv' := fun v64 => [(10, .int v64), (0, .ref (o.2.1 0 0)), (1, .int x1), (2, .ref (o.2.1 17 0)), (3, .int v41), (4, .int v42), (5, .int v43), (6, .int v46), (7, .int v47), (8, .int v48), (9, .int v55)]) hx hb dL_day_202 hl rfl rfl (by decide) (fun _ => rfl) h ?_
          clear h hl; clear ls; intro v64 ls h hl
          refine lv_goto (tgt := 168) hx hb dL_day_205 (by decide) ?_
          exact hR59 (v64, M63) h _ _ _ hw (lv_sub hl [1, 2, 3, 4, 5, 6, 7, 8, 9, 10, 0] rfl)
        clear h; intro J62 hJ62 h
        refine letJ_W (fun (x : Unit) => ∀ (H : Heap) (locs : List Loc) (ls : Array Slot), WO o (WA o) s s.heap H locs M57 → lv_has ls 11 [(0, .ref (o.2.1 0 0)), (1, .int x1), (2, .ref (o.2.1 17 0)), (3, .int v41), (4, .int v42), (5, .int v43), (6, .int v46), (7, .int v47), (8, .int v48), (9, .int v55), (10, .int v56)] → W p l e rm_L_day s m args below meth c H locs 0 0 (MQ below (QZ o Q) args s 0 0 (WA o)) (F0 m 199 ls [.int v60, .int v56, .ref (o.2.1 17 0)])) h ?_ ?_
        · clear h hw hl; clear ls; intro x h H locs ls hw hl
          replace hl : lv_has ls 11 [(0, .ref (o.2.1 0 0)), (1, .int x1), (2, .ref (o.2.1 17 0)), (3, .int v41), (4, .int v42), (5, .int v43), (6, .int v46), (7, .int v47), (8, .int v48), (9, .int v55), (10, .int v56)] := hl
          refine lv_iconst (v := 0) hx hb dL_day_199 (by decide) ?_
          exact hJ62 (0 : Int32) h _ _ _ hw (lv_sub hl [0, 1, 2, 3, 4, 5, 6, 7, 8, 9, 10] rfl)
        clear h; intro J65 hJ65 h
        refine g_icmp_lt (tgt := 199) hx hb h dL_day_186 (by decide) ?_ ?_
        · clear h; intro h
          exact hJ65 () h _ _ _ hw (lv_sub hl [0, 1, 2, 3, 4, 5, 6, 7, 8, 9, 10] rfl)
        · clear h; intro h
          refine lv_iload_n hx hb dL_day_189 rfl (lv_at hl 3 rfl) ?_
          refine lv_iload hx hb dL_day_190 (lv_at hl 10 rfl) ?_
          refine g_icmp_le (tgt := 199) hx hb h dL_day_192 (by decide) ?_ ?_
          · clear h; intro h
            exact hJ65 () h _ _ _ hw (lv_sub hl [0, 1, 2, 3, 4, 5, 6, 7, 8, 9, 10] rfl)
          · clear h; intro h
            refine lv_iconst (v := 1) hx hb dL_day_195 (by decide) ?_
            refine lv_goto (tgt := 200) hx hb dL_day_196 (by decide) ?_
            exact hJ62 (1 : Int32) h _ _ _ hw (lv_sub hl [0, 1, 2, 3, 4, 5, 6, 7, 8, 9, 10] rfl)
  clear h; intro K6 hK6 h
  refine loop_W (body := w_L_day_L11 x1 Q K6) (fun (x : Int32 × Int32 × Int32 × Int32 × Mm) => ∀ (H : Heap) (locs : List Loc) (ls : Array Slot), WO o (WA o) s s.heap H locs x.2.2.2.2 → lv_has ls 11 [(0, .ref (o.2.1 0 0)), (1, .int x1), (2, .ref (o.2.1 17 0)), (3, .int x.1), (4, .int x.2.1), (5, .int x.2.2.1), (6, .int x.2.2.2.1)] → W p l e rm_L_day s m args below meth c H locs 0 0 (MQ below (QZ o Q) args s 0 0 (WA o)) (F0 m 11 ls [])) ?_ n _ h _ _ _ hw (lv_sub hl [4, 5, 6, 3, 2, 1, 0] rfl)
  clear h hw hl; clear ls; intro R7 x hR7 h H locs ls hw hl
  obtain ⟨v1, v2, v3, v4, M5⟩ := x
  replace hl : lv_has ls 11 [(0, .ref (o.2.1 0 0)), (1, .int x1), (2, .ref (o.2.1 17 0)), (3, .int v1), (4, .int v2), (5, .int v3), (6, .int v4)] := hl
  dsimp only at hw
  unfold w_L_day_L11 at h
  dsimp only at h
  refine lv_iload hx hb dL_day_11 (lv_at hl 6 rfl) ?_
  refine lv_aload_n hx hb dL_day_13 rfl (lv_at hl 0 rfl) ?_
  refine lv_iconst (v := 5) hx hb dL_day_14 (by decide) ?_
  refine g_ci hw (g_runV (As := [.int (5 : Int32)]) (rest := [.int v4]) hx hb hml hown hts mX4_told vX4_told kL_32 hw 0 0 (ci_0 (by decide)) (bi_0 (by decide) (Nat.le_trans (by decide) hn)) rfl rfl (c_X4_told (Nat.le_trans (by decide) hn) h) rfl rfl ⟨Nat.le_of_ble_eq_true rfl, Nat.le_of_ble_eq_true rfl⟩ rfl hl.1 rfl (Nat.le_of_ble_eq_true rfl) dL_day_15 ⟨Nat.zero_le _, Nat.zero_le _⟩) ?_
  clear h hw; intro v9 M8 H locs hw h
  refine g_icmp_ge (tgt := 137) hx hb h dL_day_18 (by decide) ?_ ?_
  · clear h; intro h
    exact hK6 (v1, v2, v3, v4, M8) h _ _ _ hw (lv_sub hl [0, 1, 2, 3, 4, 5] rfl)
  · clear h; intro h
    refine lv_aload_n hx hb dL_day_21 rfl (lv_at hl 0 rfl) ?_
    refine lv_iload hx hb dL_day_22 (lv_at hl 6 rfl) ?_
    refine lv_iload_n hx hb dL_day_24 rfl (lv_at hl 1 rfl) ?_
    refine g_ci hw (g_runV (As := [.int v4, .int x1]) (rest := []) hx hb hml hown hts mX4_rowOf vX4_rowOf kL_48 hw 0 0 (ci_0 (by decide)) (bi_0 (by decide) (Nat.le_trans (by decide) hn)) rfl rfl (c_X4_rowOf (Nat.le_trans (by decide) hn) h) rfl rfl ⟨Nat.le_of_ble_eq_true rfl, Nat.le_of_ble_eq_true rfl⟩ rfl hl.1 rfl (Nat.le_of_ble_eq_true rfl) dL_day_25 ⟨Nat.zero_le _, Nat.zero_le _⟩) ?_
    clear h hw; intro v11 M10 H locs hw h
    refine lv_istore (lv' := [(7, .int v11), (0, .ref (o.2.1 0 0)), (1, .int x1), (2, .ref (o.2.1 17 0)), (3, .int v1), (4, .int v2), (5, .int v3), (6, .int v4)]) hx hb dL_day_28 hl (by decide) rfl ?_
    clear hl; clear ls; intro ls hl
    refine lv_iload hx hb dL_day_30 (lv_at hl 0 rfl) ?_
    refine lv_iload_n hx hb dL_day_32 rfl (lv_at hl 4 rfl) ?_
    refine letJ_W (fun (x : Int32) => ∀ (H : Heap) (locs : List Loc) (ls : Array Slot), WO o (WA o) s s.heap H locs M10 → lv_has ls 11 [(0, .ref (o.2.1 0 0)), (1, .int x1), (2, .ref (o.2.1 17 0)), (4, .int v2), (5, .int v3), (6, .int v4), (7, .int v11)] → W p l e rm_L_day s m args below meth c H locs 0 0 (MQ below (QZ o Q) args s 0 0 (WA o)) (F0 m 44 ls [.int x])) h ?_ ?_
    · clear h hw hl; clear ls; intro x h H locs ls hw hl
      obtain ⟨v12, rfl⟩ : ∃ z, z = x := ⟨_, rfl⟩
      replace hl : lv_has ls 11 [(0, .ref (o.2.1 0 0)), (1, .int x1), (2, .ref (o.2.1 17 0)), (4, .int v2), (5, .int v3), (6, .int v4), (7, .int v11)] := hl
      refine lv_istore_n (lv' := [(3, .int v12), (0, .ref (o.2.1 0 0)), (1, .int x1), (2, .ref (o.2.1 17 0)), (4, .int v2), (5, .int v3), (6, .int v4), (7, .int v11)]) hx hb dL_day_44 rfl hl (by decide) rfl ?_
      clear hl; clear ls; intro ls hl
      refine lv_iload hx hb dL_day_45 (lv_at hl 4 rfl) ?_
      refine lv_iload hx hb dL_day_47 (lv_at hl 7 rfl) ?_
      refine letJ_W (fun (x : Int32 × Mm) => ∀ (H : Heap) (locs : List Loc) (ls : Array Slot), WO o (WA o) s s.heap H locs x.2 → lv_has ls 11 [(0, .ref (o.2.1 0 0)), (1, .int x1), (2, .ref (o.2.1 17 0)), (3, .int v12), (5, .int v3), (6, .int v4), (7, .int v11)] → W p l e rm_L_day s m args below meth c H locs 0 0 (MQ below (QZ o Q) args s 0 0 (WA o)) (F0 m 68 ls [.int x.1, .int v2])) h ?_ ?_
      · clear h hw hl; clear ls; intro x h H locs ls hw hl
        obtain ⟨v14, M16⟩ := x
        replace hl : lv_has ls 11 [(0, .ref (o.2.1 0 0)), (1, .int x1), (2, .ref (o.2.1 17 0)), (3, .int v12), (5, .int v3), (6, .int v4), (7, .int v11)] := hl
        dsimp only at h
        dsimp only at hw
        refine lv_iadd hx hb dL_day_68 ?_
        refine g_topi h ?_
        clear h; intro v17 h
        refine lv_istore (lv' := [(4, .int v17), (0, .ref (o.2.1 0 0)), (1, .int x1), (2, .ref (o.2.1 17 0)), (3, .int v12), (5, .int v3), (6, .int v4), (7, .int v11)]) hx hb dL_day_69 hl (by decide) rfl ?_
        clear hl; clear ls; intro ls hl
        refine lv_iload hx hb dL_day_71 (lv_at hl 5 rfl) ?_
        refine lv_iload hx hb dL_day_73 (lv_at hl 7 rfl) ?_
        refine letJ_W (fun (x : Int32 × Mm) => ∀ (H : Heap) (locs : List Loc) (ls : Array Slot), WO o (WA o) s s.heap H locs x.2 → lv_has ls 11 [(0, .ref (o.2.1 0 0)), (1, .int x1), (2, .ref (o.2.1 17 0)), (3, .int v12), (4, .int v17), (6, .int v4), (7, .int v11)] → W p l e rm_L_day s m args below meth c H locs 0 0 (MQ below (QZ o Q) args s 0 0 (WA o)) (F0 m 93 ls [.int x.1, .int v3])) h ?_ ?_
        · clear h hw hl; clear ls; intro x h H locs ls hw hl
          obtain ⟨v18, M20⟩ := x
          replace hl : lv_has ls 11 [(0, .ref (o.2.1 0 0)), (1, .int x1), (2, .ref (o.2.1 17 0)), (3, .int v12), (4, .int v17), (6, .int v4), (7, .int v11)] := hl
          dsimp only at h
          dsimp only at hw
          refine lv_iadd hx hb dL_day_93 ?_
          refine g_topi h ?_
          clear h; intro v21 h
          refine lv_istore (lv' := [(5, .int v21), (0, .ref (o.2.1 0 0)), (1, .int x1), (2, .ref (o.2.1 17 0)), (3, .int v12), (4, .int v17), (6, .int v4), (7, .int v11)]) hx hb dL_day_94 hl (by decide) rfl ?_
          clear hl; clear ls; intro ls hl
          refine lv_iconst (v := 0) hx hb dL_day_96 (by decide) ?_
          refine lv_istore (lv' := [(8, .int (0 : Int32)), (5, .int v21), (0, .ref (o.2.1 0 0)), (1, .int x1), (2, .ref (o.2.1 17 0)), (3, .int v12), (4, .int v17), (6, .int v4), (7, .int v11)]) hx hb dL_day_97 hl (by decide) rfl ?_
          clear hl; clear ls; intro ls hl
          obtain ⟨n, h⟩ := h
          refine letK_W (body := fun K => w_L_day_L99 x1 v12 v17 v21 v4 v11 Q K) (fun (x : Int32 × Mm) => ∀ (H : Heap) (locs : List Loc) (ls : Array Slot), WO o (WA o) s s.heap H locs x.2 → lv_has ls 11 [(0, .ref (o.2.1 0 0)), (1, .int x1), (2, .ref (o.2.1 17 0)), (3, .int v12), (4, .int v17), (5, .int v21), (6, .int v4)] → W p l e rm_L_day s m args below meth c H locs 0 0 (MQ below (QZ o Q) args s 0 0 (WA o)) (F0 m 131 ls [])) h ?_ ?_
          · clear h hw hl; clear ls; intro x h H locs ls hw hl
            obtain ⟨v30, M31⟩ := x
            replace hl : lv_has ls 11 [(0, .ref (o.2.1 0 0)), (1, .int x1), (2, .ref (o.2.1 17 0)), (3, .int v12), (4, .int v17), (5, .int v21), (6, .int v4)] := hl
            dsimp only at h hw
            refine g_iinc (k := 6) (v := (v4 + (1 : Int32))) (lv' := fun v32 => [(6, .int v32), (0, .ref (o.2.1 0 0)), (1, .int x1), (2, .ref (o.2.1 17 0)), (3, .int v12), (4, .int v17), (5, .int v21)]) hx hb dL_day_131 hl rfl rfl (by decide) (fun _ => rfl) h ?_
            clear h hl; clear ls; intro v32 ls h hl
            refine lv_goto (tgt := 11) hx hb dL_day_134 (by decide) ?_
            exact hR7 (v12, v17, v21, v32, M31) h _ _ _ hw (lv_sub hl [1, 2, 3, 4, 5, 6, 0] rfl)
          clear h; intro K24 hK24 h
          refine loop_W (body := w_L_day_L99 x1 v12 v17 v21 v4 v11 Q K24) (fun (x : Int32 × Mm) => ∀ (H : Heap) (locs : List Loc) (ls : Array Slot), WO o (WA o) s s.heap H locs x.2 → lv_has ls 11 [(0, .ref (o.2.1 0 0)), (1, .int x1), (2, .ref (o.2.1 17 0)), (3, .int v12), (4, .int v17), (5, .int v21), (6, .int v4), (7, .int v11), (8, .int x.1)] → W p l e rm_L_day s m args below meth c H locs 0 0 (MQ below (QZ o Q) args s 0 0 (WA o)) (F0 m 99 ls [])) ?_ n _ h _ _ _ hw (lv_sub hl [2, 3, 4, 5, 6, 1, 7, 8, 0] rfl)
          clear h hw hl; clear ls; intro R25 x hR25 h H locs ls hw hl
          obtain ⟨v22, M23⟩ := x
          replace hl : lv_has ls 11 [(0, .ref (o.2.1 0 0)), (1, .int x1), (2, .ref (o.2.1 17 0)), (3, .int v12), (4, .int v17), (5, .int v21), (6, .int v4), (7, .int v11), (8, .int v22)] := hl
          dsimp only at hw
          unfold w_L_day_L99 at h
          dsimp only at h
          refine lv_iload hx hb dL_day_99 (lv_at hl 8 rfl) ?_
          refine lv_iload hx hb dL_day_101 (lv_at hl 6 rfl) ?_
          refine g_icmp_ge (tgt := 131) hx hb h dL_day_103 (by decide) ?_ ?_
          · clear h; intro h
            exact hK24 (v22, M23) h _ _ _ hw (lv_sub hl [0, 1, 2, 3, 4, 5, 6] rfl)
          · clear h; intro h
            refine lv_iload hx hb dL_day_106 (lv_at hl 7 rfl) ?_
            refine g_if_lt (tgt := 125) hx hb h dL_day_108 (by decide) ?_ ?_
            · clear h; intro h
              refine g_iinc (k := 8) (v := (v22 + (1 : Int32))) (lv' := fun v26 => [(8, .int v26), (0, .ref (o.2.1 0 0)), (1, .int x1), (2, .ref (o.2.1 17 0)), (3, .int v12), (4, .int v17), (5, .int v21), (6, .int v4), (7, .int v11)]) hx hb dL_day_125 hl rfl rfl (by decide) (fun _ => rfl) h ?_
              clear h hl; clear ls; intro v26 ls h hl
              refine lv_goto (tgt := 99) hx hb dL_day_128 (by decide) ?_
              exact hR25 (v26, M23) h _ _ _ hw (lv_sub hl [1, 2, 3, 4, 5, 6, 7, 8, 0] rfl)
            · clear h; intro h
              refine lv_aload_n hx hb dL_day_111 rfl (lv_at hl 0 rfl) ?_
              refine lv_iload hx hb dL_day_112 (lv_at hl 8 rfl) ?_
              refine lv_iload_n hx hb dL_day_114 rfl (lv_at hl 1 rfl) ?_
              refine g_ci hw (g_runV (As := [.int v22, .int x1]) (rest := []) hx hb hml hown hts mX4_rowOf vX4_rowOf kL_48 hw 0 0 (ci_0 (by decide)) (bi_0 (by decide) (Nat.le_trans (by decide) hn)) rfl rfl (c_X4_rowOf (Nat.le_trans (by decide) hn) h) rfl rfl ⟨Nat.le_of_ble_eq_true rfl, Nat.le_of_ble_eq_true rfl⟩ rfl hl.1 rfl (Nat.le_of_ble_eq_true rfl) dL_day_115 ⟨Nat.zero_le _, Nat.zero_le _⟩) ?_
              clear h hw; intro v28 M27 H locs hw h
              refine lv_iload hx hb dL_day_118 (lv_at hl 7 rfl) ?_
              refine g_icmp_ne (tgt := 125) hx hb h dL_day_120 (by decide) ?_ ?_
              · clear h; intro h
                refine g_iinc (k := 8) (v := (v22 + (1 : Int32))) (lv' := fun v29 => [(8, .int v29), (0, .ref (o.2.1 0 0)), (1, .int x1), (2, .ref (o.2.1 17 0)), (3, .int v12), (4, .int v17), (5, .int v21), (6, .int v4), (7, .int v11)]) hx hb dL_day_125 hl rfl rfl (by decide) (fun _ => rfl) h ?_
                clear h hl; clear ls; intro v29 ls h hl
                refine lv_goto (tgt := 99) hx hb dL_day_128 (by decide) ?_
                exact hR25 (v29, M27) h _ _ _ hw (lv_sub hl [1, 2, 3, 4, 5, 6, 7, 8, 0] rfl)
              · clear h; intro h
                refine lv_iconst (v := 0) hx hb dL_day_123 (by decide) ?_
                exact g_zret hx hb hr hlocks hw (Or.inl rfl) h dL_day_124
        clear h; intro J19 hJ19 h
        refine letJ_W (fun (x : Mm) => ∀ (H : Heap) (locs : List Loc) (ls : Array Slot), WO o (WA o) s s.heap H locs x → lv_has ls 11 [(0, .ref (o.2.1 0 0)), (1, .int x1), (2, .ref (o.2.1 17 0)), (3, .int v12), (4, .int v17), (6, .int v4), (7, .int v11)] → W p l e rm_L_day s m args below meth c H locs 0 0 (MQ below (QZ o Q) args s 0 0 (WA o)) (F0 m 92 ls [.int v3])) h ?_ ?_
        · clear h hw hl; clear ls; intro x h H locs ls hw hl
          obtain ⟨M34, rfl⟩ : ∃ z, z = x := ⟨_, rfl⟩
          replace hl : lv_has ls 11 [(0, .ref (o.2.1 0 0)), (1, .int x1), (2, .ref (o.2.1 17 0)), (3, .int v12), (4, .int v17), (6, .int v4), (7, .int v11)] := hl
          refine lv_iconst (v := 0) hx hb dL_day_92 (by decide) ?_
          exact hJ19 ((0 : Int32), M34) h _ _ _ hw (lv_sub hl [0, 1, 2, 3, 4, 5, 6] rfl)
        clear h; intro J33 hJ33 h
        refine g_if_lt (tgt := 92) hx hb h dL_day_75 (by decide) ?_ ?_
        · clear h; intro h
          exact hJ33 M16 h _ _ _ hw (lv_sub hl [1, 2, 3, 4, 0, 6, 7] rfl)
        · clear h; intro h
          refine lv_aload_n hx hb dL_day_78 rfl (lv_at hl 1 rfl) ?_
          refine lv_iload hx hb dL_day_79 (lv_at hl 6 rfl) ?_
          refine lv_iconst (v := 4) hx hb dL_day_81 (by decide) ?_
          refine g_ci hw (g_runV (As := [.int v4, .int (4 : Int32)]) (rest := [.int v3]) hx hb hml hown hts mX4_entry vX4_entry kL_41 hw 0 0 (ci_0 (by decide)) (bi_0 (by decide) (Nat.le_trans (by decide) hn)) rfl rfl (c_X4_entry (Nat.le_trans (by decide) hn) h) rfl rfl ⟨Nat.le_of_ble_eq_true rfl, Nat.le_of_ble_eq_true rfl⟩ rfl hl.1 rfl (Nat.le_of_ble_eq_true rfl) dL_day_82 ⟨Nat.zero_le _, Nat.zero_le _⟩) ?_
          clear h hw; intro v36 M35 H locs hw h
          refine g_if_ne (tgt := 92) hx hb h dL_day_85 (by decide) ?_ ?_
          · clear h; intro h
            exact hJ33 M35 h _ _ _ hw (lv_sub hl [1, 2, 3, 4, 0, 6, 7] rfl)
          · clear h; intro h
            refine lv_iconst (v := 1) hx hb dL_day_88 (by decide) ?_
            refine lv_goto (tgt := 93) hx hb dL_day_89 (by decide) ?_
            exact hJ19 ((1 : Int32), M35) h _ _ _ hw (lv_sub hl [1, 2, 3, 4, 0, 6, 7] rfl)
      clear h; intro J15 hJ15 h
      refine letJ_W (fun (x : Mm) => ∀ (H : Heap) (locs : List Loc) (ls : Array Slot), WO o (WA o) s s.heap H locs x → lv_has ls 11 [(0, .ref (o.2.1 0 0)), (1, .int x1), (2, .ref (o.2.1 17 0)), (3, .int v12), (5, .int v3), (6, .int v4), (7, .int v11)] → W p l e rm_L_day s m args below meth c H locs 0 0 (MQ below (QZ o Q) args s 0 0 (WA o)) (F0 m 67 ls [.int v2])) h ?_ ?_
      · clear h hw hl; clear ls; intro x h H locs ls hw hl
        obtain ⟨M38, rfl⟩ : ∃ z, z = x := ⟨_, rfl⟩
        replace hl : lv_has ls 11 [(0, .ref (o.2.1 0 0)), (1, .int x1), (2, .ref (o.2.1 17 0)), (3, .int v12), (5, .int v3), (6, .int v4), (7, .int v11)] := hl
        refine lv_iconst (v := 0) hx hb dL_day_67 (by decide) ?_
        exact hJ15 ((0 : Int32), M38) h _ _ _ hw (lv_sub hl [0, 1, 2, 3, 4, 5, 6] rfl)
      clear h; intro J37 hJ37 h
      refine g_if_lt (tgt := 67) hx hb h dL_day_49 (by decide) ?_ ?_
      · clear h; intro h
        exact hJ37 M10 h _ _ _ hw (lv_sub hl [1, 2, 3, 0, 5, 6, 7] rfl)
      · clear h; intro h
        refine lv_aload_n hx hb dL_day_52 rfl (lv_at hl 1 rfl) ?_
        refine lv_iload hx hb dL_day_53 (lv_at hl 6 rfl) ?_
        refine lv_iconst (v := 4) hx hb dL_day_55 (by decide) ?_
        refine g_ci hw (g_runV (As := [.int v4, .int (4 : Int32)]) (rest := [.int v2]) hx hb hml hown hts mX4_entry vX4_entry kL_41 hw 0 0 (ci_0 (by decide)) (bi_0 (by decide) (Nat.le_trans (by decide) hn)) rfl rfl (c_X4_entry (Nat.le_trans (by decide) hn) h) rfl rfl ⟨Nat.le_of_ble_eq_true rfl, Nat.le_of_ble_eq_true rfl⟩ rfl hl.1 rfl (Nat.le_of_ble_eq_true rfl) dL_day_56 ⟨Nat.zero_le _, Nat.zero_le _⟩) ?_
        clear h hw; intro v40 M39 H locs hw h
        refine lv_iconst (v := 1) hx hb dL_day_59 (by decide) ?_
        refine g_icmp_ne (tgt := 67) hx hb h dL_day_60 (by decide) ?_ ?_
        · clear h; intro h
          exact hJ37 M39 h _ _ _ hw (lv_sub hl [1, 2, 3, 0, 5, 6, 7] rfl)
        · clear h; intro h
          refine lv_iconst (v := 1) hx hb dL_day_63 (by decide) ?_
          refine lv_goto (tgt := 68) hx hb dL_day_64 (by decide) ?_
          exact hJ15 ((1 : Int32), M39) h _ _ _ hw (lv_sub hl [1, 2, 3, 0, 5, 6, 7] rfl)
    clear h; intro J13 hJ13 h
    refine g_icmp_lt (tgt := 43) hx hb h dL_day_33 (by decide) ?_ ?_
    · clear h; intro h
      refine lv_iload_n hx hb dL_day_43 rfl (lv_at hl 4 rfl) ?_
      exact hJ13 v1 h _ _ _ hw (lv_sub hl [1, 2, 3, 5, 6, 7, 0] rfl)
    · clear h; intro h
      refine lv_iload hx hb dL_day_36 (lv_at hl 0 rfl) ?_
      refine lv_iconst (v := 1) hx hb dL_day_38 (by decide) ?_
      refine lv_iadd hx hb dL_day_39 ?_
      refine lv_goto (tgt := 44) hx hb dL_day_40 (by decide) ?_
      exact hJ13 (v11 + (1 : Int32)) h _ _ _ hw (lv_sub hl [1, 2, 3, 5, 6, 7, 0] rfl)
