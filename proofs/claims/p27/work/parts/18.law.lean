section VLW
variable {p : Program} {l : Launch} {e : Env} {R : Room} {s : State} {m : MethodId} {args : Array Value} {below : List Frame} {meth : Method} {c : Code} {H : Heap} {locs : List Loc} {cells slots : Nat} {Q : State → Prop}
variable {cc : ByteArray} {pc : Nat} {ls : Array Slot} {rest : List Value} {o : Om} {A : Nat → Prop} {M : Mm} {H0 : Heap} {b L : Nat} {xs : Nat → Int32}
theorem law_end {x : Int32} {Q1 : Int32 → Mm → Prop} (hx : p.tables.exec = Jvm.exec) (hb : c.code = code) (hr : meth.sig.returnType = ret) (hlocks : meth.locks = false) (hcc : cells ≤ room_1.cells) (hcs : slots ≤ room_1.slots) (hw : WO o (fun q : Nat => s.heap.size ≤ q) s s.heap H locs M) (hQ : ∀ r M, Q1 r M → r = 1) (h : Q1 x M) (hdg : decode code pc = .ok (.ireturn, 1)) : W p l e room_1 s m #[Value.ref b] below meth c H locs cells slots (lw_Z below #[Value.ref b] s) (F0 m pc ls [.int x]) := by
  have hx1 := hQ _ _ h
  subst hx1
  refine va_forget (fun q hq => hw.2.2.2.2.2 q hq) ?_
  refine W.widen (k := 600000) (n := 7302249) hcc hcs ?_
  exact lw_ret hx hb hr hlocks hdg
end VLW

def w_L_law1 (L : Nat) (xs : Nat → Int32) (M : Mm) (K0 : Mm → Prop) (Q : Int32 → Mm → Prop) : Prop :=
  w_L_sets L xs M fun v2 M1 => if v2 = 0 then (Q (0 : Int32) M1) else (w_L_weeks M1 fun v4 M3 => if v4 = 0 then (Q (0 : Int32) M3) else (w_L_bars M3 fun v6 M5 => if v6 = 0 then (Q (0 : Int32) M5) else (K0 M5)))
set_option maxHeartbeats 8000000 in
set_option maxRecDepth 100000 in
theorem c_L_law1 {p : Program} {l : Launch} {e : Env} {s : State} {m : MethodId} {below : List Frame} {meth : Method} {c : Code} {o : Om} {b L : Nat} {xs : Nat → Int32} {cells slots : Nat} {H : Heap} {locs : List Loc} {M : Mm} {Q : Int32 → Mm → Prop} (hn : 115 ≤ o.2.2.2) (C0 : lw_At p s m meth c b L xs) (hcc : cells ≤ room_1.cells) (hcs : slots ≤ room_1.slots) (hQ : ∀ r M, Q r M → r = 1) {K0 : Mm → Prop} (hK0 : ∀ (M : Mm) (H : Heap) (locs : List Loc) (ls : Array Slot), WO o (fun q : Nat => s.heap.size ≤ q) s s.heap H locs M → K0 M → lv_has ls 10 [(0, .ref b), (1, .ref (o.2.1 0 0))] → W p l e room_1 s m #[Value.ref b] below meth c H locs cells slots (lw_Z below #[Value.ref b] s) (F0 m 34 ls [.int (13 : Int32)])) (hw : WO o (fun q : Nat => s.heap.size ≤ q) s s.heap H locs M) (h : w_L_law1 L xs M K0 Q) {ls : Array Slot} (hl : lv_has ls 10 [(1, .ref (o.2.1 0 0)), (0, .ref b)]) : W p l e room_1 s m #[Value.ref b] below meth c H locs cells slots (lw_Z below #[Value.ref b] s) (F0 m 8 ls []) := by
  obtain ⟨hx, hb, hr, hml, hown, hts0, hX, hbl, hlocks, hgv⟩ := C0
  have hts : ∀ w ∈ lw_g, w.before #[Value.ref b] s = true := fun w h => hts0 w (lw_g_in w h)
  have hbA : ¬ (fun q : Nat => s.heap.size ≤ q) b := Nat.not_le.mpr hbl
  unfold w_L_law1 at h
  refine lv_aload_n hx hb dL_law_8 rfl (lv_at hl 0 rfl) ?_
  refine lv_aload_n hx hb dL_law_9 rfl (lv_at hl 1 rfl) ?_
  refine g_cz hw (g_runSs (As := [.ref (o.2.1 0 0), .ref b]) (rest := []) hx hb hml hown hts mL_sets sL_sets kL_59 hw hX hbl hbA (c_L_sets hn h) rfl rfl ⟨Nat.le_of_ble_eq_true rfl, Nat.le_of_ble_eq_true rfl⟩ rfl hl.1 rfl (Nat.le_of_ble_eq_true rfl) dL_law_10 ⟨hcc, hcs⟩) ?_
  clear h hw; intro v2 M1 H locs hw hz_v2 h
  refine g_if_eq (tgt := 30) hx hb h dL_law_13 (by decide) ?_ ?_
  · clear h; intro h
    refine lv_iconst (v := 0) hx hb dL_law_30 (by decide) ?_
    exact law_end hx hb hr hlocks hcc hcs hw hQ h dL_law_31
  · clear h; intro h
    refine lv_aload_n hx hb dL_law_16 rfl (lv_at hl 0 rfl) ?_
    refine g_cz hw (g_runS (As := [.ref (o.2.1 0 0)]) (rest := []) hx hb hml hown hts mL_weeks sL_weeks kL_63 hw (c_L_weeks hn h) rfl rfl ⟨Nat.le_of_ble_eq_true rfl, Nat.le_of_ble_eq_true rfl⟩ rfl hl.1 rfl (Nat.le_of_ble_eq_true rfl) dL_law_17 ⟨hcc, hcs⟩) ?_
    clear h hw; intro v4 M3 H locs hw hz_v4 h
    refine g_if_eq (tgt := 30) hx hb h dL_law_20 (by decide) ?_ ?_
    · clear h; intro h
      refine lv_iconst (v := 0) hx hb dL_law_30 (by decide) ?_
      exact law_end hx hb hr hlocks hcc hcs hw hQ h dL_law_31
    · clear h; intro h
      refine lv_aload_n hx hb dL_law_23 rfl (lv_at hl 0 rfl) ?_
      refine g_cz hw (g_runS (As := [.ref (o.2.1 0 0)]) (rest := []) hx hb hml hown hts mL_bars sL_bars kL_67 hw (c_L_bars hn h) rfl rfl ⟨Nat.le_of_ble_eq_true rfl, Nat.le_of_ble_eq_true rfl⟩ rfl hl.1 rfl (Nat.le_of_ble_eq_true rfl) dL_law_24 ⟨hcc, hcs⟩) ?_
      clear h hw; intro v6 M5 H locs hw hz_v6 h
      refine g_if_ne (tgt := 32) hx hb h dL_law_27 (by decide) ?_ ?_
      · clear h; intro h
        refine lv_bipush (v := 13) hx hb dL_law_32 (by decide) ?_
        exact hK0 _ _ _ _ hw h (lv_sub hl [1, 0] rfl)
      · clear h; intro h
        refine lv_iconst (v := 0) hx hb dL_law_30 (by decide) ?_
        exact law_end hx hb hr hlocks hcc hcs hw hQ h dL_law_31
def w_L_law_P2_46 (L : Nat) (xs : Nat → Int32) (Q : Int32 → Mm → Prop) (K6 : Int32 × Int32 × Mm → Prop) (R7 : Int32 × Int32 × Mm → Prop) : Int32 × Int32 × Mm → Prop := fun (v3, v4, M5) =>
  w_X4_told M5 (1 : Int32) fun v9 M8 => if v9 < v4 then (K6 (v3, v4, M8)) else (w_L_day M8 v4 fun v11 M10 => if v11 = 0 then (Q (0 : Int32) M10) else (w_X4_day M10 v4 (5 : Int32) fun v13 M12 => if v13 ≤ v3 then (bI (v4 + (1 : Int32)) fun v14 => R7 (v3, v14, M12)) else (w_X4_day M12 v4 (5 : Int32) fun v16 M15 => bI (v4 + (1 : Int32)) fun v17 => R7 (v16, v17, M15))))
def w_L_law_P2_131 (L : Nat) (xs : Nat → Int32) (K29 : Int32 × Int32 × Mm → Prop) (R30 : Int32 × Int32 × Mm → Prop) : Int32 × Int32 × Mm → Prop := fun (v26, v27, M28) =>
  if (12 : Int32) < v27 then (K29 (v26, v27, M28)) else (if v26 = 0 then (bI (v27 + (1 : Int32)) fun v31 => R30 ((0 : Int32), v31, M28)) else (w_X4_ifRows M28 v27 fun v33 M32 => ldA (M32 17 0) 13 v27 fun v34 => if v33 = v34 then (bI (v27 + (1 : Int32)) fun v36 => R30 ((1 : Int32), v36, M32)) else (bI (v27 + (1 : Int32)) fun v35 => R30 ((0 : Int32), v35, M32))))
def w_L_law_P2_175 (L : Nat) (xs : Nat → Int32) (v37 : Int32) (K43 : Int32 × Int32 × Mm → Prop) (R44 : Int32 × Int32 × Mm → Prop) : Int32 × Int32 × Mm → Prop := fun (v40, v41, M42) =>
  w_X4_told M42 (5 : Int32) fun v46 M45 => if v46 ≤ v41 then (K43 (v40, v41, M45)) else (w_X4_entry M45 v41 (6 : Int32) fun v48 M47 => bI (v40 + v48) fun v49 => bI (v41 + (1 : Int32)) fun v50 => R44 (v49, v50, M47))
def w_L_law_P2_210 (L : Nat) (xs : Nat → Int32) (v37 : Int32) (v51 : Int32) (K57 : Int32 × Int32 × Mm → Prop) (R58 : Int32 × Int32 × Mm → Prop) : Int32 × Int32 × Mm → Prop := fun (v54, v55, M56) =>
  w_X4_told M56 (4 : Int32) fun v60 M59 => if v60 ≤ v55 then (K57 (v54, v55, M59)) else (w_X4_week M59 v55 (5 : Int32) fun v62 M61 => bI (v54 + v62) fun v63 => bI (v55 + (1 : Int32)) fun v64 => R58 (v63, v64, M61))
def w_L_law_P2_271 (L : Nat) (xs : Nat → Int32) (v51 : Int32) (K74 : Int32 × Int32 × Mm → Prop) (R75 : Int32 × Int32 × Mm → Prop) : Int32 × Int32 × Mm → Prop := fun (v71, v72, M73) =>
  if (4 : Int32) ≤ v72 then (K74 (v71, v72, M73)) else (if v71 = 0 then (bI (v72 + (1 : Int32)) fun v76 => R75 ((0 : Int32), v76, M73)) else (w_L_cell L xs M73 ((20 : Int32) + v72) fun v78 M77 => letJ (fun (v79 : Int32) => w_L_frees M77 ((1 : Int32) + (v78 - v78 / (9 : Int32) * (9 : Int32))) v79 fun v82 M81 => if v82 = 0 then (bI (v72 + (1 : Int32)) fun v83 => R75 ((0 : Int32), v83, M81)) else (bI (v72 + (1 : Int32)) fun v84 => R75 ((1 : Int32), v84, M81))) fun J80 => if (v72 - v72 / (2 : Int32) * (2 : Int32)) = 0 then (J80 (1 : Int32)) else (J80 (0 : Int32))))
def w_L_law2 (L : Nat) (xs : Nat → Int32) (M : Mm) (Q : Int32 → Mm → Prop) : Prop :=
  w_X4_told M (0 : Int32) fun v2 M1 => ∃ n, loop (w_L_law_P2_46 L xs Q (fun ((v18, v19, M20) : Int32 × Int32 × Mm) => w_X4_enough M20 fun v22 M21 => letJ (fun ((v23, M25) : Int32 × Mm) => ∃ n, loop (w_L_law_P2_131 L xs (fun ((v37, v38, M39) : Int32 × Int32 × Mm) => ∃ n, loop (w_L_law_P2_175 L xs v37 (fun ((v51, v52, M53) : Int32 × Int32 × Mm) => ∃ n, loop (w_L_law_P2_210 L xs v37 v51 (fun ((v65, v66, M67) : Int32 × Int32 × Mm) => letJ (fun ((v68, M70) : Int32 × Mm) => ∃ n, loop (w_L_law_P2_271 L xs v51 (fun ((v85, v86, M87) : Int32 × Int32 × Mm) => w_L_cell L xs M87 (24 : Int32) fun v89 M88 => w_X4_told M88 (5 : Int32) fun v91 M90 => nzI v91 fun v92 => bI (v89 - v89 / v92 * v92) fun v93 => w_X4_entry M90 v93 (0 : Int32) fun v95 M94 => w_X4_bestDay M94 v93 fun v97 M96 => letJ (fun ((v98, M100) : Int32 × Mm) => letJ (fun ((v101, M103) : Int32 × Mm) => if v101 = 0 then (Q (0 : Int32) M103) else (w_X4_undo M103 fun v105 M104 => if v105 < 0 then (Q (0 : Int32) M104) else (w_X4_told M104 (9 : Int32) fun v107 M106 => if v107 = v51 then (w_X4_entry M106 v93 (0 : Int32) fun v109 M108 => if v109 = v95 then (Q (1 : Int32) M108) else (Q (0 : Int32) M108)) else (Q (0 : Int32) M106)))) fun J102 => letJ (fun (M111 : Mm) => J102 ((0 : Int32), M111)) fun J110 => if v98 = 0 then (J110 M100) else (w_X4_told M100 (0 : Int32) fun v113 M112 => letJ (fun (M115 : Mm) => w_L_weeks M115 fun v117 M116 => if v117 = 0 then (J110 M116) else (w_L_bars M116 fun v119 M118 => if v119 = 0 then (J110 M118) else (J102 ((1 : Int32), M118)))) fun J114 => if v95 < v113 then (J114 M112) else (w_X4_told M112 (1 : Int32) fun v121 M120 => if v121 < v95 then (J114 M120) else (w_X4_told M120 (9 : Int32) fun v123 M122 => if v51 < v123 then (J110 M122) else (J114 M122))))) fun J99 => letJ (fun (M125 : Mm) => J99 ((0 : Int32), M125)) fun J124 => if v85 = 0 then (J124 M96) else (w_X4_told M96 (0 : Int32) fun v127 M126 => if v97 < v127 then (J124 M126) else (w_X4_told M126 (1 : Int32) fun v129 M128 => if v129 < v97 then (J124 M128) else (w_X4_move M128 v93 (v97 - v95) fun v131 M130 => if v131 = v97 then (J99 ((1 : Int32), M130)) else (J124 M130))))) ) n (v68, (0 : Int32), M70)) fun J69 => letJ (fun (M133 : Mm) => J69 ((0 : Int32), M133)) fun J132 => if v37 = 0 then (J132 M67) else (w_X4_told M67 (9 : Int32) fun v135 M134 => if v51 = v135 then (if v65 = v51 then (J69 ((1 : Int32), M134)) else (J132 M134)) else (J132 M134))) ) n ((0 : Int32), (0 : Int32), M53)) ) n ((0 : Int32), (0 : Int32), M39)) ) n (v23, (1 : Int32), M25)) fun J24 => letJ (fun (M137 : Mm) => J24 ((0 : Int32), M137)) fun J136 => if v22 = v18 then (w_X4_told M21 (9 : Int32) fun v139 M138 => w_X4_told M138 (3 : Int32) fun v141 M140 => ldA (M140 17 0) 13 v141 fun v142 => if v139 = v142 then (J24 ((1 : Int32), M140)) else (J136 M140)) else (J136 M21)) ) n ((1 : Int32), v2, M1)
set_option maxHeartbeats 8000000 in
set_option maxRecDepth 100000 in
theorem c_L_law2 {p : Program} {l : Launch} {e : Env} {s : State} {m : MethodId} {below : List Frame} {meth : Method} {c : Code} {o : Om} {b L : Nat} {xs : Nat → Int32} {cells slots : Nat} {H : Heap} {locs : List Loc} {M : Mm} {Q : Int32 → Mm → Prop} (hn : 116 ≤ o.2.2.2) (C0 : lw_At p s m meth c b L xs) (hcc : cells ≤ room_1.cells) (hcs : slots ≤ room_1.slots) (hQ : ∀ r M, Q r M → r = 1) (hw : WO o (fun q : Nat => s.heap.size ≤ q) s s.heap H locs M) (h : w_L_law2 L xs M Q) {ls : Array Slot} (hl : lv_has ls 10 [(1, .ref (o.2.1 0 0)), (0, .ref b)]) : W p l e room_1 s m #[Value.ref b] below meth c H locs cells slots (lw_Z below #[Value.ref b] s) (F0 m 36 ls [.ref (o.2.1 17 0)]) := by
  obtain ⟨hx, hb, hr, hml, hown, hts0, hX, hbl, hlocks, hgv⟩ := C0
  have hts : ∀ w ∈ lw_g, w.before #[Value.ref b] s = true := fun w h => hts0 w (lw_g_in w h)
  have hbA : ¬ (fun q : Nat => s.heap.size ≤ q) b := Nat.not_le.mpr hbl
  unfold w_L_law2 at h
  refine lv_astore_n (lv' := [(2, .ref (o.2.1 17 0)), (1, .ref (o.2.1 0 0)), (0, .ref b)]) hx hb dL_law_36 rfl hl (by decide) rfl ?_
  clear hl; clear ls; intro ls hl
  refine lv_iconst (v := 1) hx hb dL_law_37 (by decide) ?_
  refine lv_istore_n (lv' := [(3, .int (1 : Int32)), (2, .ref (o.2.1 17 0)), (1, .ref (o.2.1 0 0)), (0, .ref b)]) hx hb dL_law_38 rfl hl (by decide) rfl ?_
  clear hl; clear ls; intro ls hl
  refine lv_aload_n hx hb dL_law_39 rfl (lv_at hl 2 rfl) ?_
  refine lv_iconst (v := 0) hx hb dL_law_40 (by decide) ?_
  refine g_ci hw (g_runV (As := [.int (0 : Int32)]) (rest := []) hx hb hml hown hts mX4_told vX4_told kL_32 hw 0 0 (ci_0 (by decide)) (bi_0 (by decide) (Nat.le_trans (by decide) hn)) rfl rfl (c_X4_told (Nat.le_trans (by decide) hn) h) rfl rfl ⟨Nat.le_of_ble_eq_true rfl, Nat.le_of_ble_eq_true rfl⟩ rfl hl.1 rfl (Nat.le_of_ble_eq_true rfl) dL_law_41 ⟨hcc, hcs⟩) ?_
  clear h hw; intro v2 M1 H locs hw h
  refine lv_istore (lv' := [(4, .int v2), (3, .int (1 : Int32)), (2, .ref (o.2.1 17 0)), (1, .ref (o.2.1 0 0)), (0, .ref b)]) hx hb dL_law_44 hl (by decide) rfl ?_
  clear hl; clear ls; intro ls hl
  obtain ⟨n, h⟩ := h
  refine letK_W (body := fun K => w_L_law_P2_46 L xs Q K) (fun (x : Int32 × Int32 × Mm) => ∀ (H : Heap) (locs : List Loc) (ls : Array Slot), WO o (fun q : Nat => s.heap.size ≤ q) s s.heap H locs x.2.2 → lv_has ls 10 [(0, .ref b), (1, .ref (o.2.1 0 0)), (2, .ref (o.2.1 17 0)), (3, .int x.1)] → W p l e room_1 s m #[Value.ref b] below meth c H locs cells slots (lw_Z below #[Value.ref b] s) (F0 m 97 ls [])) h ?_ ?_
  · clear h hw hl; clear ls; intro x h H locs ls hw hl
    obtain ⟨v18, v19, M20⟩ := x
    replace hl : lv_has ls 10 [(0, .ref b), (1, .ref (o.2.1 0 0)), (2, .ref (o.2.1 17 0)), (3, .int v18)] := hl
    dsimp only at h hw
    refine lv_aload_n hx hb dL_law_97 rfl (lv_at hl 1 rfl) ?_
    refine g_ci hw (g_runV (As := []) (rest := []) hx hb hml hown hts mX4_enough vX4_enough kL_73 hw 0 0 (ci_0 (by decide)) (bi_0 (by decide) (Nat.le_trans (by decide) hn)) rfl rfl (c_X4_enough (Nat.le_trans (by decide) hn) h) rfl rfl ⟨Nat.le_of_ble_eq_true rfl, Nat.le_of_ble_eq_true rfl⟩ rfl hl.1 rfl (Nat.le_of_ble_eq_true rfl) dL_law_98 ⟨hcc, hcs⟩) ?_
    clear h hw; intro v22 M21 H locs hw h
    refine lv_iload_n hx hb dL_law_101 rfl (lv_at hl 3 rfl) ?_
    refine letJ_W (fun (x : Int32 × Mm) => ∀ (H : Heap) (locs : List Loc) (ls : Array Slot), WO o (fun q : Nat => s.heap.size ≤ q) s s.heap H locs x.2 → lv_has ls 10 [(0, .ref b), (1, .ref (o.2.1 0 0)), (2, .ref (o.2.1 17 0))] → W p l e room_1 s m #[Value.ref b] below meth c H locs cells slots (lw_Z below #[Value.ref b] s) (F0 m 126 ls [.int x.1])) h ?_ ?_
    · clear h hw hl; clear ls; intro x h H locs ls hw hl
      obtain ⟨v23, M25⟩ := x
      replace hl : lv_has ls 10 [(0, .ref b), (1, .ref (o.2.1 0 0)), (2, .ref (o.2.1 17 0))] := hl
      dsimp only at h
      dsimp only at hw
      refine lv_istore (lv' := [(4, .int v23), (0, .ref b), (1, .ref (o.2.1 0 0)), (2, .ref (o.2.1 17 0))]) hx hb dL_law_126 hl (by decide) rfl ?_
      clear hl; clear ls; intro ls hl
      refine lv_iconst (v := 1) hx hb dL_law_128 (by decide) ?_
      refine lv_istore (lv' := [(5, .int (1 : Int32)), (4, .int v23), (0, .ref b), (1, .ref (o.2.1 0 0)), (2, .ref (o.2.1 17 0))]) hx hb dL_law_129 hl (by decide) rfl ?_
      clear hl; clear ls; intro ls hl
      obtain ⟨n, h⟩ := h
      refine letK_W (body := fun K => w_L_law_P2_131 L xs K) (fun (x : Int32 × Int32 × Mm) => ∀ (H : Heap) (locs : List Loc) (ls : Array Slot), WO o (fun q : Nat => s.heap.size ≤ q) s s.heap H locs x.2.2 → lv_has ls 10 [(0, .ref b), (1, .ref (o.2.1 0 0)), (4, .int x.1)] → W p l e room_1 s m #[Value.ref b] below meth c H locs cells slots (lw_Z below #[Value.ref b] s) (F0 m 169 ls [])) h ?_ ?_
      · clear h hw hl; clear ls; intro x h H locs ls hw hl
        obtain ⟨v37, v38, M39⟩ := x
        replace hl : lv_has ls 10 [(0, .ref b), (1, .ref (o.2.1 0 0)), (4, .int v37)] := hl
        dsimp only at h hw
        refine lv_iconst (v := 0) hx hb dL_law_169 (by decide) ?_
        refine lv_istore (lv' := [(5, .int (0 : Int32)), (0, .ref b), (1, .ref (o.2.1 0 0)), (4, .int v37)]) hx hb dL_law_170 hl (by decide) rfl ?_
        clear hl; clear ls; intro ls hl
        refine lv_iconst (v := 0) hx hb dL_law_172 (by decide) ?_
        refine lv_istore (lv' := [(6, .int (0 : Int32)), (5, .int (0 : Int32)), (0, .ref b), (1, .ref (o.2.1 0 0)), (4, .int v37)]) hx hb dL_law_173 hl (by decide) rfl ?_
        clear hl; clear ls; intro ls hl
        obtain ⟨n, h⟩ := h
        refine letK_W (body := fun K => w_L_law_P2_175 L xs v37 K) (fun (x : Int32 × Int32 × Mm) => ∀ (H : Heap) (locs : List Loc) (ls : Array Slot), WO o (fun q : Nat => s.heap.size ≤ q) s s.heap H locs x.2.2 → lv_has ls 10 [(0, .ref b), (1, .ref (o.2.1 0 0)), (4, .int v37), (5, .int x.1)] → W p l e room_1 s m #[Value.ref b] below meth c H locs cells slots (lw_Z below #[Value.ref b] s) (F0 m 204 ls [])) h ?_ ?_
        · clear h hw hl; clear ls; intro x h H locs ls hw hl
          obtain ⟨v51, v52, M53⟩ := x
          replace hl : lv_has ls 10 [(0, .ref b), (1, .ref (o.2.1 0 0)), (4, .int v37), (5, .int v51)] := hl
          dsimp only at h hw
          refine lv_iconst (v := 0) hx hb dL_law_204 (by decide) ?_
          refine lv_istore (lv' := [(6, .int (0 : Int32)), (0, .ref b), (1, .ref (o.2.1 0 0)), (4, .int v37), (5, .int v51)]) hx hb dL_law_205 hl (by decide) rfl ?_
          clear hl; clear ls; intro ls hl
          refine lv_iconst (v := 0) hx hb dL_law_207 (by decide) ?_
          refine lv_istore (lv' := [(7, .int (0 : Int32)), (6, .int (0 : Int32)), (0, .ref b), (1, .ref (o.2.1 0 0)), (4, .int v37), (5, .int v51)]) hx hb dL_law_208 hl (by decide) rfl ?_
          clear hl; clear ls; intro ls hl
          obtain ⟨n, h⟩ := h
          refine letK_W (body := fun K => w_L_law_P2_210 L xs v37 v51 K) (fun (x : Int32 × Int32 × Mm) => ∀ (H : Heap) (locs : List Loc) (ls : Array Slot), WO o (fun q : Nat => s.heap.size ≤ q) s s.heap H locs x.2.2 → lv_has ls 10 [(0, .ref b), (1, .ref (o.2.1 0 0)), (4, .int v37), (5, .int v51), (6, .int x.1)] → W p l e room_1 s m #[Value.ref b] below meth c H locs cells slots (lw_Z below #[Value.ref b] s) (F0 m 238 ls [])) h ?_ ?_
          · clear h hw hl; clear ls; intro x h H locs ls hw hl
            obtain ⟨v65, v66, M67⟩ := x
            replace hl : lv_has ls 10 [(0, .ref b), (1, .ref (o.2.1 0 0)), (4, .int v37), (5, .int v51), (6, .int v65)] := hl
            dsimp only at h hw
            refine lv_iload hx hb dL_law_238 (lv_at hl 2 rfl) ?_
            refine letJ_W (fun (x : Int32 × Mm) => ∀ (H : Heap) (locs : List Loc) (ls : Array Slot), WO o (fun q : Nat => s.heap.size ≤ q) s s.heap H locs x.2 → lv_has ls 10 [(0, .ref b), (1, .ref (o.2.1 0 0)), (5, .int v51)] → W p l e room_1 s m #[Value.ref b] below meth c H locs cells slots (lw_Z below #[Value.ref b] s) (F0 m 266 ls [.int x.1])) h ?_ ?_
            · clear h hw hl; clear ls; intro x h H locs ls hw hl
              obtain ⟨v68, M70⟩ := x
              replace hl : lv_has ls 10 [(0, .ref b), (1, .ref (o.2.1 0 0)), (5, .int v51)] := hl
              dsimp only at h
              dsimp only at hw
              refine lv_istore (lv' := [(4, .int v68), (0, .ref b), (1, .ref (o.2.1 0 0)), (5, .int v51)]) hx hb dL_law_266 hl (by decide) rfl ?_
              clear hl; clear ls; intro ls hl
              refine lv_iconst (v := 0) hx hb dL_law_268 (by decide) ?_
              refine lv_istore (lv' := [(7, .int (0 : Int32)), (4, .int v68), (0, .ref b), (1, .ref (o.2.1 0 0)), (5, .int v51)]) hx hb dL_law_269 hl (by decide) rfl ?_
              clear hl; clear ls; intro ls hl
              obtain ⟨n, h⟩ := h
              refine letK_W (body := fun K => w_L_law_P2_271 L xs v51 K) (fun (x : Int32 × Int32 × Mm) => ∀ (H : Heap) (locs : List Loc) (ls : Array Slot), WO o (fun q : Nat => s.heap.size ≤ q) s s.heap H locs x.2.2 → lv_has ls 10 [(0, .ref b), (1, .ref (o.2.1 0 0)), (4, .int x.1), (5, .int v51)] → W p l e room_1 s m #[Value.ref b] below meth c H locs cells slots (lw_Z below #[Value.ref b] s) (F0 m 328 ls [])) h ?_ ?_
              · clear h hw hl; clear ls; intro x h H locs ls hw hl
                obtain ⟨v85, v86, M87⟩ := x
                replace hl : lv_has ls 10 [(0, .ref b), (1, .ref (o.2.1 0 0)), (4, .int v85), (5, .int v51)] := hl
                dsimp only at h hw
                refine lv_aload_n hx hb dL_law_328 rfl (lv_at hl 0 rfl) ?_
                refine lv_bipush (v := 24) hx hb dL_law_329 (by decide) ?_
                refine g_ci hw (g_runSs (As := [.ref b, .int (24 : Int32)]) (rest := []) hx hb hml hown hts mL_cell sL_cell kL_9 hw hX hbl hbA (c_L_cell (Nat.le_trans (by decide) hn) h) rfl rfl ⟨Nat.le_of_ble_eq_true rfl, Nat.le_of_ble_eq_true rfl⟩ rfl hl.1 rfl (Nat.le_of_ble_eq_true rfl) dL_law_331 ⟨hcc, hcs⟩) ?_
                clear h hw; intro v89 M88 H locs hw h
                refine lv_aload_n hx hb dL_law_334 rfl (lv_at hl 1 rfl) ?_
                refine lv_iconst (v := 5) hx hb dL_law_335 (by decide) ?_
                refine g_ci hw (g_runV (As := [.int (5 : Int32)]) (rest := [.int v89]) hx hb hml hown hts mX4_told vX4_told kL_32 hw 0 0 (ci_0 (by decide)) (bi_0 (by decide) (Nat.le_trans (by decide) hn)) rfl rfl (c_X4_told (Nat.le_trans (by decide) hn) h) rfl rfl ⟨Nat.le_of_ble_eq_true rfl, Nat.le_of_ble_eq_true rfl⟩ rfl hl.1 rfl (Nat.le_of_ble_eq_true rfl) dL_law_336 ⟨hcc, hcs⟩) ?_
                clear h hw; intro v91 M90 H locs hw h
                obtain ⟨hnz, h⟩ := h
                obtain ⟨v92, h0v92⟩ : ∃ z, z = v91 := ⟨_, rfl⟩
                rw [← h0v92] at h hnz
                refine lv_irem hx hb dL_law_339 (by rw [← h0v92]; exact hnz) ?_
                rw [← h0v92]
                clear hnz
                refine g_topi h ?_
                clear h; intro v93 h
                refine lv_istore (lv' := [(7, .int v93), (0, .ref b), (1, .ref (o.2.1 0 0)), (4, .int v85), (5, .int v51)]) hx hb dL_law_340 hl (by decide) rfl ?_
                clear hl; clear ls; intro ls hl
                refine lv_aload_n hx hb dL_law_342 rfl (lv_at hl 2 rfl) ?_
                refine lv_iload hx hb dL_law_343 (lv_at hl 0 rfl) ?_
                refine lv_iconst (v := 0) hx hb dL_law_345 (by decide) ?_
                refine g_ci hw (g_runV (As := [.int v93, .int (0 : Int32)]) (rest := []) hx hb hml hown hts mX4_entry vX4_entry kL_41 hw 0 0 (ci_0 (by decide)) (bi_0 (by decide) (Nat.le_trans (by decide) hn)) rfl rfl (c_X4_entry (Nat.le_trans (by decide) hn) h) rfl rfl ⟨Nat.le_of_ble_eq_true rfl, Nat.le_of_ble_eq_true rfl⟩ rfl hl.1 rfl (Nat.le_of_ble_eq_true rfl) dL_law_346 ⟨hcc, hcs⟩) ?_
                clear h hw; intro v95 M94 H locs hw h
                refine lv_istore (lv' := [(8, .int v95), (7, .int v93), (0, .ref b), (1, .ref (o.2.1 0 0)), (4, .int v85), (5, .int v51)]) hx hb dL_law_349 hl (by decide) rfl ?_
                clear hl; clear ls; intro ls hl
                refine lv_aload_n hx hb dL_law_351 rfl (lv_at hl 3 rfl) ?_
                refine lv_iload hx hb dL_law_352 (lv_at hl 1 rfl) ?_
                refine g_ci hw (g_runV (As := [.int v93]) (rest := []) hx hb hml hown hts mX4_bestDay vX4_bestDay kL_84 hw 0 0 (ci_0 (by decide)) (bi_0 (by decide) (Nat.le_trans (by decide) hn)) rfl rfl (c_X4_bestDay (Nat.le_trans (by decide) hn) h) rfl rfl ⟨Nat.le_of_ble_eq_true rfl, Nat.le_of_ble_eq_true rfl⟩ rfl hl.1 rfl (Nat.le_of_ble_eq_true rfl) dL_law_354 ⟨hcc, hcs⟩) ?_
                clear h hw; intro v97 M96 H locs hw h
                refine lv_istore (lv' := [(9, .int v97), (8, .int v95), (7, .int v93), (0, .ref b), (1, .ref (o.2.1 0 0)), (4, .int v85), (5, .int v51)]) hx hb dL_law_357 hl (by decide) rfl ?_
                clear hl; clear ls; intro ls hl
                refine lv_iload hx hb dL_law_359 (lv_at hl 5 rfl) ?_
                refine letJ_W (fun (x : Int32 × Mm) => ∀ (H : Heap) (locs : List Loc) (ls : Array Slot), WO o (fun q : Nat => s.heap.size ≤ q) s s.heap H locs x.2 → lv_has ls 10 [(1, .ref (o.2.1 0 0)), (5, .int v51), (7, .int v93), (8, .int v95)] → W p l e room_1 s m #[Value.ref b] below meth c H locs cells slots (lw_Z below #[Value.ref b] s) (F0 m 405 ls [.int x.1])) h ?_ ?_
                · clear h hw hl; clear ls; intro x h H locs ls hw hl
                  obtain ⟨v98, M100⟩ := x
                  replace hl : lv_has ls 10 [(1, .ref (o.2.1 0 0)), (5, .int v51), (7, .int v93), (8, .int v95)] := hl
                  dsimp only at h
                  dsimp only at hw
                  refine lv_istore (lv' := [(4, .int v98), (1, .ref (o.2.1 0 0)), (5, .int v51), (7, .int v93), (8, .int v95)]) hx hb dL_law_405 hl (by decide) rfl ?_
                  clear hl; clear ls; intro ls hl
                  refine lv_iload hx hb dL_law_407 (lv_at hl 0 rfl) ?_
                  refine letJ_W (fun (x : Int32 × Mm) => ∀ (H : Heap) (locs : List Loc) (ls : Array Slot), WO o (fun q : Nat => s.heap.size ≤ q) s s.heap H locs x.2 → lv_has ls 10 [(1, .ref (o.2.1 0 0)), (5, .int v51), (7, .int v93), (8, .int v95)] → W p l e room_1 s m #[Value.ref b] below meth c H locs cells slots (lw_Z below #[Value.ref b] s) (F0 m 462 ls [.int x.1])) h ?_ ?_
                  · clear h hw hl; clear ls; intro x h H locs ls hw hl
                    obtain ⟨v101, M103⟩ := x
                    replace hl : lv_has ls 10 [(1, .ref (o.2.1 0 0)), (5, .int v51), (7, .int v93), (8, .int v95)] := hl
                    dsimp only at h
                    dsimp only at hw
                    refine lv_istore (lv' := [(4, .int v101), (1, .ref (o.2.1 0 0)), (5, .int v51), (7, .int v93), (8, .int v95)]) hx hb dL_law_462 hl (by decide) rfl ?_
                    clear hl; clear ls; intro ls hl
                    refine lv_iload hx hb dL_law_464 (lv_at hl 0 rfl) ?_
                    refine g_if_eq (tgt := 503) hx hb h dL_law_466 (by decide) ?_ ?_
                    · clear h; intro h
                      refine lv_iconst (v := 0) hx hb dL_law_503 (by decide) ?_
                      exact law_end hx hb hr hlocks hcc hcs hw hQ h dL_law_504
                    · clear h; intro h
                      refine lv_aload_n hx hb dL_law_469 rfl (lv_at hl 1 rfl) ?_
                      refine g_ci hw (g_runV (As := []) (rest := []) hx hb hml hown hts mX4_undo vX4_undo kL_90 hw 0 0 (ci_0 (by decide)) (bi_0 (by decide) (Nat.le_trans (by decide) hn)) rfl rfl (c_X4_undo (Nat.le_trans (by decide) hn) h) rfl rfl ⟨Nat.le_of_ble_eq_true rfl, Nat.le_of_ble_eq_true rfl⟩ rfl hl.1 rfl (Nat.le_of_ble_eq_true rfl) dL_law_470 ⟨hcc, hcs⟩) ?_
                      clear h hw; intro v105 M104 H locs hw h
                      refine g_if_lt (tgt := 503) hx hb h dL_law_473 (by decide) ?_ ?_
                      · clear h; intro h
                        refine lv_iconst (v := 0) hx hb dL_law_503 (by decide) ?_
                        exact law_end hx hb hr hlocks hcc hcs hw hQ h dL_law_504
                      · clear h; intro h
                        refine lv_aload_n hx hb dL_law_476 rfl (lv_at hl 1 rfl) ?_
                        refine lv_bipush (v := 9) hx hb dL_law_477 (by decide) ?_
                        refine g_ci hw (g_runV (As := [.int (9 : Int32)]) (rest := []) hx hb hml hown hts mX4_told vX4_told kL_32 hw 0 0 (ci_0 (by decide)) (bi_0 (by decide) (Nat.le_trans (by decide) hn)) rfl rfl (c_X4_told (Nat.le_trans (by decide) hn) h) rfl rfl ⟨Nat.le_of_ble_eq_true rfl, Nat.le_of_ble_eq_true rfl⟩ rfl hl.1 rfl (Nat.le_of_ble_eq_true rfl) dL_law_479 ⟨hcc, hcs⟩) ?_
                        clear h hw; intro v107 M106 H locs hw h
                        refine lv_iload hx hb dL_law_482 (lv_at hl 2 rfl) ?_
                        refine g_icmp_ne (tgt := 503) hx hb h dL_law_484 (by decide) ?_ ?_
                        · clear h; intro h
                          refine lv_iconst (v := 0) hx hb dL_law_503 (by decide) ?_
                          exact law_end hx hb hr hlocks hcc hcs hw hQ h dL_law_504
                        · clear h; intro h
                          refine lv_aload_n hx hb dL_law_487 rfl (lv_at hl 1 rfl) ?_
                          refine lv_iload hx hb dL_law_488 (lv_at hl 3 rfl) ?_
                          refine lv_iconst (v := 0) hx hb dL_law_490 (by decide) ?_
                          refine g_ci hw (g_runV (As := [.int v93, .int (0 : Int32)]) (rest := []) hx hb hml hown hts mX4_entry vX4_entry kL_41 hw 0 0 (ci_0 (by decide)) (bi_0 (by decide) (Nat.le_trans (by decide) hn)) rfl rfl (c_X4_entry (Nat.le_trans (by decide) hn) h) rfl rfl ⟨Nat.le_of_ble_eq_true rfl, Nat.le_of_ble_eq_true rfl⟩ rfl hl.1 rfl (Nat.le_of_ble_eq_true rfl) dL_law_491 ⟨hcc, hcs⟩) ?_
                          clear h hw; intro v109 M108 H locs hw h
                          refine lv_iload hx hb dL_law_494 (lv_at hl 4 rfl) ?_
                          refine g_icmp_ne (tgt := 503) hx hb h dL_law_496 (by decide) ?_ ?_
                          · clear h; intro h
                            refine lv_iconst (v := 0) hx hb dL_law_503 (by decide) ?_
                            exact law_end hx hb hr hlocks hcc hcs hw hQ h dL_law_504
                          · clear h; intro h
                            refine lv_iconst (v := 1) hx hb dL_law_499 (by decide) ?_
                            refine lv_goto (tgt := 504) hx hb dL_law_500 (by decide) ?_
                            exact law_end hx hb hr hlocks hcc hcs hw hQ h dL_law_504
                  clear h; intro J102 hJ102 h
                  refine letJ_W (fun (x : Mm) => ∀ (H : Heap) (locs : List Loc) (ls : Array Slot), WO o (fun q : Nat => s.heap.size ≤ q) s s.heap H locs x → lv_has ls 10 [(1, .ref (o.2.1 0 0)), (5, .int v51), (7, .int v93), (8, .int v95)] → W p l e room_1 s m #[Value.ref b] below meth c H locs cells slots (lw_Z below #[Value.ref b] s) (F0 m 461 ls [])) h ?_ ?_
                  · clear h hw hl; clear ls; intro x h H locs ls hw hl
                    obtain ⟨M111, rfl⟩ : ∃ z, z = x := ⟨_, rfl⟩
                    replace hl : lv_has ls 10 [(1, .ref (o.2.1 0 0)), (5, .int v51), (7, .int v93), (8, .int v95)] := hl
                    refine lv_iconst (v := 0) hx hb dL_law_461 (by decide) ?_
                    exact hJ102 ((0 : Int32), M111) h _ _ _ hw (lv_sub hl [0, 1, 2, 3] rfl)
                  clear h; intro J110 hJ110 h
                  refine g_if_eq (tgt := 461) hx hb h dL_law_409 (by decide) ?_ ?_
                  · clear h; intro h
                    exact hJ110 M100 h _ _ _ hw (lv_sub hl [1, 2, 3, 4] rfl)
                  · clear h; intro h
                    refine lv_iload hx hb dL_law_412 (lv_at hl 4 rfl) ?_
                    refine lv_aload_n hx hb dL_law_414 rfl (lv_at hl 1 rfl) ?_
                    refine lv_iconst (v := 0) hx hb dL_law_415 (by decide) ?_
                    refine g_ci hw (g_runV (As := [.int (0 : Int32)]) (rest := [.int v95]) hx hb hml hown hts mX4_told vX4_told kL_32 hw 0 0 (ci_0 (by decide)) (bi_0 (by decide) (Nat.le_trans (by decide) hn)) rfl rfl (c_X4_told (Nat.le_trans (by decide) hn) h) rfl rfl ⟨Nat.le_of_ble_eq_true rfl, Nat.le_of_ble_eq_true rfl⟩ rfl hl.1 rfl (Nat.le_of_ble_eq_true rfl) dL_law_416 ⟨hcc, hcs⟩) ?_
                    clear h hw; intro v113 M112 H locs hw h
                    refine letJ_W (fun (x : Mm) => ∀ (H : Heap) (locs : List Loc) (ls : Array Slot), WO o (fun q : Nat => s.heap.size ≤ q) s s.heap H locs x → lv_has ls 10 [(1, .ref (o.2.1 0 0)), (5, .int v51), (7, .int v93), (8, .int v95)] → W p l e room_1 s m #[Value.ref b] below meth c H locs cells slots (lw_Z below #[Value.ref b] s) (F0 m 443 ls [])) h ?_ ?_
                    · clear h hw hl; clear ls; intro x h H locs ls hw hl
                      obtain ⟨M115, rfl⟩ : ∃ z, z = x := ⟨_, rfl⟩
                      replace hl : lv_has ls 10 [(1, .ref (o.2.1 0 0)), (5, .int v51), (7, .int v93), (8, .int v95)] := hl
                      refine lv_aload_n hx hb dL_law_443 rfl (lv_at hl 0 rfl) ?_
                      refine g_cz hw (g_runS (As := [.ref (o.2.1 0 0)]) (rest := []) hx hb hml hown hts mL_weeks sL_weeks kL_63 hw (c_L_weeks (Nat.le_trans (by decide) hn) h) rfl rfl ⟨Nat.le_of_ble_eq_true rfl, Nat.le_of_ble_eq_true rfl⟩ rfl hl.1 rfl (Nat.le_of_ble_eq_true rfl) dL_law_444 ⟨hcc, hcs⟩) ?_
                      clear h hw; intro v117 M116 H locs hw hz_v117 h
                      refine g_if_eq (tgt := 461) hx hb h dL_law_447 (by decide) ?_ ?_
                      · clear h; intro h
                        exact hJ110 M116 h _ _ _ hw (lv_sub hl [0, 1, 2, 3] rfl)
                      · clear h; intro h
                        refine lv_aload_n hx hb dL_law_450 rfl (lv_at hl 0 rfl) ?_
                        refine g_cz hw (g_runS (As := [.ref (o.2.1 0 0)]) (rest := []) hx hb hml hown hts mL_bars sL_bars kL_67 hw (c_L_bars (Nat.le_trans (by decide) hn) h) rfl rfl ⟨Nat.le_of_ble_eq_true rfl, Nat.le_of_ble_eq_true rfl⟩ rfl hl.1 rfl (Nat.le_of_ble_eq_true rfl) dL_law_451 ⟨hcc, hcs⟩) ?_
                        clear h hw; intro v119 M118 H locs hw hz_v119 h
                        refine g_if_eq (tgt := 461) hx hb h dL_law_454 (by decide) ?_ ?_
                        · clear h; intro h
                          exact hJ110 M118 h _ _ _ hw (lv_sub hl [0, 1, 2, 3] rfl)
                        · clear h; intro h
                          refine lv_iconst (v := 1) hx hb dL_law_457 (by decide) ?_
                          refine lv_goto (tgt := 462) hx hb dL_law_458 (by decide) ?_
                          exact hJ102 ((1 : Int32), M118) h _ _ _ hw (lv_sub hl [0, 1, 2, 3] rfl)
                    clear h; intro J114 hJ114 h
                    refine g_icmp_lt (tgt := 443) hx hb h dL_law_419 (by decide) ?_ ?_
                    · clear h; intro h
                      exact hJ114 M112 h _ _ _ hw (lv_sub hl [1, 2, 3, 4] rfl)
                    · clear h; intro h
                      refine lv_iload hx hb dL_law_422 (lv_at hl 4 rfl) ?_
                      refine lv_aload_n hx hb dL_law_424 rfl (lv_at hl 1 rfl) ?_
                      refine lv_iconst (v := 1) hx hb dL_law_425 (by decide) ?_
                      refine g_ci hw (g_runV (As := [.int (1 : Int32)]) (rest := [.int v95]) hx hb hml hown hts mX4_told vX4_told kL_32 hw 0 0 (ci_0 (by decide)) (bi_0 (by decide) (Nat.le_trans (by decide) hn)) rfl rfl (c_X4_told (Nat.le_trans (by decide) hn) h) rfl rfl ⟨Nat.le_of_ble_eq_true rfl, Nat.le_of_ble_eq_true rfl⟩ rfl hl.1 rfl (Nat.le_of_ble_eq_true rfl) dL_law_426 ⟨hcc, hcs⟩) ?_
                      clear h hw; intro v121 M120 H locs hw h
                      refine g_icmp_gt (tgt := 443) hx hb h dL_law_429 (by decide) ?_ ?_
                      · clear h; intro h
                        exact hJ114 M120 h _ _ _ hw (lv_sub hl [1, 2, 3, 4] rfl)
                      · clear h; intro h
                        refine lv_aload_n hx hb dL_law_432 rfl (lv_at hl 1 rfl) ?_
                        refine lv_bipush (v := 9) hx hb dL_law_433 (by decide) ?_
                        refine g_ci hw (g_runV (As := [.int (9 : Int32)]) (rest := []) hx hb hml hown hts mX4_told vX4_told kL_32 hw 0 0 (ci_0 (by decide)) (bi_0 (by decide) (Nat.le_trans (by decide) hn)) rfl rfl (c_X4_told (Nat.le_trans (by decide) hn) h) rfl rfl ⟨Nat.le_of_ble_eq_true rfl, Nat.le_of_ble_eq_true rfl⟩ rfl hl.1 rfl (Nat.le_of_ble_eq_true rfl) dL_law_435 ⟨hcc, hcs⟩) ?_
                        clear h hw; intro v123 M122 H locs hw h
                        refine lv_iload hx hb dL_law_438 (lv_at hl 2 rfl) ?_
                        refine g_icmp_gt (tgt := 461) hx hb h dL_law_440 (by decide) ?_ ?_
                        · clear h; intro h
                          exact hJ110 M122 h _ _ _ hw (lv_sub hl [1, 2, 3, 4] rfl)
                        · clear h; intro h
                          exact hJ114 M122 h _ _ _ hw (lv_sub hl [1, 2, 3, 4] rfl)
                clear h; intro J99 hJ99 h
                refine letJ_W (fun (x : Mm) => ∀ (H : Heap) (locs : List Loc) (ls : Array Slot), WO o (fun q : Nat => s.heap.size ≤ q) s s.heap H locs x → lv_has ls 10 [(1, .ref (o.2.1 0 0)), (5, .int v51), (7, .int v93), (8, .int v95)] → W p l e room_1 s m #[Value.ref b] below meth c H locs cells slots (lw_Z below #[Value.ref b] s) (F0 m 404 ls [])) h ?_ ?_
                · clear h hw hl; clear ls; intro x h H locs ls hw hl
                  obtain ⟨M125, rfl⟩ : ∃ z, z = x := ⟨_, rfl⟩
                  replace hl : lv_has ls 10 [(1, .ref (o.2.1 0 0)), (5, .int v51), (7, .int v93), (8, .int v95)] := hl
                  refine lv_iconst (v := 0) hx hb dL_law_404 (by decide) ?_
                  exact hJ99 ((0 : Int32), M125) h _ _ _ hw (lv_sub hl [0, 1, 2, 3] rfl)
                clear h; intro J124 hJ124 h
                refine g_if_eq (tgt := 404) hx hb h dL_law_361 (by decide) ?_ ?_
                · clear h; intro h
                  exact hJ124 M96 h _ _ _ hw (lv_sub hl [4, 6, 2, 1] rfl)
                · clear h; intro h
                  refine lv_iload hx hb dL_law_364 (lv_at hl 0 rfl) ?_
                  refine lv_aload_n hx hb dL_law_366 rfl (lv_at hl 4 rfl) ?_
                  refine lv_iconst (v := 0) hx hb dL_law_367 (by decide) ?_
                  refine g_ci hw (g_runV (As := [.int (0 : Int32)]) (rest := [.int v97]) hx hb hml hown hts mX4_told vX4_told kL_32 hw 0 0 (ci_0 (by decide)) (bi_0 (by decide) (Nat.le_trans (by decide) hn)) rfl rfl (c_X4_told (Nat.le_trans (by decide) hn) h) rfl rfl ⟨Nat.le_of_ble_eq_true rfl, Nat.le_of_ble_eq_true rfl⟩ rfl hl.1 rfl (Nat.le_of_ble_eq_true rfl) dL_law_368 ⟨hcc, hcs⟩) ?_
                  clear h hw; intro v127 M126 H locs hw h
                  refine g_icmp_lt (tgt := 404) hx hb h dL_law_371 (by decide) ?_ ?_
                  · clear h; intro h
                    exact hJ124 M126 h _ _ _ hw (lv_sub hl [4, 6, 2, 1] rfl)
                  · clear h; intro h
                    refine lv_iload hx hb dL_law_374 (lv_at hl 0 rfl) ?_
                    refine lv_aload_n hx hb dL_law_376 rfl (lv_at hl 4 rfl) ?_
                    refine lv_iconst (v := 1) hx hb dL_law_377 (by decide) ?_
                    refine g_ci hw (g_runV (As := [.int (1 : Int32)]) (rest := [.int v97]) hx hb hml hown hts mX4_told vX4_told kL_32 hw 0 0 (ci_0 (by decide)) (bi_0 (by decide) (Nat.le_trans (by decide) hn)) rfl rfl (c_X4_told (Nat.le_trans (by decide) hn) h) rfl rfl ⟨Nat.le_of_ble_eq_true rfl, Nat.le_of_ble_eq_true rfl⟩ rfl hl.1 rfl (Nat.le_of_ble_eq_true rfl) dL_law_378 ⟨hcc, hcs⟩) ?_
                    clear h hw; intro v129 M128 H locs hw h
                    refine g_icmp_gt (tgt := 404) hx hb h dL_law_381 (by decide) ?_ ?_
                    · clear h; intro h
                      exact hJ124 M128 h _ _ _ hw (lv_sub hl [4, 6, 2, 1] rfl)
                    · clear h; intro h
                      refine lv_aload_n hx hb dL_law_384 rfl (lv_at hl 4 rfl) ?_
                      refine lv_iload hx hb dL_law_385 (lv_at hl 2 rfl) ?_
                      refine lv_iload hx hb dL_law_387 (lv_at hl 0 rfl) ?_
                      refine lv_iload hx hb dL_law_389 (lv_at hl 1 rfl) ?_
                      refine lv_isub hx hb dL_law_391 ?_
                      refine g_ci hw (g_runV (As := [.int v93, .int (v97 - v95)]) (rest := []) hx hb hml hown hts mX4_move vX4_move kL_87 hw 0 0 (ci_0 (by decide)) (bi_0 (by decide) (Nat.le_trans (by decide) hn)) rfl rfl (c_X4_move (Nat.le_trans (by decide) hn) h) rfl rfl ⟨Nat.le_of_ble_eq_true rfl, Nat.le_of_ble_eq_true rfl⟩ rfl hl.1 rfl (Nat.le_of_ble_eq_true rfl) dL_law_392 ⟨hcc, hcs⟩) ?_
                      clear h hw; intro v131 M130 H locs hw h
                      refine lv_iload hx hb dL_law_395 (lv_at hl 0 rfl) ?_
                      refine g_icmp_ne (tgt := 404) hx hb h dL_law_397 (by decide) ?_ ?_
                      · clear h; intro h
                        exact hJ124 M130 h _ _ _ hw (lv_sub hl [4, 6, 2, 1] rfl)
                      · clear h; intro h
                        refine lv_iconst (v := 1) hx hb dL_law_400 (by decide) ?_
                        refine lv_goto (tgt := 405) hx hb dL_law_401 (by decide) ?_
                        exact hJ99 ((1 : Int32), M130) h _ _ _ hw (lv_sub hl [4, 6, 2, 1] rfl)
              clear h; intro K74 hK74 h
              refine loop_W (body := w_L_law_P2_271 L xs v51 K74) (fun (x : Int32 × Int32 × Mm) => ∀ (H : Heap) (locs : List Loc) (ls : Array Slot), WO o (fun q : Nat => s.heap.size ≤ q) s s.heap H locs x.2.2 → lv_has ls 10 [(0, .ref b), (1, .ref (o.2.1 0 0)), (4, .int x.1), (5, .int v51), (7, .int x.2.1)] → W p l e room_1 s m #[Value.ref b] below meth c H locs cells slots (lw_Z below #[Value.ref b] s) (F0 m 271 ls [])) ?_ n _ h _ _ _ hw (lv_sub hl [2, 3, 1, 4, 0] rfl)
              clear h hw hl; clear ls; intro R75 x hR75 h H locs ls hw hl
              obtain ⟨v71, v72, M73⟩ := x
              replace hl : lv_has ls 10 [(0, .ref b), (1, .ref (o.2.1 0 0)), (4, .int v71), (5, .int v51), (7, .int v72)] := hl
              dsimp only at hw
              unfold w_L_law_P2_271 at h
              dsimp only at h
              refine lv_iload hx hb dL_law_271 (lv_at hl 4 rfl) ?_
              refine lv_iconst (v := 4) hx hb dL_law_273 (by decide) ?_
              refine g_icmp_ge (tgt := 328) hx hb h dL_law_274 (by decide) ?_ ?_
              · clear h; intro h
                exact hK74 (v71, v72, M73) h _ _ _ hw (lv_sub hl [0, 1, 2, 3] rfl)
              · clear h; intro h
                refine lv_iload hx hb dL_law_277 (lv_at hl 2 rfl) ?_
                refine g_if_eq (tgt := 319) hx hb h dL_law_279 (by decide) ?_ ?_
                · clear h; intro h
                  refine lv_iconst (v := 0) hx hb dL_law_319 (by decide) ?_
                  refine lv_istore (lv' := [(4, .int (0 : Int32)), (0, .ref b), (1, .ref (o.2.1 0 0)), (5, .int v51), (7, .int v72)]) hx hb dL_law_320 hl (by decide) rfl ?_
                  clear hl; clear ls; intro ls hl
                  refine g_iinc (k := 4) (v := (v72 + (1 : Int32))) (lv' := fun v76 => [(7, .int v76), (4, .int (0 : Int32)), (0, .ref b), (1, .ref (o.2.1 0 0)), (5, .int v51)]) hx hb dL_law_322 hl rfl rfl (by decide) (fun _ => rfl) h ?_
                  clear h hl; clear ls; intro v76 ls h hl
                  refine lv_goto (tgt := 271) hx hb dL_law_325 (by decide) ?_
                  exact hR75 ((0 : Int32), v76, M73) h _ _ _ hw (lv_sub hl [2, 3, 1, 4, 0] rfl)
                · clear h; intro h
                  refine lv_aload_n hx hb dL_law_282 rfl (lv_at hl 1 rfl) ?_
                  refine lv_iconst (v := 1) hx hb dL_law_283 (by decide) ?_
                  refine lv_aload_n hx hb dL_law_284 rfl (lv_at hl 0 rfl) ?_
                  refine lv_bipush (v := 20) hx hb dL_law_285 (by decide) ?_
                  refine lv_iload hx hb dL_law_287 (lv_at hl 4 rfl) ?_
                  refine lv_iadd hx hb dL_law_289 ?_
                  refine g_ci hw (g_runSs (As := [.ref b, .int ((20 : Int32) + v72)]) (rest := [.int (1 : Int32), .ref (o.2.1 0 0)]) hx hb hml hown hts mL_cell sL_cell kL_9 hw hX hbl hbA (c_L_cell (Nat.le_trans (by decide) hn) h) rfl rfl ⟨Nat.le_of_ble_eq_true rfl, Nat.le_of_ble_eq_true rfl⟩ rfl hl.1 rfl (Nat.le_of_ble_eq_true rfl) dL_law_290 ⟨hcc, hcs⟩) ?_
                  clear h hw; intro v78 M77 H locs hw h
                  refine lv_bipush (v := 9) hx hb dL_law_293 (by decide) ?_
                  refine lv_irem hx hb dL_law_295 (by decide) ?_
                  refine lv_iadd hx hb dL_law_296 ?_
                  refine lv_iload hx hb dL_law_297 (lv_at hl 4 rfl) ?_
                  refine lv_iconst (v := 2) hx hb dL_law_299 (by decide) ?_
                  refine lv_irem hx hb dL_law_300 (by decide) ?_
                  refine letJ_W (fun (x : Int32) => ∀ (H : Heap) (locs : List Loc) (ls : Array Slot), WO o (fun q : Nat => s.heap.size ≤ q) s s.heap H locs M77 → lv_has ls 10 [(0, .ref b), (1, .ref (o.2.1 0 0)), (5, .int v51), (7, .int v72)] → W p l e room_1 s m #[Value.ref b] below meth c H locs cells slots (lw_Z below #[Value.ref b] s) (F0 m 309 ls [.int x, .int ((1 : Int32) + (v78 - v78 / (9 : Int32) * (9 : Int32))), .ref (o.2.1 0 0)])) h ?_ ?_
                  · clear h hw hl; clear ls; intro x h H locs ls hw hl
                    obtain ⟨v79, rfl⟩ : ∃ z, z = x := ⟨_, rfl⟩
                    replace hl : lv_has ls 10 [(0, .ref b), (1, .ref (o.2.1 0 0)), (5, .int v51), (7, .int v72)] := hl
                    refine g_cz hw (g_runS (As := [.ref (o.2.1 0 0), .int ((1 : Int32) + (v78 - v78 / (9 : Int32) * (9 : Int32))), .int v79]) (rest := []) hx hb hml hown hts mL_frees sL_frees kL_80 hw (c_L_frees (Nat.le_trans (by decide) hn) h) rfl rfl ⟨Nat.le_of_ble_eq_true rfl, Nat.le_of_ble_eq_true rfl⟩ rfl hl.1 rfl (Nat.le_of_ble_eq_true rfl) dL_law_309 ⟨hcc, hcs⟩) ?_
                    clear h hw; intro v82 M81 H locs hw hz_v82 h
                    refine g_if_eq (tgt := 319) hx hb h dL_law_312 (by decide) ?_ ?_
                    · clear h; intro h
                      refine lv_iconst (v := 0) hx hb dL_law_319 (by decide) ?_
                      refine lv_istore (lv' := [(4, .int (0 : Int32)), (0, .ref b), (1, .ref (o.2.1 0 0)), (5, .int v51), (7, .int v72)]) hx hb dL_law_320 hl (by decide) rfl ?_
                      clear hl; clear ls; intro ls hl
                      refine g_iinc (k := 4) (v := (v72 + (1 : Int32))) (lv' := fun v83 => [(7, .int v83), (4, .int (0 : Int32)), (0, .ref b), (1, .ref (o.2.1 0 0)), (5, .int v51)]) hx hb dL_law_322 hl rfl rfl (by decide) (fun _ => rfl) h ?_
                      clear h hl; clear ls; intro v83 ls h hl
                      refine lv_goto (tgt := 271) hx hb dL_law_325 (by decide) ?_
                      exact hR75 ((0 : Int32), v83, M81) h _ _ _ hw (lv_sub hl [2, 3, 1, 4, 0] rfl)
                    · clear h; intro h
                      refine lv_iconst (v := 1) hx hb dL_law_315 (by decide) ?_
                      refine lv_goto (tgt := 320) hx hb dL_law_316 (by decide) ?_
                      refine lv_istore (lv' := [(4, .int (1 : Int32)), (0, .ref b), (1, .ref (o.2.1 0 0)), (5, .int v51), (7, .int v72)]) hx hb dL_law_320 hl (by decide) rfl ?_
                      clear hl; clear ls; intro ls hl
                      refine g_iinc (k := 4) (v := (v72 + (1 : Int32))) (lv' := fun v84 => [(7, .int v84), (4, .int (1 : Int32)), (0, .ref b), (1, .ref (o.2.1 0 0)), (5, .int v51)]) hx hb dL_law_322 hl rfl rfl (by decide) (fun _ => rfl) h ?_
                      clear h hl; clear ls; intro v84 ls h hl
                      refine lv_goto (tgt := 271) hx hb dL_law_325 (by decide) ?_
                      exact hR75 ((1 : Int32), v84, M81) h _ _ _ hw (lv_sub hl [2, 3, 1, 4, 0] rfl)
                  clear h; intro J80 hJ80 h
                  refine g_if_ne (tgt := 308) hx hb h dL_law_301 (by decide) ?_ ?_
                  · clear h; intro h
                    refine lv_iconst (v := 0) hx hb dL_law_308 (by decide) ?_
                    exact hJ80 (0 : Int32) h _ _ _ hw (lv_sub hl [0, 1, 3, 4] rfl)
                  · clear h; intro h
                    refine lv_iconst (v := 1) hx hb dL_law_304 (by decide) ?_
                    refine lv_goto (tgt := 309) hx hb dL_law_305 (by decide) ?_
                    exact hJ80 (1 : Int32) h _ _ _ hw (lv_sub hl [0, 1, 3, 4] rfl)
            clear h; intro J69 hJ69 h
            refine letJ_W (fun (x : Mm) => ∀ (H : Heap) (locs : List Loc) (ls : Array Slot), WO o (fun q : Nat => s.heap.size ≤ q) s s.heap H locs x → lv_has ls 10 [(0, .ref b), (1, .ref (o.2.1 0 0)), (5, .int v51)] → W p l e room_1 s m #[Value.ref b] below meth c H locs cells slots (lw_Z below #[Value.ref b] s) (F0 m 265 ls [])) h ?_ ?_
            · clear h hw hl; clear ls; intro x h H locs ls hw hl
              obtain ⟨M133, rfl⟩ : ∃ z, z = x := ⟨_, rfl⟩
              replace hl : lv_has ls 10 [(0, .ref b), (1, .ref (o.2.1 0 0)), (5, .int v51)] := hl
              refine lv_iconst (v := 0) hx hb dL_law_265 (by decide) ?_
              exact hJ69 ((0 : Int32), M133) h _ _ _ hw (lv_sub hl [0, 1, 2] rfl)
            clear h; intro J132 hJ132 h
            refine g_if_eq (tgt := 265) hx hb h dL_law_240 (by decide) ?_ ?_
            · clear h; intro h
              exact hJ132 M67 h _ _ _ hw (lv_sub hl [0, 1, 3] rfl)
            · clear h; intro h
              refine lv_iload hx hb dL_law_243 (lv_at hl 3 rfl) ?_
              refine lv_aload_n hx hb dL_law_245 rfl (lv_at hl 1 rfl) ?_
              refine lv_bipush (v := 9) hx hb dL_law_246 (by decide) ?_
              refine g_ci hw (g_runV (As := [.int (9 : Int32)]) (rest := [.int v51]) hx hb hml hown hts mX4_told vX4_told kL_32 hw 0 0 (ci_0 (by decide)) (bi_0 (by decide) (Nat.le_trans (by decide) hn)) rfl rfl (c_X4_told (Nat.le_trans (by decide) hn) h) rfl rfl ⟨Nat.le_of_ble_eq_true rfl, Nat.le_of_ble_eq_true rfl⟩ rfl hl.1 rfl (Nat.le_of_ble_eq_true rfl) dL_law_248 ⟨hcc, hcs⟩) ?_
              clear h hw; intro v135 M134 H locs hw h
              refine g_icmp_ne (tgt := 265) hx hb h dL_law_251 (by decide) ?_ ?_
              · clear h; intro h
                exact hJ132 M134 h _ _ _ hw (lv_sub hl [0, 1, 3] rfl)
              · clear h; intro h
                refine lv_iload hx hb dL_law_254 (lv_at hl 4 rfl) ?_
                refine lv_iload hx hb dL_law_256 (lv_at hl 3 rfl) ?_
                refine g_icmp_ne (tgt := 265) hx hb h dL_law_258 (by decide) ?_ ?_
                · clear h; intro h
                  exact hJ132 M134 h _ _ _ hw (lv_sub hl [0, 1, 3] rfl)
                · clear h; intro h
                  refine lv_iconst (v := 1) hx hb dL_law_261 (by decide) ?_
                  refine lv_goto (tgt := 266) hx hb dL_law_262 (by decide) ?_
                  exact hJ69 ((1 : Int32), M134) h _ _ _ hw (lv_sub hl [0, 1, 3] rfl)
          clear h; intro K57 hK57 h
          refine loop_W (body := w_L_law_P2_210 L xs v37 v51 K57) (fun (x : Int32 × Int32 × Mm) => ∀ (H : Heap) (locs : List Loc) (ls : Array Slot), WO o (fun q : Nat => s.heap.size ≤ q) s s.heap H locs x.2.2 → lv_has ls 10 [(0, .ref b), (1, .ref (o.2.1 0 0)), (4, .int v37), (5, .int v51), (6, .int x.1), (7, .int x.2.1)] → W p l e room_1 s m #[Value.ref b] below meth c H locs cells slots (lw_Z below #[Value.ref b] s) (F0 m 210 ls [])) ?_ n _ h _ _ _ hw (lv_sub hl [2, 3, 4, 5, 1, 0] rfl)
          clear h hw hl; clear ls; intro R58 x hR58 h H locs ls hw hl
          obtain ⟨v54, v55, M56⟩ := x
          replace hl : lv_has ls 10 [(0, .ref b), (1, .ref (o.2.1 0 0)), (4, .int v37), (5, .int v51), (6, .int v54), (7, .int v55)] := hl
          dsimp only at hw
          unfold w_L_law_P2_210 at h
          dsimp only at h
          refine lv_iload hx hb dL_law_210 (lv_at hl 5 rfl) ?_
          refine lv_aload_n hx hb dL_law_212 rfl (lv_at hl 1 rfl) ?_
          refine lv_iconst (v := 4) hx hb dL_law_213 (by decide) ?_
          refine g_ci hw (g_runV (As := [.int (4 : Int32)]) (rest := [.int v55]) hx hb hml hown hts mX4_told vX4_told kL_32 hw 0 0 (ci_0 (by decide)) (bi_0 (by decide) (Nat.le_trans (by decide) hn)) rfl rfl (c_X4_told (Nat.le_trans (by decide) hn) h) rfl rfl ⟨Nat.le_of_ble_eq_true rfl, Nat.le_of_ble_eq_true rfl⟩ rfl hl.1 rfl (Nat.le_of_ble_eq_true rfl) dL_law_214 ⟨hcc, hcs⟩) ?_
          clear h hw; intro v60 M59 H locs hw h
          refine g_icmp_ge (tgt := 238) hx hb h dL_law_217 (by decide) ?_ ?_
          · clear h; intro h
            exact hK57 (v54, v55, M59) h _ _ _ hw (lv_sub hl [0, 1, 2, 3, 4] rfl)
          · clear h; intro h
            refine lv_iload hx hb dL_law_220 (lv_at hl 4 rfl) ?_
            refine lv_aload_n hx hb dL_law_222 rfl (lv_at hl 1 rfl) ?_
            refine lv_iload hx hb dL_law_223 (lv_at hl 5 rfl) ?_
            refine lv_iconst (v := 5) hx hb dL_law_225 (by decide) ?_
            refine g_ci hw (g_runV (As := [.int v55, .int (5 : Int32)]) (rest := [.int v54]) hx hb hml hown hts mX4_week vX4_week kL_35 hw 0 0 (ci_0 (by decide)) (bi_0 (by decide) (Nat.le_trans (by decide) hn)) rfl rfl (c_X4_week (Nat.le_trans (by decide) hn) h) rfl rfl ⟨Nat.le_of_ble_eq_true rfl, Nat.le_of_ble_eq_true rfl⟩ rfl hl.1 rfl (Nat.le_of_ble_eq_true rfl) dL_law_226 ⟨hcc, hcs⟩) ?_
            clear h hw; intro v62 M61 H locs hw h
            refine lv_iadd hx hb dL_law_229 ?_
            refine g_topi h ?_
            clear h; intro v63 h
            refine lv_istore (lv' := [(6, .int v63), (0, .ref b), (1, .ref (o.2.1 0 0)), (4, .int v37), (5, .int v51), (7, .int v55)]) hx hb dL_law_230 hl (by decide) rfl ?_
            clear hl; clear ls; intro ls hl
            refine g_iinc (k := 5) (v := (v55 + (1 : Int32))) (lv' := fun v64 => [(7, .int v64), (6, .int v63), (0, .ref b), (1, .ref (o.2.1 0 0)), (4, .int v37), (5, .int v51)]) hx hb dL_law_232 hl rfl rfl (by decide) (fun _ => rfl) h ?_
            clear h hl; clear ls; intro v64 ls h hl
            refine lv_goto (tgt := 210) hx hb dL_law_235 (by decide) ?_
            exact hR58 (v63, v64, M61) h _ _ _ hw (lv_sub hl [2, 3, 4, 5, 1, 0] rfl)
        clear h; intro K43 hK43 h
        refine loop_W (body := w_L_law_P2_175 L xs v37 K43) (fun (x : Int32 × Int32 × Mm) => ∀ (H : Heap) (locs : List Loc) (ls : Array Slot), WO o (fun q : Nat => s.heap.size ≤ q) s s.heap H locs x.2.2 → lv_has ls 10 [(0, .ref b), (1, .ref (o.2.1 0 0)), (4, .int v37), (5, .int x.1), (6, .int x.2.1)] → W p l e room_1 s m #[Value.ref b] below meth c H locs cells slots (lw_Z below #[Value.ref b] s) (F0 m 175 ls [])) ?_ n _ h _ _ _ hw (lv_sub hl [2, 3, 4, 1, 0] rfl)
        clear h hw hl; clear ls; intro R44 x hR44 h H locs ls hw hl
        obtain ⟨v40, v41, M42⟩ := x
        replace hl : lv_has ls 10 [(0, .ref b), (1, .ref (o.2.1 0 0)), (4, .int v37), (5, .int v40), (6, .int v41)] := hl
        dsimp only at hw
        unfold w_L_law_P2_175 at h
        dsimp only at h
        refine lv_iload hx hb dL_law_175 (lv_at hl 4 rfl) ?_
        refine lv_aload_n hx hb dL_law_177 rfl (lv_at hl 1 rfl) ?_
        refine lv_iconst (v := 5) hx hb dL_law_178 (by decide) ?_
        refine g_ci hw (g_runV (As := [.int (5 : Int32)]) (rest := [.int v41]) hx hb hml hown hts mX4_told vX4_told kL_32 hw 0 0 (ci_0 (by decide)) (bi_0 (by decide) (Nat.le_trans (by decide) hn)) rfl rfl (c_X4_told (Nat.le_trans (by decide) hn) h) rfl rfl ⟨Nat.le_of_ble_eq_true rfl, Nat.le_of_ble_eq_true rfl⟩ rfl hl.1 rfl (Nat.le_of_ble_eq_true rfl) dL_law_179 ⟨hcc, hcs⟩) ?_
        clear h hw; intro v46 M45 H locs hw h
        refine g_icmp_ge (tgt := 204) hx hb h dL_law_182 (by decide) ?_ ?_
        · clear h; intro h
          exact hK43 (v40, v41, M45) h _ _ _ hw (lv_sub hl [0, 1, 2, 3] rfl)
        · clear h; intro h
          refine lv_iload hx hb dL_law_185 (lv_at hl 3 rfl) ?_
          refine lv_aload_n hx hb dL_law_187 rfl (lv_at hl 1 rfl) ?_
          refine lv_iload hx hb dL_law_188 (lv_at hl 4 rfl) ?_
          refine lv_bipush (v := 6) hx hb dL_law_190 (by decide) ?_
          refine g_ci hw (g_runV (As := [.int v41, .int (6 : Int32)]) (rest := [.int v40]) hx hb hml hown hts mX4_entry vX4_entry kL_41 hw 0 0 (ci_0 (by decide)) (bi_0 (by decide) (Nat.le_trans (by decide) hn)) rfl rfl (c_X4_entry (Nat.le_trans (by decide) hn) h) rfl rfl ⟨Nat.le_of_ble_eq_true rfl, Nat.le_of_ble_eq_true rfl⟩ rfl hl.1 rfl (Nat.le_of_ble_eq_true rfl) dL_law_192 ⟨hcc, hcs⟩) ?_
          clear h hw; intro v48 M47 H locs hw h
          refine lv_iadd hx hb dL_law_195 ?_
          refine g_topi h ?_
          clear h; intro v49 h
          refine lv_istore (lv' := [(5, .int v49), (0, .ref b), (1, .ref (o.2.1 0 0)), (4, .int v37), (6, .int v41)]) hx hb dL_law_196 hl (by decide) rfl ?_
          clear hl; clear ls; intro ls hl
          refine g_iinc (k := 4) (v := (v41 + (1 : Int32))) (lv' := fun v50 => [(6, .int v50), (5, .int v49), (0, .ref b), (1, .ref (o.2.1 0 0)), (4, .int v37)]) hx hb dL_law_198 hl rfl rfl (by decide) (fun _ => rfl) h ?_
          clear h hl; clear ls; intro v50 ls h hl
          refine lv_goto (tgt := 175) hx hb dL_law_201 (by decide) ?_
          exact hR44 (v49, v50, M47) h _ _ _ hw (lv_sub hl [2, 3, 4, 1, 0] rfl)
      clear h; intro K29 hK29 h
      refine loop_W (body := w_L_law_P2_131 L xs K29) (fun (x : Int32 × Int32 × Mm) => ∀ (H : Heap) (locs : List Loc) (ls : Array Slot), WO o (fun q : Nat => s.heap.size ≤ q) s s.heap H locs x.2.2 → lv_has ls 10 [(0, .ref b), (1, .ref (o.2.1 0 0)), (2, .ref (o.2.1 17 0)), (4, .int x.1), (5, .int x.2.1)] → W p l e room_1 s m #[Value.ref b] below meth c H locs cells slots (lw_Z below #[Value.ref b] s) (F0 m 131 ls [])) ?_ n _ h _ _ _ hw (lv_sub hl [2, 3, 4, 1, 0] rfl)
      clear h hw hl; clear ls; intro R30 x hR30 h H locs ls hw hl
      obtain ⟨v26, v27, M28⟩ := x
      replace hl : lv_has ls 10 [(0, .ref b), (1, .ref (o.2.1 0 0)), (2, .ref (o.2.1 17 0)), (4, .int v26), (5, .int v27)] := hl
      dsimp only at hw
      unfold w_L_law_P2_131 at h
      dsimp only at h
      refine lv_iload hx hb dL_law_131 (lv_at hl 4 rfl) ?_
      refine lv_bipush (v := 12) hx hb dL_law_133 (by decide) ?_
      refine g_icmp_gt (tgt := 169) hx hb h dL_law_135 (by decide) ?_ ?_
      · clear h; intro h
        exact hK29 (v26, v27, M28) h _ _ _ hw (lv_sub hl [0, 1, 3] rfl)
      · clear h; intro h
        refine lv_iload hx hb dL_law_138 (lv_at hl 3 rfl) ?_
        refine g_if_eq (tgt := 160) hx hb h dL_law_140 (by decide) ?_ ?_
        · clear h; intro h
          refine lv_iconst (v := 0) hx hb dL_law_160 (by decide) ?_
          refine lv_istore (lv' := [(4, .int (0 : Int32)), (0, .ref b), (1, .ref (o.2.1 0 0)), (2, .ref (o.2.1 17 0)), (5, .int v27)]) hx hb dL_law_161 hl (by decide) rfl ?_
          clear hl; clear ls; intro ls hl
          refine g_iinc (k := 4) (v := (v27 + (1 : Int32))) (lv' := fun v31 => [(5, .int v31), (4, .int (0 : Int32)), (0, .ref b), (1, .ref (o.2.1 0 0)), (2, .ref (o.2.1 17 0))]) hx hb dL_law_163 hl rfl rfl (by decide) (fun _ => rfl) h ?_
          clear h hl; clear ls; intro v31 ls h hl
          refine lv_goto (tgt := 131) hx hb dL_law_166 (by decide) ?_
          exact hR30 ((0 : Int32), v31, M28) h _ _ _ hw (lv_sub hl [2, 3, 4, 1, 0] rfl)
        · clear h; intro h
          refine lv_aload_n hx hb dL_law_143 rfl (lv_at hl 1 rfl) ?_
          refine lv_iload hx hb dL_law_144 (lv_at hl 4 rfl) ?_
          refine g_ci hw (g_runV (As := [.int v27]) (rest := []) hx hb hml hown hts mX4_ifRows vX4_ifRows kL_77 hw 0 0 (ci_0 (by decide)) (bi_0 (by decide) (Nat.le_trans (by decide) hn)) rfl rfl (c_X4_ifRows (Nat.le_trans (by decide) hn) h) rfl rfl ⟨Nat.le_of_ble_eq_true rfl, Nat.le_of_ble_eq_true rfl⟩ rfl hl.1 rfl (Nat.le_of_ble_eq_true rfl) dL_law_146 ⟨hcc, hcs⟩) ?_
          clear h hw; intro v33 M32 H locs hw h
          refine lv_aload_n hx hb dL_law_149 rfl (lv_at hl 2 rfl) ?_
          refine lv_iload hx hb dL_law_150 (lv_at hl 4 rfl) ?_
          refine g_iald hx hb hw 17 0 (ci_17 (by decide)) (bi_17 (by decide) hn) rfl h dL_law_152 ?_
          clear h; intro v34 h
          refine g_icmp_ne (tgt := 160) hx hb h dL_law_153 (by decide) ?_ ?_
          · clear h; intro h
            refine lv_iconst (v := 0) hx hb dL_law_160 (by decide) ?_
            refine lv_istore (lv' := [(4, .int (0 : Int32)), (0, .ref b), (1, .ref (o.2.1 0 0)), (2, .ref (o.2.1 17 0)), (5, .int v27)]) hx hb dL_law_161 hl (by decide) rfl ?_
            clear hl; clear ls; intro ls hl
            refine g_iinc (k := 4) (v := (v27 + (1 : Int32))) (lv' := fun v35 => [(5, .int v35), (4, .int (0 : Int32)), (0, .ref b), (1, .ref (o.2.1 0 0)), (2, .ref (o.2.1 17 0))]) hx hb dL_law_163 hl rfl rfl (by decide) (fun _ => rfl) h ?_
            clear h hl; clear ls; intro v35 ls h hl
            refine lv_goto (tgt := 131) hx hb dL_law_166 (by decide) ?_
            exact hR30 ((0 : Int32), v35, M32) h _ _ _ hw (lv_sub hl [2, 3, 4, 1, 0] rfl)
          · clear h; intro h
            refine lv_iconst (v := 1) hx hb dL_law_156 (by decide) ?_
            refine lv_goto (tgt := 161) hx hb dL_law_157 (by decide) ?_
            refine lv_istore (lv' := [(4, .int (1 : Int32)), (0, .ref b), (1, .ref (o.2.1 0 0)), (2, .ref (o.2.1 17 0)), (5, .int v27)]) hx hb dL_law_161 hl (by decide) rfl ?_
            clear hl; clear ls; intro ls hl
            refine g_iinc (k := 4) (v := (v27 + (1 : Int32))) (lv' := fun v36 => [(5, .int v36), (4, .int (1 : Int32)), (0, .ref b), (1, .ref (o.2.1 0 0)), (2, .ref (o.2.1 17 0))]) hx hb dL_law_163 hl rfl rfl (by decide) (fun _ => rfl) h ?_
            clear h hl; clear ls; intro v36 ls h hl
            refine lv_goto (tgt := 131) hx hb dL_law_166 (by decide) ?_
            exact hR30 ((1 : Int32), v36, M32) h _ _ _ hw (lv_sub hl [2, 3, 4, 1, 0] rfl)
    clear h; intro J24 hJ24 h
    refine letJ_W (fun (x : Mm) => ∀ (H : Heap) (locs : List Loc) (ls : Array Slot), WO o (fun q : Nat => s.heap.size ≤ q) s s.heap H locs x → lv_has ls 10 [(0, .ref b), (1, .ref (o.2.1 0 0)), (2, .ref (o.2.1 17 0))] → W p l e room_1 s m #[Value.ref b] below meth c H locs cells slots (lw_Z below #[Value.ref b] s) (F0 m 125 ls [])) h ?_ ?_
    · clear h hw hl; clear ls; intro x h H locs ls hw hl
      obtain ⟨M137, rfl⟩ : ∃ z, z = x := ⟨_, rfl⟩
      replace hl : lv_has ls 10 [(0, .ref b), (1, .ref (o.2.1 0 0)), (2, .ref (o.2.1 17 0))] := hl
      refine lv_iconst (v := 0) hx hb dL_law_125 (by decide) ?_
      exact hJ24 ((0 : Int32), M137) h _ _ _ hw (lv_sub hl [0, 1, 2] rfl)
    clear h; intro J136 hJ136 h
    refine g_icmp_ne (tgt := 125) hx hb h dL_law_102 (by decide) ?_ ?_
    · clear h; intro h
      exact hJ136 M21 h _ _ _ hw (lv_sub hl [0, 1, 2] rfl)
    · clear h; intro h
      refine lv_aload_n hx hb dL_law_105 rfl (lv_at hl 1 rfl) ?_
      refine lv_bipush (v := 9) hx hb dL_law_106 (by decide) ?_
      refine g_ci hw (g_runV (As := [.int (9 : Int32)]) (rest := []) hx hb hml hown hts mX4_told vX4_told kL_32 hw 0 0 (ci_0 (by decide)) (bi_0 (by decide) (Nat.le_trans (by decide) hn)) rfl rfl (c_X4_told (Nat.le_trans (by decide) hn) h) rfl rfl ⟨Nat.le_of_ble_eq_true rfl, Nat.le_of_ble_eq_true rfl⟩ rfl hl.1 rfl (Nat.le_of_ble_eq_true rfl) dL_law_108 ⟨hcc, hcs⟩) ?_
      clear h hw; intro v139 M138 H locs hw h
      refine lv_aload_n hx hb dL_law_111 rfl (lv_at hl 2 rfl) ?_
      refine lv_aload_n hx hb dL_law_112 rfl (lv_at hl 1 rfl) ?_
      refine lv_iconst (v := 3) hx hb dL_law_113 (by decide) ?_
      refine g_ci hw (g_runV (As := [.int (3 : Int32)]) (rest := [.ref (o.2.1 17 0), .int v139]) hx hb hml hown hts mX4_told vX4_told kL_32 hw 0 0 (ci_0 (by decide)) (bi_0 (by decide) (Nat.le_trans (by decide) hn)) rfl rfl (c_X4_told (Nat.le_trans (by decide) hn) h) rfl rfl ⟨Nat.le_of_ble_eq_true rfl, Nat.le_of_ble_eq_true rfl⟩ rfl hl.1 rfl (Nat.le_of_ble_eq_true rfl) dL_law_114 ⟨hcc, hcs⟩) ?_
      clear h hw; intro v141 M140 H locs hw h
      refine g_iald hx hb hw 17 0 (ci_17 (by decide)) (bi_17 (by decide) hn) rfl h dL_law_117 ?_
      clear h; intro v142 h
      refine g_icmp_ne (tgt := 125) hx hb h dL_law_118 (by decide) ?_ ?_
      · clear h; intro h
        exact hJ136 M140 h _ _ _ hw (lv_sub hl [0, 1, 2] rfl)
      · clear h; intro h
        refine lv_iconst (v := 1) hx hb dL_law_121 (by decide) ?_
        refine lv_goto (tgt := 126) hx hb dL_law_122 (by decide) ?_
        exact hJ24 ((1 : Int32), M140) h _ _ _ hw (lv_sub hl [0, 1, 2] rfl)
  clear h; intro K6 hK6 h
  refine loop_W (body := w_L_law_P2_46 L xs Q K6) (fun (x : Int32 × Int32 × Mm) => ∀ (H : Heap) (locs : List Loc) (ls : Array Slot), WO o (fun q : Nat => s.heap.size ≤ q) s s.heap H locs x.2.2 → lv_has ls 10 [(0, .ref b), (1, .ref (o.2.1 0 0)), (2, .ref (o.2.1 17 0)), (3, .int x.1), (4, .int x.2.1)] → W p l e room_1 s m #[Value.ref b] below meth c H locs cells slots (lw_Z below #[Value.ref b] s) (F0 m 46 ls [])) ?_ n _ h _ _ _ hw (lv_sub hl [4, 3, 2, 1, 0] rfl)
  clear h hw hl; clear ls; intro R7 x hR7 h H locs ls hw hl
  obtain ⟨v3, v4, M5⟩ := x
  replace hl : lv_has ls 10 [(0, .ref b), (1, .ref (o.2.1 0 0)), (2, .ref (o.2.1 17 0)), (3, .int v3), (4, .int v4)] := hl
  dsimp only at hw
  unfold w_L_law_P2_46 at h
  dsimp only at h
  refine lv_iload hx hb dL_law_46 (lv_at hl 4 rfl) ?_
  refine lv_aload_n hx hb dL_law_48 rfl (lv_at hl 1 rfl) ?_
  refine lv_iconst (v := 1) hx hb dL_law_49 (by decide) ?_
  refine g_ci hw (g_runV (As := [.int (1 : Int32)]) (rest := [.int v4]) hx hb hml hown hts mX4_told vX4_told kL_32 hw 0 0 (ci_0 (by decide)) (bi_0 (by decide) (Nat.le_trans (by decide) hn)) rfl rfl (c_X4_told (Nat.le_trans (by decide) hn) h) rfl rfl ⟨Nat.le_of_ble_eq_true rfl, Nat.le_of_ble_eq_true rfl⟩ rfl hl.1 rfl (Nat.le_of_ble_eq_true rfl) dL_law_50 ⟨hcc, hcs⟩) ?_
  clear h hw; intro v9 M8 H locs hw h
  refine g_icmp_gt (tgt := 97) hx hb h dL_law_53 (by decide) ?_ ?_
  · clear h; intro h
    exact hK6 (v3, v4, M8) h _ _ _ hw (lv_sub hl [0, 1, 2, 3] rfl)
  · clear h; intro h
    refine lv_aload_n hx hb dL_law_56 rfl (lv_at hl 1 rfl) ?_
    refine lv_iload hx hb dL_law_57 (lv_at hl 4 rfl) ?_
    refine lv_aload_n hx hb dL_law_59 rfl (lv_at hl 2 rfl) ?_
    refine g_cz hw (g_runS (As := [.ref (o.2.1 0 0), .int v4, .ref (o.2.1 17 0)]) (rest := []) hx hb hml hown hts mL_day sL_day kL_70 hw (c_L_day hn h) rfl rfl ⟨Nat.le_of_ble_eq_true rfl, Nat.le_of_ble_eq_true rfl⟩ rfl hl.1 rfl (Nat.le_of_ble_eq_true rfl) dL_law_60 ⟨hcc, hcs⟩) ?_
    clear h hw; intro v11 M10 H locs hw hz_v11 h
    refine g_if_ne (tgt := 68) hx hb h dL_law_63 (by decide) ?_ ?_
    · clear h; intro h
      refine lv_aload_n hx hb dL_law_68 rfl (lv_at hl 1 rfl) ?_
      refine lv_iload hx hb dL_law_69 (lv_at hl 4 rfl) ?_
      refine lv_iconst (v := 5) hx hb dL_law_71 (by decide) ?_
      refine g_ci hw (g_runV (As := [.int v4, .int (5 : Int32)]) (rest := []) hx hb hml hown hts mX4_day vX4_day kL_38 hw 0 0 (ci_0 (by decide)) (bi_0 (by decide) (Nat.le_trans (by decide) hn)) rfl rfl (c_X4_day (Nat.le_trans (by decide) hn) h) rfl rfl ⟨Nat.le_of_ble_eq_true rfl, Nat.le_of_ble_eq_true rfl⟩ rfl hl.1 rfl (Nat.le_of_ble_eq_true rfl) dL_law_72 ⟨hcc, hcs⟩) ?_
      clear h hw; intro v13 M12 H locs hw h
      refine lv_iload_n hx hb dL_law_75 rfl (lv_at hl 3 rfl) ?_
      refine g_icmp_le (tgt := 89) hx hb h dL_law_76 (by decide) ?_ ?_
      · clear h; intro h
        refine lv_iload_n hx hb dL_law_89 rfl (lv_at hl 3 rfl) ?_
        refine lv_istore_n (lv' := [(3, .int v3), (0, .ref b), (1, .ref (o.2.1 0 0)), (2, .ref (o.2.1 17 0)), (4, .int v4)]) hx hb dL_law_90 rfl hl (by decide) rfl ?_
        clear hl; clear ls; intro ls hl
        refine g_iinc (k := 4) (v := (v4 + (1 : Int32))) (lv' := fun v14 => [(4, .int v14), (3, .int v3), (0, .ref b), (1, .ref (o.2.1 0 0)), (2, .ref (o.2.1 17 0))]) hx hb dL_law_91 hl rfl rfl (by decide) (fun _ => rfl) h ?_
        clear h hl; clear ls; intro v14 ls h hl
        refine lv_goto (tgt := 46) hx hb dL_law_94 (by decide) ?_
        exact hR7 (v3, v14, M12) h _ _ _ hw (lv_sub hl [2, 3, 4, 1, 0] rfl)
      · clear h; intro h
        refine lv_aload_n hx hb dL_law_79 rfl (lv_at hl 1 rfl) ?_
        refine lv_iload hx hb dL_law_80 (lv_at hl 4 rfl) ?_
        refine lv_iconst (v := 5) hx hb dL_law_82 (by decide) ?_
        refine g_ci hw (g_runV (As := [.int v4, .int (5 : Int32)]) (rest := []) hx hb hml hown hts mX4_day vX4_day kL_38 hw 0 0 (ci_0 (by decide)) (bi_0 (by decide) (Nat.le_trans (by decide) hn)) rfl rfl (c_X4_day (Nat.le_trans (by decide) hn) h) rfl rfl ⟨Nat.le_of_ble_eq_true rfl, Nat.le_of_ble_eq_true rfl⟩ rfl hl.1 rfl (Nat.le_of_ble_eq_true rfl) dL_law_83 ⟨hcc, hcs⟩) ?_
        clear h hw; intro v16 M15 H locs hw h
        refine lv_goto (tgt := 90) hx hb dL_law_86 (by decide) ?_
        refine lv_istore_n (lv' := [(3, .int v16), (0, .ref b), (1, .ref (o.2.1 0 0)), (2, .ref (o.2.1 17 0)), (4, .int v4)]) hx hb dL_law_90 rfl hl (by decide) rfl ?_
        clear hl; clear ls; intro ls hl
        refine g_iinc (k := 4) (v := (v4 + (1 : Int32))) (lv' := fun v17 => [(4, .int v17), (3, .int v16), (0, .ref b), (1, .ref (o.2.1 0 0)), (2, .ref (o.2.1 17 0))]) hx hb dL_law_91 hl rfl rfl (by decide) (fun _ => rfl) h ?_
        clear h hl; clear ls; intro v17 ls h hl
        refine lv_goto (tgt := 46) hx hb dL_law_94 (by decide) ?_
        exact hR7 (v16, v17, M15) h _ _ _ hw (lv_sub hl [2, 3, 4, 1, 0] rfl)
    · clear h; intro h
      refine lv_iconst (v := 0) hx hb dL_law_66 (by decide) ?_
      exact law_end hx hb hr hlocks hcc hcs hw hQ h dL_law_67
