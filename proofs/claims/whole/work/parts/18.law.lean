section VLW
variable {p : Program} {l : Launch} {e : Env} {R : Room} {s : State} {m : MethodId} {args : Array Value} {below : List Frame} {meth : Method} {c : Code} {H : Heap} {locs : List Loc} {cells slots : Nat} {Q : State → Prop}
variable {cc : ByteArray} {pc : Nat} {ls : Array Slot} {rest : List Value} {o : Om} {A : Nat → Prop} {M : Mm} {H0 : Heap} {b L : Nat} {xs : Nat → Int32}
theorem g_sld (hx : p.tables.exec = Jvm.exec) (hb : c.code = cc) (hX : va_X b L xs s H0) (hbl : b < H0.size) (hbA : ¬ A b) (hw : WO o A s H0 H locs M) {j : Int32} {K : Int32 → Prop} (h : ldA xs L j K) (hdg : decode cc pc = .ok (.iaload, 1)) (kk : ∀ v : Int32, K v → W p l e R s m args below meth c H locs cells slots Q (F0 m (pc + 1) ls (.int v :: rest))) : W p l e R s m args below meth c H locs cells slots Q (F0 m pc ls (.int j :: .ref b :: rest)) :=
  va_sld hx hb hX hbl hbA hw.2.2.2 h.1 hdg (kk _ h.2)
theorem g_slen (hx : p.tables.exec = Jvm.exec) (hb : c.code = cc) (hX : va_X b L xs s H0) (hbl : b < H0.size) (hbA : ¬ A b) (hw : WO o A s H0 H locs M) (hdg : decode cc pc = .ok (.arraylength, 1)) (kk : W p l e R s m args below meth c H locs cells slots Q (F0 m (pc + 1) ls (.int (Int32.ofNat L) :: rest))) : W p l e R s m args below meth c H locs cells slots Q (F0 m pc ls (.ref b :: rest)) :=
  va_slen hx hb hX hbl hbA hw.2.2.2 hdg kk
theorem law_end {x : Int32} {Q1 : Int32 → Mm → Prop} (hx : p.tables.exec = Jvm.exec) (hb : c.code = code) (hr : meth.sig.returnType = ret) (hlocks : meth.locks = false) (hcc : cells ≤ room_1.cells) (hcs : slots ≤ room_1.slots) (hw : WO o (fun q : Nat => s.heap.size ≤ q) s s.heap H locs M) (hQ : ∀ r M, Q1 r M → r = 1) (h : Q1 x M) (hdg : decode code pc = .ok (.ireturn, 1)) : W p l e room_1 s m #[Value.ref b] below meth c H locs cells slots (lw_Z below #[Value.ref b] s) (F0 m pc ls [.int x]) := by
  have hx1 := hQ _ _ h
  subst hx1
  refine va_forget (fun q hq => hw.2.2.2.2.2 q hq) ?_
  refine W.widen (k := 600000) (n := 7302250) hcc hcs ?_
  exact lw_ret hx hb hr hlocks hdg
end VLW
def w_L_law_L18 (L : Nat) (xs : Nat → Int32) (Q : Int32 → Mm → Prop) (K3 : Int32 × Mm → Prop) (R4 : Int32 × Mm → Prop) : Int32 × Mm → Prop := fun (v1, M2) =>
  if ((Int32.ofNat L) - (5 : Int32)) < v1 then (K3 (v1, M2)) else (ldA xs L v1 fun v5 => if (v5 &&& (31 : Int32)) = (0 : Int32) then (ldA xs L (v1 + (1 : Int32)) fun v6 => ldA xs L (v1 + (2 : Int32)) fun v7 => w_X4_setPage M2 v6 v7 fun v9 M8 => ldA xs L (v1 + (1 : Int32)) fun v10 => ldA xs L (v1 + (2 : Int32)) fun v11 => w_X5_setPage M8 v10 v11 fun v13 M12 => if v9 = v13 then (bI (v1 + (5 : Int32)) fun v14 => R4 (v14, M12)) else (Q (0 : Int32) M12)) else if (v5 &&& (31 : Int32)) = (1 : Int32) then (ldA xs L (v1 + (1 : Int32)) fun v15 => w_X4_setWeek M2 v15 fun v17 M16 => ldA xs L (v1 + (1 : Int32)) fun v18 => w_X5_setWeek M16 v18 fun v20 M19 => if v17 = v20 then (bI (v1 + (5 : Int32)) fun v21 => R4 (v21, M19)) else (Q (0 : Int32) M19)) else if (v5 &&& (31 : Int32)) = (2 : Int32) then (ldA xs L (v1 + (1 : Int32)) fun v22 => w_X4_setRows M2 v22 fun v24 M23 => ldA xs L (v1 + (1 : Int32)) fun v25 => w_X5_setRows M23 v25 fun v27 M26 => if v24 = v27 then (bI (v1 + (5 : Int32)) fun v28 => R4 (v28, M26)) else (Q (0 : Int32) M26)) else if (v5 &&& (31 : Int32)) = (3 : Int32) then (ldA xs L (v1 + (1 : Int32)) fun v29 => ldA xs L (v1 + (2 : Int32)) fun v30 => w_X4_week M2 v29 v30 fun v32 M31 => ldA xs L (v1 + (1 : Int32)) fun v33 => ldA xs L (v1 + (2 : Int32)) fun v34 => w_X5_week M31 v33 v34 fun v36 M35 => if v32 = v36 then (bI (v1 + (5 : Int32)) fun v37 => R4 (v37, M35)) else (Q (0 : Int32) M35)) else if (v5 &&& (31 : Int32)) = (4 : Int32) then (ldA xs L (v1 + (1 : Int32)) fun v38 => w_X4_type M2 v38 fun v40 M39 => ldA xs L (v1 + (1 : Int32)) fun v41 => w_X5_type M39 v41 fun v43 M42 => if v40 = v43 then (bI (v1 + (5 : Int32)) fun v44 => R4 (v44, M42)) else (Q (0 : Int32) M42)) else if (v5 &&& (31 : Int32)) = (5 : Int32) then (w_X4_clear M2 fun v46 M45 => w_X5_clear M45 fun v48 M47 => if v46 = v48 then (bI (v1 + (5 : Int32)) fun v49 => R4 (v49, M47)) else (Q (0 : Int32) M47)) else if (v5 &&& (31 : Int32)) = (6 : Int32) then (w_X4_load M2 fun v51 M50 => w_X5_load M50 fun v53 M52 => if v51 = v53 then (bI (v1 + (5 : Int32)) fun v54 => R4 (v54, M52)) else (Q (0 : Int32) M52)) else if (v5 &&& (31 : Int32)) = (7 : Int32) then (ldA xs L (v1 + (1 : Int32)) fun v55 => ldA xs L (v1 + (2 : Int32)) fun v56 => ldA xs L (v1 + (3 : Int32)) fun v57 => ldA xs L (v1 + (4 : Int32)) fun v58 => w_X4_add M2 v55 v56 v57 v58 fun v60 M59 => ldA xs L (v1 + (1 : Int32)) fun v61 => ldA xs L (v1 + (2 : Int32)) fun v62 => ldA xs L (v1 + (3 : Int32)) fun v63 => ldA xs L (v1 + (4 : Int32)) fun v64 => w_X5_add M59 v61 v62 v63 v64 fun v66 M65 => if v60 = v66 then (bI (v1 + (5 : Int32)) fun v67 => R4 (v67, M65)) else (Q (0 : Int32) M65)) else if (v5 &&& (31 : Int32)) = (8 : Int32) then (ldA xs L (v1 + (1 : Int32)) fun v68 => w_X4_drop M2 v68 fun v70 M69 => ldA xs L (v1 + (1 : Int32)) fun v71 => w_X5_drop M69 v71 fun v73 M72 => if v70 = v73 then (bI (v1 + (5 : Int32)) fun v74 => R4 (v74, M72)) else (Q (0 : Int32) M72)) else if (v5 &&& (31 : Int32)) = (9 : Int32) then (ldA xs L (v1 + (1 : Int32)) fun v75 => ldA xs L (v1 + (2 : Int32)) fun v76 => w_X4_move M2 v75 v76 fun v78 M77 => ldA xs L (v1 + (1 : Int32)) fun v79 => ldA xs L (v1 + (2 : Int32)) fun v80 => w_X5_move M77 v79 v80 fun v82 M81 => if v78 = v82 then (bI (v1 + (5 : Int32)) fun v83 => R4 (v83, M81)) else (Q (0 : Int32) M81)) else if (v5 &&& (31 : Int32)) = (10 : Int32) then (ldA xs L (v1 + (1 : Int32)) fun v84 => ldA xs L (v1 + (2 : Int32)) fun v85 => w_X4_stretch M2 v84 v85 fun v87 M86 => ldA xs L (v1 + (1 : Int32)) fun v88 => ldA xs L (v1 + (2 : Int32)) fun v89 => w_X5_stretch M86 v88 v89 fun v91 M90 => if v87 = v91 then (bI (v1 + (5 : Int32)) fun v92 => R4 (v92, M90)) else (Q (0 : Int32) M90)) else if (v5 &&& (31 : Int32)) = (11 : Int32) then (ldA xs L (v1 + (1 : Int32)) fun v93 => ldA xs L (v1 + (2 : Int32)) fun v94 => ldA xs L (v1 + (3 : Int32)) fun v95 => w_X4_settle M2 v93 v94 v95 fun v97 M96 => ldA xs L (v1 + (1 : Int32)) fun v98 => ldA xs L (v1 + (2 : Int32)) fun v99 => ldA xs L (v1 + (3 : Int32)) fun v100 => w_X5_settle M96 v98 v99 v100 fun v102 M101 => if v97 = v102 then (bI (v1 + (5 : Int32)) fun v103 => R4 (v103, M101)) else (Q (0 : Int32) M101)) else if (v5 &&& (31 : Int32)) = (12 : Int32) then (ldA xs L (v1 + (1 : Int32)) fun v104 => ldA xs L (v1 + (2 : Int32)) fun v105 => w_X4_entry M2 v104 v105 fun v107 M106 => ldA xs L (v1 + (1 : Int32)) fun v108 => ldA xs L (v1 + (2 : Int32)) fun v109 => w_X5_entry M106 v108 v109 fun v111 M110 => if v107 = v111 then (bI (v1 + (5 : Int32)) fun v112 => R4 (v112, M110)) else (Q (0 : Int32) M110)) else if (v5 &&& (31 : Int32)) = (13 : Int32) then (ldA xs L (v1 + (1 : Int32)) fun v113 => ldA xs L (v1 + (2 : Int32)) fun v114 => ldA xs L (v1 + (3 : Int32)) fun v115 => w_X4_bar M2 v113 v114 v115 fun v117 M116 => ldA xs L (v1 + (1 : Int32)) fun v118 => ldA xs L (v1 + (2 : Int32)) fun v119 => ldA xs L (v1 + (3 : Int32)) fun v120 => w_X5_bar M116 v118 v119 v120 fun v122 M121 => if v117 = v122 then (bI (v1 + (5 : Int32)) fun v123 => R4 (v123, M121)) else (Q (0 : Int32) M121)) else if (v5 &&& (31 : Int32)) = (14 : Int32) then (ldA xs L (v1 + (1 : Int32)) fun v124 => ldA xs L (v1 + (2 : Int32)) fun v125 => w_X4_shown M2 v124 v125 fun v127 M126 => ldA xs L (v1 + (1 : Int32)) fun v128 => ldA xs L (v1 + (2 : Int32)) fun v129 => w_X5_shown M126 v128 v129 fun v131 M130 => if v127 = v131 then (bI (v1 + (5 : Int32)) fun v132 => R4 (v132, M130)) else (Q (0 : Int32) M130)) else if (v5 &&& (31 : Int32)) = (15 : Int32) then (ldA xs L (v1 + (1 : Int32)) fun v133 => ldA xs L (v1 + (2 : Int32)) fun v134 => w_X4_rowOf M2 v133 v134 fun v136 M135 => ldA xs L (v1 + (1 : Int32)) fun v137 => ldA xs L (v1 + (2 : Int32)) fun v138 => w_X5_rowOf M135 v137 v138 fun v140 M139 => if v136 = v140 then (bI (v1 + (5 : Int32)) fun v141 => R4 (v141, M139)) else (Q (0 : Int32) M139)) else if (v5 &&& (31 : Int32)) = (16 : Int32) then (ldA xs L (v1 + (1 : Int32)) fun v142 => ldA xs L (v1 + (2 : Int32)) fun v143 => w_X4_day M2 v142 v143 fun v145 M144 => ldA xs L (v1 + (1 : Int32)) fun v146 => ldA xs L (v1 + (2 : Int32)) fun v147 => w_X5_day M144 v146 v147 fun v149 M148 => if v145 = v149 then (bI (v1 + (5 : Int32)) fun v150 => R4 (v150, M148)) else (Q (0 : Int32) M148)) else if (v5 &&& (31 : Int32)) = (17 : Int32) then (w_X4_enough M2 fun v152 M151 => w_X5_enough M151 fun v154 M153 => if v152 = v154 then (bI (v1 + (5 : Int32)) fun v155 => R4 (v155, M153)) else (Q (0 : Int32) M153)) else if (v5 &&& (31 : Int32)) = (18 : Int32) then (ldA xs L (v1 + (1 : Int32)) fun v156 => w_X4_ifRows M2 v156 fun v158 M157 => ldA xs L (v1 + (1 : Int32)) fun v159 => w_X5_ifRows M157 v159 fun v161 M160 => if v158 = v161 then (bI (v1 + (5 : Int32)) fun v162 => R4 (v162, M160)) else (Q (0 : Int32) M160)) else if (v5 &&& (31 : Int32)) = (19 : Int32) then (ldA xs L (v1 + (1 : Int32)) fun v163 => ldA xs L (v1 + (2 : Int32)) fun v164 => letJ (fun (v165 : Int32) => w_X4_free M2 v163 v165 fun v168 M167 => ldA xs L (v1 + (1 : Int32)) fun v169 => ldA xs L (v1 + (2 : Int32)) fun v170 => letJ (fun (v171 : Int32) => w_X5_free M167 v169 v171 fun v174 M173 => if v168 = v174 then (bI (v1 + (5 : Int32)) fun v175 => R4 (v175, M173)) else (Q (0 : Int32) M173)) fun J172 => if v170 = 0 then (J172 (0 : Int32)) else (J172 (1 : Int32))) fun J166 => if v164 = 0 then (J166 (0 : Int32)) else (J166 (1 : Int32))) else if (v5 &&& (31 : Int32)) = (20 : Int32) then (ldA xs L (v1 + (1 : Int32)) fun v176 => w_X4_bestDay M2 v176 fun v178 M177 => ldA xs L (v1 + (1 : Int32)) fun v179 => w_X5_bestDay M177 v179 fun v181 M180 => if v178 = v181 then (bI (v1 + (5 : Int32)) fun v182 => R4 (v182, M180)) else (Q (0 : Int32) M180)) else if (v5 &&& (31 : Int32)) = (21 : Int32) then (ldA xs L (v1 + (1 : Int32)) fun v183 => w_X4_told M2 v183 fun v185 M184 => ldA xs L (v1 + (1 : Int32)) fun v186 => w_X5_told M184 v186 fun v188 M187 => if v185 = v188 then (bI (v1 + (5 : Int32)) fun v189 => R4 (v189, M187)) else (Q (0 : Int32) M187)) else if (v5 &&& (31 : Int32)) = (22 : Int32) then (w_X4_undo M2 fun v191 M190 => w_X5_undo M190 fun v193 M192 => if v191 = v193 then (bI (v1 + (5 : Int32)) fun v194 => R4 (v194, M192)) else (Q (0 : Int32) M192)) else if (v5 &&& (31 : Int32)) = (23 : Int32) then (w_X4_digest M2 fun v196 M195 => w_X5_digest M195 fun v198 M197 => if (lg_cmp v196 v198) = 0 then (bI (v1 + (5 : Int32)) fun v199 => R4 (v199, M197)) else (Q (0 : Int32) M197)) else (bI (v1 + (5 : Int32)) fun v200 => R4 (v200, M2)))
def w_L_law (L : Nat) (xs : Nat → Int32) (M : Mm) (Q : Int32 → Mm → Prop) : Prop :=
  ∃ n, loop (w_L_law_L18 L xs Q (fun ((v201, M202) : Int32 × Mm) => Q (1 : Int32) M202) ) n ((0 : Int32), M)
set_option maxHeartbeats 8000000 in
set_option maxRecDepth 100000 in
theorem c_L_law {p : Program} {l : Launch} {e : Env} {s : State} {m : MethodId} {below : List Frame} {meth : Method} {c : Code} {o : Om} {b L : Nat} {xs : Nat → Int32} {cells slots : Nat} {H : Heap} {locs : List Loc} {M : Mm} {Q : Int32 → Mm → Prop} (hn : 122 ≤ o.2.2.2) (C0 : lw_At p s m meth c b L xs) (hcc : cells ≤ room_1.cells) (hcs : slots ≤ room_1.slots) (hQ : ∀ r M, Q r M → r = 1) (hw : WO o (fun q : Nat => s.heap.size ≤ q) s s.heap H locs M) (h : w_L_law L xs M Q) {ls : Array Slot} (hl : lv_has ls 4 [(2, .ref (o.2.1 17 0)), (1, .ref (o.2.1 0 0)), (0, .ref b)]) : W p l e room_1 s m #[Value.ref b] below meth c H locs cells slots (lw_Z below #[Value.ref b] s) (F0 m 16 ls []) := by
  obtain ⟨hx, hb, hr, hml, hown, hts0, hX, hbl, hlocks, hgv⟩ := C0
  have hts : ∀ w ∈ lw_g, w.before #[Value.ref b] s = true := fun w h => hts0 w (lw_g_in w h)
  have hbA : ¬ (fun q : Nat => s.heap.size ≤ q) b := Nat.not_le.mpr hbl
  unfold w_L_law at h
  refine lv_iconst (v := 0) hx hb dL_law_16 (by decide) ?_
  refine lv_istore_n (lv' := [(3, .int (0 : Int32)), (2, .ref (o.2.1 17 0)), (1, .ref (o.2.1 0 0)), (0, .ref b)]) hx hb dL_law_17 rfl hl (by decide) rfl ?_
  clear hl; clear ls; intro ls hl
  obtain ⟨n, h⟩ := h
  refine letK_W (body := fun K => w_L_law_L18 L xs Q K) (fun (x : Int32 × Mm) => ∀ (H : Heap) (locs : List Loc) (ls : Array Slot), WO o (fun q : Nat => s.heap.size ≤ q) s s.heap H locs x.2 → lv_has ls 4 [] → W p l e room_1 s m #[Value.ref b] below meth c H locs cells slots (lw_Z below #[Value.ref b] s) (F0 m 829 ls [])) h ?_ ?_
  · clear h hw hl; clear ls; intro x h H locs ls hw hl
    obtain ⟨v201, M202⟩ := x
    replace hl : lv_has ls 4 [] := hl
    dsimp only at h hw
    refine lv_iconst (v := 1) hx hb dL_law_829 (by decide) ?_
    exact law_end hx hb hr hlocks hcc hcs hw hQ h dL_law_830
  clear h; intro K3 hK3 h
  refine loop_W (body := w_L_law_L18 L xs Q K3) (fun (x : Int32 × Mm) => ∀ (H : Heap) (locs : List Loc) (ls : Array Slot), WO o (fun q : Nat => s.heap.size ≤ q) s s.heap H locs x.2 → lv_has ls 4 [(0, .ref b), (1, .ref (o.2.1 0 0)), (2, .ref (o.2.1 17 0)), (3, .int x.1)] → W p l e room_1 s m #[Value.ref b] below meth c H locs cells slots (lw_Z below #[Value.ref b] s) (F0 m 18 ls [])) ?_ n _ h _ _ _ hw (lv_sub hl [3, 2, 1, 0] rfl)
  clear h hw hl; clear ls; intro R4 x hR4 h H locs ls hw hl
  obtain ⟨v1, M2⟩ := x
  replace hl : lv_has ls 4 [(0, .ref b), (1, .ref (o.2.1 0 0)), (2, .ref (o.2.1 17 0)), (3, .int v1)] := hl
  dsimp only at hw
  unfold w_L_law_L18 at h
  dsimp only at h
  refine lv_iload_n hx hb dL_law_18 rfl (lv_at hl 3 rfl) ?_
  refine lv_aload_n hx hb dL_law_19 rfl (lv_at hl 0 rfl) ?_
  refine g_slen hx hb hX hbl hbA hw dL_law_20 ?_
  refine lv_iconst (v := 5) hx hb dL_law_21 (by decide) ?_
  refine lv_isub hx hb dL_law_22 ?_
  refine g_icmp_gt (tgt := 829) hx hb h dL_law_23 (by decide) ?_ ?_
  · clear h; intro h
    exact hK3 (v1, M2) h _ _ _ hw (lv_sub hl [] rfl)
  · clear h; intro h
    refine lv_aload_n hx hb dL_law_26 rfl (lv_at hl 0 rfl) ?_
    refine lv_iload_n hx hb dL_law_27 rfl (lv_at hl 3 rfl) ?_
    refine g_sld hx hb hX hbl hbA hw h dL_law_28 ?_
    clear h; intro v5 h
    refine lv_bipush (v := 31) hx hb dL_law_29 (by decide) ?_
    refine lv_iand hx hb dL_law_31 ?_
    by_cases c0 : (v5 &&& (31 : Int32)) = (0 : Int32)
    · rw [if_pos c0] at h
      refine lv_tableIn (tgt := 144) hx hb dL_law_32 (by rw [c0]; decide) (by rw [c0]; decide) (by rw [c0]; rfl) (by decide) ?_
      clear c0
      refine lv_aload_n hx hb dL_law_144 rfl (lv_at hl 1 rfl) ?_
      refine lv_aload_n hx hb dL_law_145 rfl (lv_at hl 0 rfl) ?_
      refine lv_iload_n hx hb dL_law_146 rfl (lv_at hl 3 rfl) ?_
      refine lv_iconst (v := 1) hx hb dL_law_147 (by decide) ?_
      refine lv_iadd hx hb dL_law_148 ?_
      refine g_sld hx hb hX hbl hbA hw h dL_law_149 ?_
      clear h; intro v6 h
      refine lv_aload_n hx hb dL_law_150 rfl (lv_at hl 0 rfl) ?_
      refine lv_iload_n hx hb dL_law_151 rfl (lv_at hl 3 rfl) ?_
      refine lv_iconst (v := 2) hx hb dL_law_152 (by decide) ?_
      refine lv_iadd hx hb dL_law_153 ?_
      refine g_sld hx hb hX hbl hbA hw h dL_law_154 ?_
      clear h; intro v7 h
      refine g_ci hw (g_runV (As := [.int v6, .int v7]) (rest := []) hx hb hml hown hts mX4_setPage vX4_setPage kL_13 hw 0 0 (ci_0 (by decide)) (bi_0 (by decide) (Nat.le_trans (by decide) hn)) rfl rfl (c_X4_setPage (Nat.le_trans (by decide) hn) h) rfl rfl ⟨Nat.le_of_ble_eq_true rfl, Nat.le_of_ble_eq_true rfl⟩ rfl hl.1 rfl (Nat.le_of_ble_eq_true rfl) dL_law_155 ⟨hcc, hcs⟩) ?_
      clear h hw; intro v9 M8 H locs hw h
      refine lv_aload_n hx hb dL_law_158 rfl (lv_at hl 2 rfl) ?_
      refine lv_aload_n hx hb dL_law_159 rfl (lv_at hl 0 rfl) ?_
      refine lv_iload_n hx hb dL_law_160 rfl (lv_at hl 3 rfl) ?_
      refine lv_iconst (v := 1) hx hb dL_law_161 (by decide) ?_
      refine lv_iadd hx hb dL_law_162 ?_
      refine g_sld hx hb hX hbl hbA hw h dL_law_163 ?_
      clear h; intro v10 h
      refine lv_aload_n hx hb dL_law_164 rfl (lv_at hl 0 rfl) ?_
      refine lv_iload_n hx hb dL_law_165 rfl (lv_at hl 3 rfl) ?_
      refine lv_iconst (v := 2) hx hb dL_law_166 (by decide) ?_
      refine lv_iadd hx hb dL_law_167 ?_
      refine g_sld hx hb hX hbl hbA hw h dL_law_168 ?_
      clear h; intro v11 h
      refine g_ci hw (g_runV (As := [.int v10, .int v11]) (rest := [.int v9]) hx hb hml hown hts mX5_setPage vX5_setPage kL_17 hw 17 0 (ci_17 (by decide)) (bi_17 (by decide) hn) rfl rfl (c_X5_setPage hn h) rfl rfl ⟨Nat.le_of_ble_eq_true rfl, Nat.le_of_ble_eq_true rfl⟩ rfl hl.1 rfl (Nat.le_of_ble_eq_true rfl) dL_law_169 ⟨hcc, hcs⟩) ?_
      clear h hw; intro v13 M12 H locs hw h
      refine g_icmp_eq (tgt := 823) hx hb h dL_law_172 (by decide) ?_ ?_
      · clear h; intro h
        refine g_iinc (k := 3) (v := (v1 + (5 : Int32))) (lv' := fun v14 => [(3, .int v14), (0, .ref b), (1, .ref (o.2.1 0 0)), (2, .ref (o.2.1 17 0))]) hx hb dL_law_823 hl rfl rfl (by decide) (fun _ => rfl) h ?_
        clear h hl; clear ls; intro v14 ls h hl
        refine lv_goto (tgt := 18) hx hb dL_law_826 (by decide) ?_
        exact hR4 (v14, M12) h _ _ _ hw (lv_sub hl [1, 2, 3, 0] rfl)
      · clear h; intro h
        refine lv_iconst (v := 0) hx hb dL_law_175 (by decide) ?_
        exact law_end hx hb hr hlocks hcc hcs hw hQ h dL_law_176
    rw [if_neg c0] at h
    by_cases c1 : (v5 &&& (31 : Int32)) = (1 : Int32)
    · rw [if_pos c1] at h
      refine lv_tableIn (tgt := 177) hx hb dL_law_32 (by rw [c1]; decide) (by rw [c1]; decide) (by rw [c1]; rfl) (by decide) ?_
      clear c1
      refine lv_aload_n hx hb dL_law_177 rfl (lv_at hl 1 rfl) ?_
      refine lv_aload_n hx hb dL_law_178 rfl (lv_at hl 0 rfl) ?_
      refine lv_iload_n hx hb dL_law_179 rfl (lv_at hl 3 rfl) ?_
      refine lv_iconst (v := 1) hx hb dL_law_180 (by decide) ?_
      refine lv_iadd hx hb dL_law_181 ?_
      refine g_sld hx hb hX hbl hbA hw h dL_law_182 ?_
      clear h; intro v15 h
      refine g_ci hw (g_runV (As := [.int v15]) (rest := []) hx hb hml hown hts mX4_setWeek vX4_setWeek kL_18 hw 0 0 (ci_0 (by decide)) (bi_0 (by decide) (Nat.le_trans (by decide) hn)) rfl rfl (c_X4_setWeek (Nat.le_trans (by decide) hn) h) rfl rfl ⟨Nat.le_of_ble_eq_true rfl, Nat.le_of_ble_eq_true rfl⟩ rfl hl.1 rfl (Nat.le_of_ble_eq_true rfl) dL_law_183 ⟨hcc, hcs⟩) ?_
      clear h hw; intro v17 M16 H locs hw h
      refine lv_aload_n hx hb dL_law_186 rfl (lv_at hl 2 rfl) ?_
      refine lv_aload_n hx hb dL_law_187 rfl (lv_at hl 0 rfl) ?_
      refine lv_iload_n hx hb dL_law_188 rfl (lv_at hl 3 rfl) ?_
      refine lv_iconst (v := 1) hx hb dL_law_189 (by decide) ?_
      refine lv_iadd hx hb dL_law_190 ?_
      refine g_sld hx hb hX hbl hbA hw h dL_law_191 ?_
      clear h; intro v18 h
      refine g_ci hw (g_runV (As := [.int v18]) (rest := [.int v17]) hx hb hml hown hts mX5_setWeek vX5_setWeek kL_22 hw 17 0 (ci_17 (by decide)) (bi_17 (by decide) hn) rfl rfl (c_X5_setWeek hn h) rfl rfl ⟨Nat.le_of_ble_eq_true rfl, Nat.le_of_ble_eq_true rfl⟩ rfl hl.1 rfl (Nat.le_of_ble_eq_true rfl) dL_law_192 ⟨hcc, hcs⟩) ?_
      clear h hw; intro v20 M19 H locs hw h
      refine g_icmp_eq (tgt := 823) hx hb h dL_law_195 (by decide) ?_ ?_
      · clear h; intro h
        refine g_iinc (k := 3) (v := (v1 + (5 : Int32))) (lv' := fun v21 => [(3, .int v21), (0, .ref b), (1, .ref (o.2.1 0 0)), (2, .ref (o.2.1 17 0))]) hx hb dL_law_823 hl rfl rfl (by decide) (fun _ => rfl) h ?_
        clear h hl; clear ls; intro v21 ls h hl
        refine lv_goto (tgt := 18) hx hb dL_law_826 (by decide) ?_
        exact hR4 (v21, M19) h _ _ _ hw (lv_sub hl [1, 2, 3, 0] rfl)
      · clear h; intro h
        refine lv_iconst (v := 0) hx hb dL_law_198 (by decide) ?_
        exact law_end hx hb hr hlocks hcc hcs hw hQ h dL_law_199
    rw [if_neg c1] at h
    by_cases c2 : (v5 &&& (31 : Int32)) = (2 : Int32)
    · rw [if_pos c2] at h
      refine lv_tableIn (tgt := 200) hx hb dL_law_32 (by rw [c2]; decide) (by rw [c2]; decide) (by rw [c2]; rfl) (by decide) ?_
      clear c2
      refine lv_aload_n hx hb dL_law_200 rfl (lv_at hl 1 rfl) ?_
      refine lv_aload_n hx hb dL_law_201 rfl (lv_at hl 0 rfl) ?_
      refine lv_iload_n hx hb dL_law_202 rfl (lv_at hl 3 rfl) ?_
      refine lv_iconst (v := 1) hx hb dL_law_203 (by decide) ?_
      refine lv_iadd hx hb dL_law_204 ?_
      refine g_sld hx hb hX hbl hbA hw h dL_law_205 ?_
      clear h; intro v22 h
      refine g_ci hw (g_runV (As := [.int v22]) (rest := []) hx hb hml hown hts mX4_setRows vX4_setRows kL_23 hw 0 0 (ci_0 (by decide)) (bi_0 (by decide) (Nat.le_trans (by decide) hn)) rfl rfl (c_X4_setRows (Nat.le_trans (by decide) hn) h) rfl rfl ⟨Nat.le_of_ble_eq_true rfl, Nat.le_of_ble_eq_true rfl⟩ rfl hl.1 rfl (Nat.le_of_ble_eq_true rfl) dL_law_206 ⟨hcc, hcs⟩) ?_
      clear h hw; intro v24 M23 H locs hw h
      refine lv_aload_n hx hb dL_law_209 rfl (lv_at hl 2 rfl) ?_
      refine lv_aload_n hx hb dL_law_210 rfl (lv_at hl 0 rfl) ?_
      refine lv_iload_n hx hb dL_law_211 rfl (lv_at hl 3 rfl) ?_
      refine lv_iconst (v := 1) hx hb dL_law_212 (by decide) ?_
      refine lv_iadd hx hb dL_law_213 ?_
      refine g_sld hx hb hX hbl hbA hw h dL_law_214 ?_
      clear h; intro v25 h
      refine g_ci hw (g_runV (As := [.int v25]) (rest := [.int v24]) hx hb hml hown hts mX5_setRows vX5_setRows kL_26 hw 17 0 (ci_17 (by decide)) (bi_17 (by decide) hn) rfl rfl (c_X5_setRows hn h) rfl rfl ⟨Nat.le_of_ble_eq_true rfl, Nat.le_of_ble_eq_true rfl⟩ rfl hl.1 rfl (Nat.le_of_ble_eq_true rfl) dL_law_215 ⟨hcc, hcs⟩) ?_
      clear h hw; intro v27 M26 H locs hw h
      refine g_icmp_eq (tgt := 823) hx hb h dL_law_218 (by decide) ?_ ?_
      · clear h; intro h
        refine g_iinc (k := 3) (v := (v1 + (5 : Int32))) (lv' := fun v28 => [(3, .int v28), (0, .ref b), (1, .ref (o.2.1 0 0)), (2, .ref (o.2.1 17 0))]) hx hb dL_law_823 hl rfl rfl (by decide) (fun _ => rfl) h ?_
        clear h hl; clear ls; intro v28 ls h hl
        refine lv_goto (tgt := 18) hx hb dL_law_826 (by decide) ?_
        exact hR4 (v28, M26) h _ _ _ hw (lv_sub hl [1, 2, 3, 0] rfl)
      · clear h; intro h
        refine lv_iconst (v := 0) hx hb dL_law_221 (by decide) ?_
        exact law_end hx hb hr hlocks hcc hcs hw hQ h dL_law_222
    rw [if_neg c2] at h
    by_cases c3 : (v5 &&& (31 : Int32)) = (3 : Int32)
    · rw [if_pos c3] at h
      refine lv_tableIn (tgt := 223) hx hb dL_law_32 (by rw [c3]; decide) (by rw [c3]; decide) (by rw [c3]; rfl) (by decide) ?_
      clear c3
      refine lv_aload_n hx hb dL_law_223 rfl (lv_at hl 1 rfl) ?_
      refine lv_aload_n hx hb dL_law_224 rfl (lv_at hl 0 rfl) ?_
      refine lv_iload_n hx hb dL_law_225 rfl (lv_at hl 3 rfl) ?_
      refine lv_iconst (v := 1) hx hb dL_law_226 (by decide) ?_
      refine lv_iadd hx hb dL_law_227 ?_
      refine g_sld hx hb hX hbl hbA hw h dL_law_228 ?_
      clear h; intro v29 h
      refine lv_aload_n hx hb dL_law_229 rfl (lv_at hl 0 rfl) ?_
      refine lv_iload_n hx hb dL_law_230 rfl (lv_at hl 3 rfl) ?_
      refine lv_iconst (v := 2) hx hb dL_law_231 (by decide) ?_
      refine lv_iadd hx hb dL_law_232 ?_
      refine g_sld hx hb hX hbl hbA hw h dL_law_233 ?_
      clear h; intro v30 h
      refine g_ci hw (g_runV (As := [.int v29, .int v30]) (rest := []) hx hb hml hown hts mX4_week vX4_week kL_27 hw 0 0 (ci_0 (by decide)) (bi_0 (by decide) (Nat.le_trans (by decide) hn)) rfl rfl (c_X4_week (Nat.le_trans (by decide) hn) h) rfl rfl ⟨Nat.le_of_ble_eq_true rfl, Nat.le_of_ble_eq_true rfl⟩ rfl hl.1 rfl (Nat.le_of_ble_eq_true rfl) dL_law_234 ⟨hcc, hcs⟩) ?_
      clear h hw; intro v32 M31 H locs hw h
      refine lv_aload_n hx hb dL_law_237 rfl (lv_at hl 2 rfl) ?_
      refine lv_aload_n hx hb dL_law_238 rfl (lv_at hl 0 rfl) ?_
      refine lv_iload_n hx hb dL_law_239 rfl (lv_at hl 3 rfl) ?_
      refine lv_iconst (v := 1) hx hb dL_law_240 (by decide) ?_
      refine lv_iadd hx hb dL_law_241 ?_
      refine g_sld hx hb hX hbl hbA hw h dL_law_242 ?_
      clear h; intro v33 h
      refine lv_aload_n hx hb dL_law_243 rfl (lv_at hl 0 rfl) ?_
      refine lv_iload_n hx hb dL_law_244 rfl (lv_at hl 3 rfl) ?_
      refine lv_iconst (v := 2) hx hb dL_law_245 (by decide) ?_
      refine lv_iadd hx hb dL_law_246 ?_
      refine g_sld hx hb hX hbl hbA hw h dL_law_247 ?_
      clear h; intro v34 h
      refine g_ci hw (g_runV (As := [.int v33, .int v34]) (rest := [.int v32]) hx hb hml hown hts mX5_week vX5_week kL_30 hw 17 0 (ci_17 (by decide)) (bi_17 (by decide) hn) rfl rfl (c_X5_week hn h) rfl rfl ⟨Nat.le_of_ble_eq_true rfl, Nat.le_of_ble_eq_true rfl⟩ rfl hl.1 rfl (Nat.le_of_ble_eq_true rfl) dL_law_248 ⟨hcc, hcs⟩) ?_
      clear h hw; intro v36 M35 H locs hw h
      refine g_icmp_eq (tgt := 823) hx hb h dL_law_251 (by decide) ?_ ?_
      · clear h; intro h
        refine g_iinc (k := 3) (v := (v1 + (5 : Int32))) (lv' := fun v37 => [(3, .int v37), (0, .ref b), (1, .ref (o.2.1 0 0)), (2, .ref (o.2.1 17 0))]) hx hb dL_law_823 hl rfl rfl (by decide) (fun _ => rfl) h ?_
        clear h hl; clear ls; intro v37 ls h hl
        refine lv_goto (tgt := 18) hx hb dL_law_826 (by decide) ?_
        exact hR4 (v37, M35) h _ _ _ hw (lv_sub hl [1, 2, 3, 0] rfl)
      · clear h; intro h
        refine lv_iconst (v := 0) hx hb dL_law_254 (by decide) ?_
        exact law_end hx hb hr hlocks hcc hcs hw hQ h dL_law_255
    rw [if_neg c3] at h
    by_cases c4 : (v5 &&& (31 : Int32)) = (4 : Int32)
    · rw [if_pos c4] at h
      refine lv_tableIn (tgt := 256) hx hb dL_law_32 (by rw [c4]; decide) (by rw [c4]; decide) (by rw [c4]; rfl) (by decide) ?_
      clear c4
      refine lv_aload_n hx hb dL_law_256 rfl (lv_at hl 1 rfl) ?_
      refine lv_aload_n hx hb dL_law_257 rfl (lv_at hl 0 rfl) ?_
      refine lv_iload_n hx hb dL_law_258 rfl (lv_at hl 3 rfl) ?_
      refine lv_iconst (v := 1) hx hb dL_law_259 (by decide) ?_
      refine lv_iadd hx hb dL_law_260 ?_
      refine g_sld hx hb hX hbl hbA hw h dL_law_261 ?_
      clear h; intro v38 h
      refine g_ci hw (g_runV (As := [.int v38]) (rest := []) hx hb hml hown hts mX4_type vX4_type kL_31 hw 0 0 (ci_0 (by decide)) (bi_0 (by decide) (Nat.le_trans (by decide) hn)) rfl rfl (c_X4_type (Nat.le_trans (by decide) hn) h) rfl rfl ⟨Nat.le_of_ble_eq_true rfl, Nat.le_of_ble_eq_true rfl⟩ rfl hl.1 rfl (Nat.le_of_ble_eq_true rfl) dL_law_262 ⟨hcc, hcs⟩) ?_
      clear h hw; intro v40 M39 H locs hw h
      refine lv_aload_n hx hb dL_law_265 rfl (lv_at hl 2 rfl) ?_
      refine lv_aload_n hx hb dL_law_266 rfl (lv_at hl 0 rfl) ?_
      refine lv_iload_n hx hb dL_law_267 rfl (lv_at hl 3 rfl) ?_
      refine lv_iconst (v := 1) hx hb dL_law_268 (by decide) ?_
      refine lv_iadd hx hb dL_law_269 ?_
      refine g_sld hx hb hX hbl hbA hw h dL_law_270 ?_
      clear h; intro v41 h
      refine g_ci hw (g_runV (As := [.int v41]) (rest := [.int v40]) hx hb hml hown hts mX5_type vX5_type kL_34 hw 17 0 (ci_17 (by decide)) (bi_17 (by decide) hn) rfl rfl (c_X5_type hn h) rfl rfl ⟨Nat.le_of_ble_eq_true rfl, Nat.le_of_ble_eq_true rfl⟩ rfl hl.1 rfl (Nat.le_of_ble_eq_true rfl) dL_law_271 ⟨hcc, hcs⟩) ?_
      clear h hw; intro v43 M42 H locs hw h
      refine g_icmp_eq (tgt := 823) hx hb h dL_law_274 (by decide) ?_ ?_
      · clear h; intro h
        refine g_iinc (k := 3) (v := (v1 + (5 : Int32))) (lv' := fun v44 => [(3, .int v44), (0, .ref b), (1, .ref (o.2.1 0 0)), (2, .ref (o.2.1 17 0))]) hx hb dL_law_823 hl rfl rfl (by decide) (fun _ => rfl) h ?_
        clear h hl; clear ls; intro v44 ls h hl
        refine lv_goto (tgt := 18) hx hb dL_law_826 (by decide) ?_
        exact hR4 (v44, M42) h _ _ _ hw (lv_sub hl [1, 2, 3, 0] rfl)
      · clear h; intro h
        refine lv_iconst (v := 0) hx hb dL_law_277 (by decide) ?_
        exact law_end hx hb hr hlocks hcc hcs hw hQ h dL_law_278
    rw [if_neg c4] at h
    by_cases c5 : (v5 &&& (31 : Int32)) = (5 : Int32)
    · rw [if_pos c5] at h
      refine lv_tableIn (tgt := 279) hx hb dL_law_32 (by rw [c5]; decide) (by rw [c5]; decide) (by rw [c5]; rfl) (by decide) ?_
      clear c5
      refine lv_aload_n hx hb dL_law_279 rfl (lv_at hl 1 rfl) ?_
      refine g_ci hw (g_runV (As := []) (rest := []) hx hb hml hown hts mX4_clear vX4_clear kL_35 hw 0 0 (ci_0 (by decide)) (bi_0 (by decide) (Nat.le_trans (by decide) hn)) rfl rfl (c_X4_clear (Nat.le_trans (by decide) hn) h) rfl rfl ⟨Nat.le_of_ble_eq_true rfl, Nat.le_of_ble_eq_true rfl⟩ rfl hl.1 rfl (Nat.le_of_ble_eq_true rfl) dL_law_280 ⟨hcc, hcs⟩) ?_
      clear h hw; intro v46 M45 H locs hw h
      refine lv_aload_n hx hb dL_law_283 rfl (lv_at hl 2 rfl) ?_
      refine g_ci hw (g_runV (As := []) (rest := [.int v46]) hx hb hml hown hts mX5_clear vX5_clear kL_39 hw 17 0 (ci_17 (by decide)) (bi_17 (by decide) hn) rfl rfl (c_X5_clear hn h) rfl rfl ⟨Nat.le_of_ble_eq_true rfl, Nat.le_of_ble_eq_true rfl⟩ rfl hl.1 rfl (Nat.le_of_ble_eq_true rfl) dL_law_284 ⟨hcc, hcs⟩) ?_
      clear h hw; intro v48 M47 H locs hw h
      refine g_icmp_eq (tgt := 823) hx hb h dL_law_287 (by decide) ?_ ?_
      · clear h; intro h
        refine g_iinc (k := 3) (v := (v1 + (5 : Int32))) (lv' := fun v49 => [(3, .int v49), (0, .ref b), (1, .ref (o.2.1 0 0)), (2, .ref (o.2.1 17 0))]) hx hb dL_law_823 hl rfl rfl (by decide) (fun _ => rfl) h ?_
        clear h hl; clear ls; intro v49 ls h hl
        refine lv_goto (tgt := 18) hx hb dL_law_826 (by decide) ?_
        exact hR4 (v49, M47) h _ _ _ hw (lv_sub hl [1, 2, 3, 0] rfl)
      · clear h; intro h
        refine lv_iconst (v := 0) hx hb dL_law_290 (by decide) ?_
        exact law_end hx hb hr hlocks hcc hcs hw hQ h dL_law_291
    rw [if_neg c5] at h
    by_cases c6 : (v5 &&& (31 : Int32)) = (6 : Int32)
    · rw [if_pos c6] at h
      refine lv_tableIn (tgt := 292) hx hb dL_law_32 (by rw [c6]; decide) (by rw [c6]; decide) (by rw [c6]; rfl) (by decide) ?_
      clear c6
      refine lv_aload_n hx hb dL_law_292 rfl (lv_at hl 1 rfl) ?_
      refine g_ci hw (g_runV (As := []) (rest := []) hx hb hml hown hts mX4_load vX4_load kL_40 hw 0 0 (ci_0 (by decide)) (bi_0 (by decide) (Nat.le_trans (by decide) hn)) rfl rfl (c_X4_load (Nat.le_trans (by decide) hn) h) rfl rfl ⟨Nat.le_of_ble_eq_true rfl, Nat.le_of_ble_eq_true rfl⟩ rfl hl.1 rfl (Nat.le_of_ble_eq_true rfl) dL_law_293 ⟨hcc, hcs⟩) ?_
      clear h hw; intro v51 M50 H locs hw h
      refine lv_aload_n hx hb dL_law_296 rfl (lv_at hl 2 rfl) ?_
      refine g_ci hw (g_runV (As := []) (rest := [.int v51]) hx hb hml hown hts mX5_load vX5_load kL_43 hw 17 0 (ci_17 (by decide)) (bi_17 (by decide) hn) rfl rfl (c_X5_load hn h) rfl rfl ⟨Nat.le_of_ble_eq_true rfl, Nat.le_of_ble_eq_true rfl⟩ rfl hl.1 rfl (Nat.le_of_ble_eq_true rfl) dL_law_297 ⟨hcc, hcs⟩) ?_
      clear h hw; intro v53 M52 H locs hw h
      refine g_icmp_eq (tgt := 823) hx hb h dL_law_300 (by decide) ?_ ?_
      · clear h; intro h
        refine g_iinc (k := 3) (v := (v1 + (5 : Int32))) (lv' := fun v54 => [(3, .int v54), (0, .ref b), (1, .ref (o.2.1 0 0)), (2, .ref (o.2.1 17 0))]) hx hb dL_law_823 hl rfl rfl (by decide) (fun _ => rfl) h ?_
        clear h hl; clear ls; intro v54 ls h hl
        refine lv_goto (tgt := 18) hx hb dL_law_826 (by decide) ?_
        exact hR4 (v54, M52) h _ _ _ hw (lv_sub hl [1, 2, 3, 0] rfl)
      · clear h; intro h
        refine lv_iconst (v := 0) hx hb dL_law_303 (by decide) ?_
        exact law_end hx hb hr hlocks hcc hcs hw hQ h dL_law_304
    rw [if_neg c6] at h
    by_cases c7 : (v5 &&& (31 : Int32)) = (7 : Int32)
    · rw [if_pos c7] at h
      refine lv_tableIn (tgt := 305) hx hb dL_law_32 (by rw [c7]; decide) (by rw [c7]; decide) (by rw [c7]; rfl) (by decide) ?_
      clear c7
      refine lv_aload_n hx hb dL_law_305 rfl (lv_at hl 1 rfl) ?_
      refine lv_aload_n hx hb dL_law_306 rfl (lv_at hl 0 rfl) ?_
      refine lv_iload_n hx hb dL_law_307 rfl (lv_at hl 3 rfl) ?_
      refine lv_iconst (v := 1) hx hb dL_law_308 (by decide) ?_
      refine lv_iadd hx hb dL_law_309 ?_
      refine g_sld hx hb hX hbl hbA hw h dL_law_310 ?_
      clear h; intro v55 h
      refine lv_aload_n hx hb dL_law_311 rfl (lv_at hl 0 rfl) ?_
      refine lv_iload_n hx hb dL_law_312 rfl (lv_at hl 3 rfl) ?_
      refine lv_iconst (v := 2) hx hb dL_law_313 (by decide) ?_
      refine lv_iadd hx hb dL_law_314 ?_
      refine g_sld hx hb hX hbl hbA hw h dL_law_315 ?_
      clear h; intro v56 h
      refine lv_aload_n hx hb dL_law_316 rfl (lv_at hl 0 rfl) ?_
      refine lv_iload_n hx hb dL_law_317 rfl (lv_at hl 3 rfl) ?_
      refine lv_iconst (v := 3) hx hb dL_law_318 (by decide) ?_
      refine lv_iadd hx hb dL_law_319 ?_
      refine g_sld hx hb hX hbl hbA hw h dL_law_320 ?_
      clear h; intro v57 h
      refine lv_aload_n hx hb dL_law_321 rfl (lv_at hl 0 rfl) ?_
      refine lv_iload_n hx hb dL_law_322 rfl (lv_at hl 3 rfl) ?_
      refine lv_iconst (v := 4) hx hb dL_law_323 (by decide) ?_
      refine lv_iadd hx hb dL_law_324 ?_
      refine g_sld hx hb hX hbl hbA hw h dL_law_325 ?_
      clear h; intro v58 h
      refine g_ci hw (g_runV (As := [.int v55, .int v56, .int v57, .int v58]) (rest := []) hx hb hml hown hts mX4_add vX4_add kL_44 hw 0 0 (ci_0 (by decide)) (bi_0 (by decide) (Nat.le_trans (by decide) hn)) rfl rfl (c_X4_add (Nat.le_trans (by decide) hn) h) rfl rfl ⟨Nat.le_of_ble_eq_true rfl, Nat.le_of_ble_eq_true rfl⟩ rfl hl.1 rfl (Nat.le_of_ble_eq_true rfl) dL_law_326 ⟨hcc, hcs⟩) ?_
      clear h hw; intro v60 M59 H locs hw h
      refine lv_aload_n hx hb dL_law_329 rfl (lv_at hl 2 rfl) ?_
      refine lv_aload_n hx hb dL_law_330 rfl (lv_at hl 0 rfl) ?_
      refine lv_iload_n hx hb dL_law_331 rfl (lv_at hl 3 rfl) ?_
      refine lv_iconst (v := 1) hx hb dL_law_332 (by decide) ?_
      refine lv_iadd hx hb dL_law_333 ?_
      refine g_sld hx hb hX hbl hbA hw h dL_law_334 ?_
      clear h; intro v61 h
      refine lv_aload_n hx hb dL_law_335 rfl (lv_at hl 0 rfl) ?_
      refine lv_iload_n hx hb dL_law_336 rfl (lv_at hl 3 rfl) ?_
      refine lv_iconst (v := 2) hx hb dL_law_337 (by decide) ?_
      refine lv_iadd hx hb dL_law_338 ?_
      refine g_sld hx hb hX hbl hbA hw h dL_law_339 ?_
      clear h; intro v62 h
      refine lv_aload_n hx hb dL_law_340 rfl (lv_at hl 0 rfl) ?_
      refine lv_iload_n hx hb dL_law_341 rfl (lv_at hl 3 rfl) ?_
      refine lv_iconst (v := 3) hx hb dL_law_342 (by decide) ?_
      refine lv_iadd hx hb dL_law_343 ?_
      refine g_sld hx hb hX hbl hbA hw h dL_law_344 ?_
      clear h; intro v63 h
      refine lv_aload_n hx hb dL_law_345 rfl (lv_at hl 0 rfl) ?_
      refine lv_iload_n hx hb dL_law_346 rfl (lv_at hl 3 rfl) ?_
      refine lv_iconst (v := 4) hx hb dL_law_347 (by decide) ?_
      refine lv_iadd hx hb dL_law_348 ?_
      refine g_sld hx hb hX hbl hbA hw h dL_law_349 ?_
      clear h; intro v64 h
      refine g_ci hw (g_runV (As := [.int v61, .int v62, .int v63, .int v64]) (rest := [.int v60]) hx hb hml hown hts mX5_add vX5_add kL_48 hw 17 0 (ci_17 (by decide)) (bi_17 (by decide) hn) rfl rfl (c_X5_add hn h) rfl rfl ⟨Nat.le_of_ble_eq_true rfl, Nat.le_of_ble_eq_true rfl⟩ rfl hl.1 rfl (Nat.le_of_ble_eq_true rfl) dL_law_350 ⟨hcc, hcs⟩) ?_
      clear h hw; intro v66 M65 H locs hw h
      refine g_icmp_eq (tgt := 823) hx hb h dL_law_353 (by decide) ?_ ?_
      · clear h; intro h
        refine g_iinc (k := 3) (v := (v1 + (5 : Int32))) (lv' := fun v67 => [(3, .int v67), (0, .ref b), (1, .ref (o.2.1 0 0)), (2, .ref (o.2.1 17 0))]) hx hb dL_law_823 hl rfl rfl (by decide) (fun _ => rfl) h ?_
        clear h hl; clear ls; intro v67 ls h hl
        refine lv_goto (tgt := 18) hx hb dL_law_826 (by decide) ?_
        exact hR4 (v67, M65) h _ _ _ hw (lv_sub hl [1, 2, 3, 0] rfl)
      · clear h; intro h
        refine lv_iconst (v := 0) hx hb dL_law_356 (by decide) ?_
        exact law_end hx hb hr hlocks hcc hcs hw hQ h dL_law_357
    rw [if_neg c7] at h
    by_cases c8 : (v5 &&& (31 : Int32)) = (8 : Int32)
    · rw [if_pos c8] at h
      refine lv_tableIn (tgt := 358) hx hb dL_law_32 (by rw [c8]; decide) (by rw [c8]; decide) (by rw [c8]; rfl) (by decide) ?_
      clear c8
      refine lv_aload_n hx hb dL_law_358 rfl (lv_at hl 1 rfl) ?_
      refine lv_aload_n hx hb dL_law_359 rfl (lv_at hl 0 rfl) ?_
      refine lv_iload_n hx hb dL_law_360 rfl (lv_at hl 3 rfl) ?_
      refine lv_iconst (v := 1) hx hb dL_law_361 (by decide) ?_
      refine lv_iadd hx hb dL_law_362 ?_
      refine g_sld hx hb hX hbl hbA hw h dL_law_363 ?_
      clear h; intro v68 h
      refine g_ci hw (g_runV (As := [.int v68]) (rest := []) hx hb hml hown hts mX4_drop vX4_drop kL_49 hw 0 0 (ci_0 (by decide)) (bi_0 (by decide) (Nat.le_trans (by decide) hn)) rfl rfl (c_X4_drop (Nat.le_trans (by decide) hn) h) rfl rfl ⟨Nat.le_of_ble_eq_true rfl, Nat.le_of_ble_eq_true rfl⟩ rfl hl.1 rfl (Nat.le_of_ble_eq_true rfl) dL_law_364 ⟨hcc, hcs⟩) ?_
      clear h hw; intro v70 M69 H locs hw h
      refine lv_aload_n hx hb dL_law_367 rfl (lv_at hl 2 rfl) ?_
      refine lv_aload_n hx hb dL_law_368 rfl (lv_at hl 0 rfl) ?_
      refine lv_iload_n hx hb dL_law_369 rfl (lv_at hl 3 rfl) ?_
      refine lv_iconst (v := 1) hx hb dL_law_370 (by decide) ?_
      refine lv_iadd hx hb dL_law_371 ?_
      refine g_sld hx hb hX hbl hbA hw h dL_law_372 ?_
      clear h; intro v71 h
      refine g_ci hw (g_runV (As := [.int v71]) (rest := [.int v70]) hx hb hml hown hts mX5_drop vX5_drop kL_52 hw 17 0 (ci_17 (by decide)) (bi_17 (by decide) hn) rfl rfl (c_X5_drop hn h) rfl rfl ⟨Nat.le_of_ble_eq_true rfl, Nat.le_of_ble_eq_true rfl⟩ rfl hl.1 rfl (Nat.le_of_ble_eq_true rfl) dL_law_373 ⟨hcc, hcs⟩) ?_
      clear h hw; intro v73 M72 H locs hw h
      refine g_icmp_eq (tgt := 823) hx hb h dL_law_376 (by decide) ?_ ?_
      · clear h; intro h
        refine g_iinc (k := 3) (v := (v1 + (5 : Int32))) (lv' := fun v74 => [(3, .int v74), (0, .ref b), (1, .ref (o.2.1 0 0)), (2, .ref (o.2.1 17 0))]) hx hb dL_law_823 hl rfl rfl (by decide) (fun _ => rfl) h ?_
        clear h hl; clear ls; intro v74 ls h hl
        refine lv_goto (tgt := 18) hx hb dL_law_826 (by decide) ?_
        exact hR4 (v74, M72) h _ _ _ hw (lv_sub hl [1, 2, 3, 0] rfl)
      · clear h; intro h
        refine lv_iconst (v := 0) hx hb dL_law_379 (by decide) ?_
        exact law_end hx hb hr hlocks hcc hcs hw hQ h dL_law_380
    rw [if_neg c8] at h
    by_cases c9 : (v5 &&& (31 : Int32)) = (9 : Int32)
    · rw [if_pos c9] at h
      refine lv_tableIn (tgt := 381) hx hb dL_law_32 (by rw [c9]; decide) (by rw [c9]; decide) (by rw [c9]; rfl) (by decide) ?_
      clear c9
      refine lv_aload_n hx hb dL_law_381 rfl (lv_at hl 1 rfl) ?_
      refine lv_aload_n hx hb dL_law_382 rfl (lv_at hl 0 rfl) ?_
      refine lv_iload_n hx hb dL_law_383 rfl (lv_at hl 3 rfl) ?_
      refine lv_iconst (v := 1) hx hb dL_law_384 (by decide) ?_
      refine lv_iadd hx hb dL_law_385 ?_
      refine g_sld hx hb hX hbl hbA hw h dL_law_386 ?_
      clear h; intro v75 h
      refine lv_aload_n hx hb dL_law_387 rfl (lv_at hl 0 rfl) ?_
      refine lv_iload_n hx hb dL_law_388 rfl (lv_at hl 3 rfl) ?_
      refine lv_iconst (v := 2) hx hb dL_law_389 (by decide) ?_
      refine lv_iadd hx hb dL_law_390 ?_
      refine g_sld hx hb hX hbl hbA hw h dL_law_391 ?_
      clear h; intro v76 h
      refine g_ci hw (g_runV (As := [.int v75, .int v76]) (rest := []) hx hb hml hown hts mX4_move vX4_move kL_53 hw 0 0 (ci_0 (by decide)) (bi_0 (by decide) (Nat.le_trans (by decide) hn)) rfl rfl (c_X4_move (Nat.le_trans (by decide) hn) h) rfl rfl ⟨Nat.le_of_ble_eq_true rfl, Nat.le_of_ble_eq_true rfl⟩ rfl hl.1 rfl (Nat.le_of_ble_eq_true rfl) dL_law_392 ⟨hcc, hcs⟩) ?_
      clear h hw; intro v78 M77 H locs hw h
      refine lv_aload_n hx hb dL_law_395 rfl (lv_at hl 2 rfl) ?_
      refine lv_aload_n hx hb dL_law_396 rfl (lv_at hl 0 rfl) ?_
      refine lv_iload_n hx hb dL_law_397 rfl (lv_at hl 3 rfl) ?_
      refine lv_iconst (v := 1) hx hb dL_law_398 (by decide) ?_
      refine lv_iadd hx hb dL_law_399 ?_
      refine g_sld hx hb hX hbl hbA hw h dL_law_400 ?_
      clear h; intro v79 h
      refine lv_aload_n hx hb dL_law_401 rfl (lv_at hl 0 rfl) ?_
      refine lv_iload_n hx hb dL_law_402 rfl (lv_at hl 3 rfl) ?_
      refine lv_iconst (v := 2) hx hb dL_law_403 (by decide) ?_
      refine lv_iadd hx hb dL_law_404 ?_
      refine g_sld hx hb hX hbl hbA hw h dL_law_405 ?_
      clear h; intro v80 h
      refine g_ci hw (g_runV (As := [.int v79, .int v80]) (rest := [.int v78]) hx hb hml hown hts mX5_move vX5_move kL_56 hw 17 0 (ci_17 (by decide)) (bi_17 (by decide) hn) rfl rfl (c_X5_move hn h) rfl rfl ⟨Nat.le_of_ble_eq_true rfl, Nat.le_of_ble_eq_true rfl⟩ rfl hl.1 rfl (Nat.le_of_ble_eq_true rfl) dL_law_406 ⟨hcc, hcs⟩) ?_
      clear h hw; intro v82 M81 H locs hw h
      refine g_icmp_eq (tgt := 823) hx hb h dL_law_409 (by decide) ?_ ?_
      · clear h; intro h
        refine g_iinc (k := 3) (v := (v1 + (5 : Int32))) (lv' := fun v83 => [(3, .int v83), (0, .ref b), (1, .ref (o.2.1 0 0)), (2, .ref (o.2.1 17 0))]) hx hb dL_law_823 hl rfl rfl (by decide) (fun _ => rfl) h ?_
        clear h hl; clear ls; intro v83 ls h hl
        refine lv_goto (tgt := 18) hx hb dL_law_826 (by decide) ?_
        exact hR4 (v83, M81) h _ _ _ hw (lv_sub hl [1, 2, 3, 0] rfl)
      · clear h; intro h
        refine lv_iconst (v := 0) hx hb dL_law_412 (by decide) ?_
        exact law_end hx hb hr hlocks hcc hcs hw hQ h dL_law_413
    rw [if_neg c9] at h
    by_cases c10 : (v5 &&& (31 : Int32)) = (10 : Int32)
    · rw [if_pos c10] at h
      refine lv_tableIn (tgt := 414) hx hb dL_law_32 (by rw [c10]; decide) (by rw [c10]; decide) (by rw [c10]; rfl) (by decide) ?_
      clear c10
      refine lv_aload_n hx hb dL_law_414 rfl (lv_at hl 1 rfl) ?_
      refine lv_aload_n hx hb dL_law_415 rfl (lv_at hl 0 rfl) ?_
      refine lv_iload_n hx hb dL_law_416 rfl (lv_at hl 3 rfl) ?_
      refine lv_iconst (v := 1) hx hb dL_law_417 (by decide) ?_
      refine lv_iadd hx hb dL_law_418 ?_
      refine g_sld hx hb hX hbl hbA hw h dL_law_419 ?_
      clear h; intro v84 h
      refine lv_aload_n hx hb dL_law_420 rfl (lv_at hl 0 rfl) ?_
      refine lv_iload_n hx hb dL_law_421 rfl (lv_at hl 3 rfl) ?_
      refine lv_iconst (v := 2) hx hb dL_law_422 (by decide) ?_
      refine lv_iadd hx hb dL_law_423 ?_
      refine g_sld hx hb hX hbl hbA hw h dL_law_424 ?_
      clear h; intro v85 h
      refine g_ci hw (g_runV (As := [.int v84, .int v85]) (rest := []) hx hb hml hown hts mX4_stretch vX4_stretch kL_57 hw 0 0 (ci_0 (by decide)) (bi_0 (by decide) (Nat.le_trans (by decide) hn)) rfl rfl (c_X4_stretch (Nat.le_trans (by decide) hn) h) rfl rfl ⟨Nat.le_of_ble_eq_true rfl, Nat.le_of_ble_eq_true rfl⟩ rfl hl.1 rfl (Nat.le_of_ble_eq_true rfl) dL_law_425 ⟨hcc, hcs⟩) ?_
      clear h hw; intro v87 M86 H locs hw h
      refine lv_aload_n hx hb dL_law_428 rfl (lv_at hl 2 rfl) ?_
      refine lv_aload_n hx hb dL_law_429 rfl (lv_at hl 0 rfl) ?_
      refine lv_iload_n hx hb dL_law_430 rfl (lv_at hl 3 rfl) ?_
      refine lv_iconst (v := 1) hx hb dL_law_431 (by decide) ?_
      refine lv_iadd hx hb dL_law_432 ?_
      refine g_sld hx hb hX hbl hbA hw h dL_law_433 ?_
      clear h; intro v88 h
      refine lv_aload_n hx hb dL_law_434 rfl (lv_at hl 0 rfl) ?_
      refine lv_iload_n hx hb dL_law_435 rfl (lv_at hl 3 rfl) ?_
      refine lv_iconst (v := 2) hx hb dL_law_436 (by decide) ?_
      refine lv_iadd hx hb dL_law_437 ?_
      refine g_sld hx hb hX hbl hbA hw h dL_law_438 ?_
      clear h; intro v89 h
      refine g_ci hw (g_runV (As := [.int v88, .int v89]) (rest := [.int v87]) hx hb hml hown hts mX5_stretch vX5_stretch kL_60 hw 17 0 (ci_17 (by decide)) (bi_17 (by decide) hn) rfl rfl (c_X5_stretch hn h) rfl rfl ⟨Nat.le_of_ble_eq_true rfl, Nat.le_of_ble_eq_true rfl⟩ rfl hl.1 rfl (Nat.le_of_ble_eq_true rfl) dL_law_439 ⟨hcc, hcs⟩) ?_
      clear h hw; intro v91 M90 H locs hw h
      refine g_icmp_eq (tgt := 823) hx hb h dL_law_442 (by decide) ?_ ?_
      · clear h; intro h
        refine g_iinc (k := 3) (v := (v1 + (5 : Int32))) (lv' := fun v92 => [(3, .int v92), (0, .ref b), (1, .ref (o.2.1 0 0)), (2, .ref (o.2.1 17 0))]) hx hb dL_law_823 hl rfl rfl (by decide) (fun _ => rfl) h ?_
        clear h hl; clear ls; intro v92 ls h hl
        refine lv_goto (tgt := 18) hx hb dL_law_826 (by decide) ?_
        exact hR4 (v92, M90) h _ _ _ hw (lv_sub hl [1, 2, 3, 0] rfl)
      · clear h; intro h
        refine lv_iconst (v := 0) hx hb dL_law_445 (by decide) ?_
        exact law_end hx hb hr hlocks hcc hcs hw hQ h dL_law_446
    rw [if_neg c10] at h
    by_cases c11 : (v5 &&& (31 : Int32)) = (11 : Int32)
    · rw [if_pos c11] at h
      refine lv_tableIn (tgt := 447) hx hb dL_law_32 (by rw [c11]; decide) (by rw [c11]; decide) (by rw [c11]; rfl) (by decide) ?_
      clear c11
      refine lv_aload_n hx hb dL_law_447 rfl (lv_at hl 1 rfl) ?_
      refine lv_aload_n hx hb dL_law_448 rfl (lv_at hl 0 rfl) ?_
      refine lv_iload_n hx hb dL_law_449 rfl (lv_at hl 3 rfl) ?_
      refine lv_iconst (v := 1) hx hb dL_law_450 (by decide) ?_
      refine lv_iadd hx hb dL_law_451 ?_
      refine g_sld hx hb hX hbl hbA hw h dL_law_452 ?_
      clear h; intro v93 h
      refine lv_aload_n hx hb dL_law_453 rfl (lv_at hl 0 rfl) ?_
      refine lv_iload_n hx hb dL_law_454 rfl (lv_at hl 3 rfl) ?_
      refine lv_iconst (v := 2) hx hb dL_law_455 (by decide) ?_
      refine lv_iadd hx hb dL_law_456 ?_
      refine g_sld hx hb hX hbl hbA hw h dL_law_457 ?_
      clear h; intro v94 h
      refine lv_aload_n hx hb dL_law_458 rfl (lv_at hl 0 rfl) ?_
      refine lv_iload_n hx hb dL_law_459 rfl (lv_at hl 3 rfl) ?_
      refine lv_iconst (v := 3) hx hb dL_law_460 (by decide) ?_
      refine lv_iadd hx hb dL_law_461 ?_
      refine g_sld hx hb hX hbl hbA hw h dL_law_462 ?_
      clear h; intro v95 h
      refine g_ci hw (g_runV (As := [.int v93, .int v94, .int v95]) (rest := []) hx hb hml hown hts mX4_settle vX4_settle kL_61 hw 0 0 (ci_0 (by decide)) (bi_0 (by decide) (Nat.le_trans (by decide) hn)) rfl rfl (c_X4_settle (Nat.le_trans (by decide) hn) h) rfl rfl ⟨Nat.le_of_ble_eq_true rfl, Nat.le_of_ble_eq_true rfl⟩ rfl hl.1 rfl (Nat.le_of_ble_eq_true rfl) dL_law_463 ⟨hcc, hcs⟩) ?_
      clear h hw; intro v97 M96 H locs hw h
      refine lv_aload_n hx hb dL_law_466 rfl (lv_at hl 2 rfl) ?_
      refine lv_aload_n hx hb dL_law_467 rfl (lv_at hl 0 rfl) ?_
      refine lv_iload_n hx hb dL_law_468 rfl (lv_at hl 3 rfl) ?_
      refine lv_iconst (v := 1) hx hb dL_law_469 (by decide) ?_
      refine lv_iadd hx hb dL_law_470 ?_
      refine g_sld hx hb hX hbl hbA hw h dL_law_471 ?_
      clear h; intro v98 h
      refine lv_aload_n hx hb dL_law_472 rfl (lv_at hl 0 rfl) ?_
      refine lv_iload_n hx hb dL_law_473 rfl (lv_at hl 3 rfl) ?_
      refine lv_iconst (v := 2) hx hb dL_law_474 (by decide) ?_
      refine lv_iadd hx hb dL_law_475 ?_
      refine g_sld hx hb hX hbl hbA hw h dL_law_476 ?_
      clear h; intro v99 h
      refine lv_aload_n hx hb dL_law_477 rfl (lv_at hl 0 rfl) ?_
      refine lv_iload_n hx hb dL_law_478 rfl (lv_at hl 3 rfl) ?_
      refine lv_iconst (v := 3) hx hb dL_law_479 (by decide) ?_
      refine lv_iadd hx hb dL_law_480 ?_
      refine g_sld hx hb hX hbl hbA hw h dL_law_481 ?_
      clear h; intro v100 h
      refine g_ci hw (g_runV (As := [.int v98, .int v99, .int v100]) (rest := [.int v97]) hx hb hml hown hts mX5_settle vX5_settle kL_65 hw 17 0 (ci_17 (by decide)) (bi_17 (by decide) hn) rfl rfl (c_X5_settle hn h) rfl rfl ⟨Nat.le_of_ble_eq_true rfl, Nat.le_of_ble_eq_true rfl⟩ rfl hl.1 rfl (Nat.le_of_ble_eq_true rfl) dL_law_482 ⟨hcc, hcs⟩) ?_
      clear h hw; intro v102 M101 H locs hw h
      refine g_icmp_eq (tgt := 823) hx hb h dL_law_485 (by decide) ?_ ?_
      · clear h; intro h
        refine g_iinc (k := 3) (v := (v1 + (5 : Int32))) (lv' := fun v103 => [(3, .int v103), (0, .ref b), (1, .ref (o.2.1 0 0)), (2, .ref (o.2.1 17 0))]) hx hb dL_law_823 hl rfl rfl (by decide) (fun _ => rfl) h ?_
        clear h hl; clear ls; intro v103 ls h hl
        refine lv_goto (tgt := 18) hx hb dL_law_826 (by decide) ?_
        exact hR4 (v103, M101) h _ _ _ hw (lv_sub hl [1, 2, 3, 0] rfl)
      · clear h; intro h
        refine lv_iconst (v := 0) hx hb dL_law_488 (by decide) ?_
        exact law_end hx hb hr hlocks hcc hcs hw hQ h dL_law_489
    rw [if_neg c11] at h
    by_cases c12 : (v5 &&& (31 : Int32)) = (12 : Int32)
    · rw [if_pos c12] at h
      refine lv_tableIn (tgt := 490) hx hb dL_law_32 (by rw [c12]; decide) (by rw [c12]; decide) (by rw [c12]; rfl) (by decide) ?_
      clear c12
      refine lv_aload_n hx hb dL_law_490 rfl (lv_at hl 1 rfl) ?_
      refine lv_aload_n hx hb dL_law_491 rfl (lv_at hl 0 rfl) ?_
      refine lv_iload_n hx hb dL_law_492 rfl (lv_at hl 3 rfl) ?_
      refine lv_iconst (v := 1) hx hb dL_law_493 (by decide) ?_
      refine lv_iadd hx hb dL_law_494 ?_
      refine g_sld hx hb hX hbl hbA hw h dL_law_495 ?_
      clear h; intro v104 h
      refine lv_aload_n hx hb dL_law_496 rfl (lv_at hl 0 rfl) ?_
      refine lv_iload_n hx hb dL_law_497 rfl (lv_at hl 3 rfl) ?_
      refine lv_iconst (v := 2) hx hb dL_law_498 (by decide) ?_
      refine lv_iadd hx hb dL_law_499 ?_
      refine g_sld hx hb hX hbl hbA hw h dL_law_500 ?_
      clear h; intro v105 h
      refine g_ci hw (g_runV (As := [.int v104, .int v105]) (rest := []) hx hb hml hown hts mX4_entry vX4_entry kL_66 hw 0 0 (ci_0 (by decide)) (bi_0 (by decide) (Nat.le_trans (by decide) hn)) rfl rfl (c_X4_entry (Nat.le_trans (by decide) hn) h) rfl rfl ⟨Nat.le_of_ble_eq_true rfl, Nat.le_of_ble_eq_true rfl⟩ rfl hl.1 rfl (Nat.le_of_ble_eq_true rfl) dL_law_501 ⟨hcc, hcs⟩) ?_
      clear h hw; intro v107 M106 H locs hw h
      refine lv_aload_n hx hb dL_law_504 rfl (lv_at hl 2 rfl) ?_
      refine lv_aload_n hx hb dL_law_505 rfl (lv_at hl 0 rfl) ?_
      refine lv_iload_n hx hb dL_law_506 rfl (lv_at hl 3 rfl) ?_
      refine lv_iconst (v := 1) hx hb dL_law_507 (by decide) ?_
      refine lv_iadd hx hb dL_law_508 ?_
      refine g_sld hx hb hX hbl hbA hw h dL_law_509 ?_
      clear h; intro v108 h
      refine lv_aload_n hx hb dL_law_510 rfl (lv_at hl 0 rfl) ?_
      refine lv_iload_n hx hb dL_law_511 rfl (lv_at hl 3 rfl) ?_
      refine lv_iconst (v := 2) hx hb dL_law_512 (by decide) ?_
      refine lv_iadd hx hb dL_law_513 ?_
      refine g_sld hx hb hX hbl hbA hw h dL_law_514 ?_
      clear h; intro v109 h
      refine g_ci hw (g_runV (As := [.int v108, .int v109]) (rest := [.int v107]) hx hb hml hown hts mX5_entry vX5_entry kL_69 hw 17 0 (ci_17 (by decide)) (bi_17 (by decide) hn) rfl rfl (c_X5_entry hn h) rfl rfl ⟨Nat.le_of_ble_eq_true rfl, Nat.le_of_ble_eq_true rfl⟩ rfl hl.1 rfl (Nat.le_of_ble_eq_true rfl) dL_law_515 ⟨hcc, hcs⟩) ?_
      clear h hw; intro v111 M110 H locs hw h
      refine g_icmp_eq (tgt := 823) hx hb h dL_law_518 (by decide) ?_ ?_
      · clear h; intro h
        refine g_iinc (k := 3) (v := (v1 + (5 : Int32))) (lv' := fun v112 => [(3, .int v112), (0, .ref b), (1, .ref (o.2.1 0 0)), (2, .ref (o.2.1 17 0))]) hx hb dL_law_823 hl rfl rfl (by decide) (fun _ => rfl) h ?_
        clear h hl; clear ls; intro v112 ls h hl
        refine lv_goto (tgt := 18) hx hb dL_law_826 (by decide) ?_
        exact hR4 (v112, M110) h _ _ _ hw (lv_sub hl [1, 2, 3, 0] rfl)
      · clear h; intro h
        refine lv_iconst (v := 0) hx hb dL_law_521 (by decide) ?_
        exact law_end hx hb hr hlocks hcc hcs hw hQ h dL_law_522
    rw [if_neg c12] at h
    by_cases c13 : (v5 &&& (31 : Int32)) = (13 : Int32)
    · rw [if_pos c13] at h
      refine lv_tableIn (tgt := 523) hx hb dL_law_32 (by rw [c13]; decide) (by rw [c13]; decide) (by rw [c13]; rfl) (by decide) ?_
      clear c13
      refine lv_aload_n hx hb dL_law_523 rfl (lv_at hl 1 rfl) ?_
      refine lv_aload_n hx hb dL_law_524 rfl (lv_at hl 0 rfl) ?_
      refine lv_iload_n hx hb dL_law_525 rfl (lv_at hl 3 rfl) ?_
      refine lv_iconst (v := 1) hx hb dL_law_526 (by decide) ?_
      refine lv_iadd hx hb dL_law_527 ?_
      refine g_sld hx hb hX hbl hbA hw h dL_law_528 ?_
      clear h; intro v113 h
      refine lv_aload_n hx hb dL_law_529 rfl (lv_at hl 0 rfl) ?_
      refine lv_iload_n hx hb dL_law_530 rfl (lv_at hl 3 rfl) ?_
      refine lv_iconst (v := 2) hx hb dL_law_531 (by decide) ?_
      refine lv_iadd hx hb dL_law_532 ?_
      refine g_sld hx hb hX hbl hbA hw h dL_law_533 ?_
      clear h; intro v114 h
      refine lv_aload_n hx hb dL_law_534 rfl (lv_at hl 0 rfl) ?_
      refine lv_iload_n hx hb dL_law_535 rfl (lv_at hl 3 rfl) ?_
      refine lv_iconst (v := 3) hx hb dL_law_536 (by decide) ?_
      refine lv_iadd hx hb dL_law_537 ?_
      refine g_sld hx hb hX hbl hbA hw h dL_law_538 ?_
      clear h; intro v115 h
      refine g_ci hw (g_runV (As := [.int v113, .int v114, .int v115]) (rest := []) hx hb hml hown hts mX4_bar vX4_bar kL_70 hw 0 0 (ci_0 (by decide)) (bi_0 (by decide) (Nat.le_trans (by decide) hn)) rfl rfl (c_X4_bar (Nat.le_trans (by decide) hn) h) rfl rfl ⟨Nat.le_of_ble_eq_true rfl, Nat.le_of_ble_eq_true rfl⟩ rfl hl.1 rfl (Nat.le_of_ble_eq_true rfl) dL_law_539 ⟨hcc, hcs⟩) ?_
      clear h hw; intro v117 M116 H locs hw h
      refine lv_aload_n hx hb dL_law_542 rfl (lv_at hl 2 rfl) ?_
      refine lv_aload_n hx hb dL_law_543 rfl (lv_at hl 0 rfl) ?_
      refine lv_iload_n hx hb dL_law_544 rfl (lv_at hl 3 rfl) ?_
      refine lv_iconst (v := 1) hx hb dL_law_545 (by decide) ?_
      refine lv_iadd hx hb dL_law_546 ?_
      refine g_sld hx hb hX hbl hbA hw h dL_law_547 ?_
      clear h; intro v118 h
      refine lv_aload_n hx hb dL_law_548 rfl (lv_at hl 0 rfl) ?_
      refine lv_iload_n hx hb dL_law_549 rfl (lv_at hl 3 rfl) ?_
      refine lv_iconst (v := 2) hx hb dL_law_550 (by decide) ?_
      refine lv_iadd hx hb dL_law_551 ?_
      refine g_sld hx hb hX hbl hbA hw h dL_law_552 ?_
      clear h; intro v119 h
      refine lv_aload_n hx hb dL_law_553 rfl (lv_at hl 0 rfl) ?_
      refine lv_iload_n hx hb dL_law_554 rfl (lv_at hl 3 rfl) ?_
      refine lv_iconst (v := 3) hx hb dL_law_555 (by decide) ?_
      refine lv_iadd hx hb dL_law_556 ?_
      refine g_sld hx hb hX hbl hbA hw h dL_law_557 ?_
      clear h; intro v120 h
      refine g_ci hw (g_runV (As := [.int v118, .int v119, .int v120]) (rest := [.int v117]) hx hb hml hown hts mX5_bar vX5_bar kL_73 hw 17 0 (ci_17 (by decide)) (bi_17 (by decide) hn) rfl rfl (c_X5_bar hn h) rfl rfl ⟨Nat.le_of_ble_eq_true rfl, Nat.le_of_ble_eq_true rfl⟩ rfl hl.1 rfl (Nat.le_of_ble_eq_true rfl) dL_law_558 ⟨hcc, hcs⟩) ?_
      clear h hw; intro v122 M121 H locs hw h
      refine g_icmp_eq (tgt := 823) hx hb h dL_law_561 (by decide) ?_ ?_
      · clear h; intro h
        refine g_iinc (k := 3) (v := (v1 + (5 : Int32))) (lv' := fun v123 => [(3, .int v123), (0, .ref b), (1, .ref (o.2.1 0 0)), (2, .ref (o.2.1 17 0))]) hx hb dL_law_823 hl rfl rfl (by decide) (fun _ => rfl) h ?_
        clear h hl; clear ls; intro v123 ls h hl
        refine lv_goto (tgt := 18) hx hb dL_law_826 (by decide) ?_
        exact hR4 (v123, M121) h _ _ _ hw (lv_sub hl [1, 2, 3, 0] rfl)
      · clear h; intro h
        refine lv_iconst (v := 0) hx hb dL_law_564 (by decide) ?_
        exact law_end hx hb hr hlocks hcc hcs hw hQ h dL_law_565
    rw [if_neg c13] at h
    by_cases c14 : (v5 &&& (31 : Int32)) = (14 : Int32)
    · rw [if_pos c14] at h
      refine lv_tableIn (tgt := 566) hx hb dL_law_32 (by rw [c14]; decide) (by rw [c14]; decide) (by rw [c14]; rfl) (by decide) ?_
      clear c14
      refine lv_aload_n hx hb dL_law_566 rfl (lv_at hl 1 rfl) ?_
      refine lv_aload_n hx hb dL_law_567 rfl (lv_at hl 0 rfl) ?_
      refine lv_iload_n hx hb dL_law_568 rfl (lv_at hl 3 rfl) ?_
      refine lv_iconst (v := 1) hx hb dL_law_569 (by decide) ?_
      refine lv_iadd hx hb dL_law_570 ?_
      refine g_sld hx hb hX hbl hbA hw h dL_law_571 ?_
      clear h; intro v124 h
      refine lv_aload_n hx hb dL_law_572 rfl (lv_at hl 0 rfl) ?_
      refine lv_iload_n hx hb dL_law_573 rfl (lv_at hl 3 rfl) ?_
      refine lv_iconst (v := 2) hx hb dL_law_574 (by decide) ?_
      refine lv_iadd hx hb dL_law_575 ?_
      refine g_sld hx hb hX hbl hbA hw h dL_law_576 ?_
      clear h; intro v125 h
      refine g_ci hw (g_runV (As := [.int v124, .int v125]) (rest := []) hx hb hml hown hts mX4_shown vX4_shown kL_74 hw 0 0 (ci_0 (by decide)) (bi_0 (by decide) (Nat.le_trans (by decide) hn)) rfl rfl (c_X4_shown (Nat.le_trans (by decide) hn) h) rfl rfl ⟨Nat.le_of_ble_eq_true rfl, Nat.le_of_ble_eq_true rfl⟩ rfl hl.1 rfl (Nat.le_of_ble_eq_true rfl) dL_law_577 ⟨hcc, hcs⟩) ?_
      clear h hw; intro v127 M126 H locs hw h
      refine lv_aload_n hx hb dL_law_580 rfl (lv_at hl 2 rfl) ?_
      refine lv_aload_n hx hb dL_law_581 rfl (lv_at hl 0 rfl) ?_
      refine lv_iload_n hx hb dL_law_582 rfl (lv_at hl 3 rfl) ?_
      refine lv_iconst (v := 1) hx hb dL_law_583 (by decide) ?_
      refine lv_iadd hx hb dL_law_584 ?_
      refine g_sld hx hb hX hbl hbA hw h dL_law_585 ?_
      clear h; intro v128 h
      refine lv_aload_n hx hb dL_law_586 rfl (lv_at hl 0 rfl) ?_
      refine lv_iload_n hx hb dL_law_587 rfl (lv_at hl 3 rfl) ?_
      refine lv_iconst (v := 2) hx hb dL_law_588 (by decide) ?_
      refine lv_iadd hx hb dL_law_589 ?_
      refine g_sld hx hb hX hbl hbA hw h dL_law_590 ?_
      clear h; intro v129 h
      refine g_ci hw (g_runV (As := [.int v128, .int v129]) (rest := [.int v127]) hx hb hml hown hts mX5_shown vX5_shown kL_77 hw 17 0 (ci_17 (by decide)) (bi_17 (by decide) hn) rfl rfl (c_X5_shown hn h) rfl rfl ⟨Nat.le_of_ble_eq_true rfl, Nat.le_of_ble_eq_true rfl⟩ rfl hl.1 rfl (Nat.le_of_ble_eq_true rfl) dL_law_591 ⟨hcc, hcs⟩) ?_
      clear h hw; intro v131 M130 H locs hw h
      refine g_icmp_eq (tgt := 823) hx hb h dL_law_594 (by decide) ?_ ?_
      · clear h; intro h
        refine g_iinc (k := 3) (v := (v1 + (5 : Int32))) (lv' := fun v132 => [(3, .int v132), (0, .ref b), (1, .ref (o.2.1 0 0)), (2, .ref (o.2.1 17 0))]) hx hb dL_law_823 hl rfl rfl (by decide) (fun _ => rfl) h ?_
        clear h hl; clear ls; intro v132 ls h hl
        refine lv_goto (tgt := 18) hx hb dL_law_826 (by decide) ?_
        exact hR4 (v132, M130) h _ _ _ hw (lv_sub hl [1, 2, 3, 0] rfl)
      · clear h; intro h
        refine lv_iconst (v := 0) hx hb dL_law_597 (by decide) ?_
        exact law_end hx hb hr hlocks hcc hcs hw hQ h dL_law_598
    rw [if_neg c14] at h
    by_cases c15 : (v5 &&& (31 : Int32)) = (15 : Int32)
    · rw [if_pos c15] at h
      refine lv_tableIn (tgt := 599) hx hb dL_law_32 (by rw [c15]; decide) (by rw [c15]; decide) (by rw [c15]; rfl) (by decide) ?_
      clear c15
      refine lv_aload_n hx hb dL_law_599 rfl (lv_at hl 1 rfl) ?_
      refine lv_aload_n hx hb dL_law_600 rfl (lv_at hl 0 rfl) ?_
      refine lv_iload_n hx hb dL_law_601 rfl (lv_at hl 3 rfl) ?_
      refine lv_iconst (v := 1) hx hb dL_law_602 (by decide) ?_
      refine lv_iadd hx hb dL_law_603 ?_
      refine g_sld hx hb hX hbl hbA hw h dL_law_604 ?_
      clear h; intro v133 h
      refine lv_aload_n hx hb dL_law_605 rfl (lv_at hl 0 rfl) ?_
      refine lv_iload_n hx hb dL_law_606 rfl (lv_at hl 3 rfl) ?_
      refine lv_iconst (v := 2) hx hb dL_law_607 (by decide) ?_
      refine lv_iadd hx hb dL_law_608 ?_
      refine g_sld hx hb hX hbl hbA hw h dL_law_609 ?_
      clear h; intro v134 h
      refine g_ci hw (g_runV (As := [.int v133, .int v134]) (rest := []) hx hb hml hown hts mX4_rowOf vX4_rowOf kL_78 hw 0 0 (ci_0 (by decide)) (bi_0 (by decide) (Nat.le_trans (by decide) hn)) rfl rfl (c_X4_rowOf (Nat.le_trans (by decide) hn) h) rfl rfl ⟨Nat.le_of_ble_eq_true rfl, Nat.le_of_ble_eq_true rfl⟩ rfl hl.1 rfl (Nat.le_of_ble_eq_true rfl) dL_law_610 ⟨hcc, hcs⟩) ?_
      clear h hw; intro v136 M135 H locs hw h
      refine lv_aload_n hx hb dL_law_613 rfl (lv_at hl 2 rfl) ?_
      refine lv_aload_n hx hb dL_law_614 rfl (lv_at hl 0 rfl) ?_
      refine lv_iload_n hx hb dL_law_615 rfl (lv_at hl 3 rfl) ?_
      refine lv_iconst (v := 1) hx hb dL_law_616 (by decide) ?_
      refine lv_iadd hx hb dL_law_617 ?_
      refine g_sld hx hb hX hbl hbA hw h dL_law_618 ?_
      clear h; intro v137 h
      refine lv_aload_n hx hb dL_law_619 rfl (lv_at hl 0 rfl) ?_
      refine lv_iload_n hx hb dL_law_620 rfl (lv_at hl 3 rfl) ?_
      refine lv_iconst (v := 2) hx hb dL_law_621 (by decide) ?_
      refine lv_iadd hx hb dL_law_622 ?_
      refine g_sld hx hb hX hbl hbA hw h dL_law_623 ?_
      clear h; intro v138 h
      refine g_ci hw (g_runV (As := [.int v137, .int v138]) (rest := [.int v136]) hx hb hml hown hts mX5_rowOf vX5_rowOf kL_81 hw 17 0 (ci_17 (by decide)) (bi_17 (by decide) hn) rfl rfl (c_X5_rowOf hn h) rfl rfl ⟨Nat.le_of_ble_eq_true rfl, Nat.le_of_ble_eq_true rfl⟩ rfl hl.1 rfl (Nat.le_of_ble_eq_true rfl) dL_law_624 ⟨hcc, hcs⟩) ?_
      clear h hw; intro v140 M139 H locs hw h
      refine g_icmp_eq (tgt := 823) hx hb h dL_law_627 (by decide) ?_ ?_
      · clear h; intro h
        refine g_iinc (k := 3) (v := (v1 + (5 : Int32))) (lv' := fun v141 => [(3, .int v141), (0, .ref b), (1, .ref (o.2.1 0 0)), (2, .ref (o.2.1 17 0))]) hx hb dL_law_823 hl rfl rfl (by decide) (fun _ => rfl) h ?_
        clear h hl; clear ls; intro v141 ls h hl
        refine lv_goto (tgt := 18) hx hb dL_law_826 (by decide) ?_
        exact hR4 (v141, M139) h _ _ _ hw (lv_sub hl [1, 2, 3, 0] rfl)
      · clear h; intro h
        refine lv_iconst (v := 0) hx hb dL_law_630 (by decide) ?_
        exact law_end hx hb hr hlocks hcc hcs hw hQ h dL_law_631
    rw [if_neg c15] at h
    by_cases c16 : (v5 &&& (31 : Int32)) = (16 : Int32)
    · rw [if_pos c16] at h
      refine lv_tableIn (tgt := 632) hx hb dL_law_32 (by rw [c16]; decide) (by rw [c16]; decide) (by rw [c16]; rfl) (by decide) ?_
      clear c16
      refine lv_aload_n hx hb dL_law_632 rfl (lv_at hl 1 rfl) ?_
      refine lv_aload_n hx hb dL_law_633 rfl (lv_at hl 0 rfl) ?_
      refine lv_iload_n hx hb dL_law_634 rfl (lv_at hl 3 rfl) ?_
      refine lv_iconst (v := 1) hx hb dL_law_635 (by decide) ?_
      refine lv_iadd hx hb dL_law_636 ?_
      refine g_sld hx hb hX hbl hbA hw h dL_law_637 ?_
      clear h; intro v142 h
      refine lv_aload_n hx hb dL_law_638 rfl (lv_at hl 0 rfl) ?_
      refine lv_iload_n hx hb dL_law_639 rfl (lv_at hl 3 rfl) ?_
      refine lv_iconst (v := 2) hx hb dL_law_640 (by decide) ?_
      refine lv_iadd hx hb dL_law_641 ?_
      refine g_sld hx hb hX hbl hbA hw h dL_law_642 ?_
      clear h; intro v143 h
      refine g_ci hw (g_runV (As := [.int v142, .int v143]) (rest := []) hx hb hml hown hts mX4_day vX4_day kL_82 hw 0 0 (ci_0 (by decide)) (bi_0 (by decide) (Nat.le_trans (by decide) hn)) rfl rfl (c_X4_day (Nat.le_trans (by decide) hn) h) rfl rfl ⟨Nat.le_of_ble_eq_true rfl, Nat.le_of_ble_eq_true rfl⟩ rfl hl.1 rfl (Nat.le_of_ble_eq_true rfl) dL_law_643 ⟨hcc, hcs⟩) ?_
      clear h hw; intro v145 M144 H locs hw h
      refine lv_aload_n hx hb dL_law_646 rfl (lv_at hl 2 rfl) ?_
      refine lv_aload_n hx hb dL_law_647 rfl (lv_at hl 0 rfl) ?_
      refine lv_iload_n hx hb dL_law_648 rfl (lv_at hl 3 rfl) ?_
      refine lv_iconst (v := 1) hx hb dL_law_649 (by decide) ?_
      refine lv_iadd hx hb dL_law_650 ?_
      refine g_sld hx hb hX hbl hbA hw h dL_law_651 ?_
      clear h; intro v146 h
      refine lv_aload_n hx hb dL_law_652 rfl (lv_at hl 0 rfl) ?_
      refine lv_iload_n hx hb dL_law_653 rfl (lv_at hl 3 rfl) ?_
      refine lv_iconst (v := 2) hx hb dL_law_654 (by decide) ?_
      refine lv_iadd hx hb dL_law_655 ?_
      refine g_sld hx hb hX hbl hbA hw h dL_law_656 ?_
      clear h; intro v147 h
      refine g_ci hw (g_runV (As := [.int v146, .int v147]) (rest := [.int v145]) hx hb hml hown hts mX5_day vX5_day kL_85 hw 17 0 (ci_17 (by decide)) (bi_17 (by decide) hn) rfl rfl (c_X5_day hn h) rfl rfl ⟨Nat.le_of_ble_eq_true rfl, Nat.le_of_ble_eq_true rfl⟩ rfl hl.1 rfl (Nat.le_of_ble_eq_true rfl) dL_law_657 ⟨hcc, hcs⟩) ?_
      clear h hw; intro v149 M148 H locs hw h
      refine g_icmp_eq (tgt := 823) hx hb h dL_law_660 (by decide) ?_ ?_
      · clear h; intro h
        refine g_iinc (k := 3) (v := (v1 + (5 : Int32))) (lv' := fun v150 => [(3, .int v150), (0, .ref b), (1, .ref (o.2.1 0 0)), (2, .ref (o.2.1 17 0))]) hx hb dL_law_823 hl rfl rfl (by decide) (fun _ => rfl) h ?_
        clear h hl; clear ls; intro v150 ls h hl
        refine lv_goto (tgt := 18) hx hb dL_law_826 (by decide) ?_
        exact hR4 (v150, M148) h _ _ _ hw (lv_sub hl [1, 2, 3, 0] rfl)
      · clear h; intro h
        refine lv_iconst (v := 0) hx hb dL_law_663 (by decide) ?_
        exact law_end hx hb hr hlocks hcc hcs hw hQ h dL_law_664
    rw [if_neg c16] at h
    by_cases c17 : (v5 &&& (31 : Int32)) = (17 : Int32)
    · rw [if_pos c17] at h
      refine lv_tableIn (tgt := 665) hx hb dL_law_32 (by rw [c17]; decide) (by rw [c17]; decide) (by rw [c17]; rfl) (by decide) ?_
      clear c17
      refine lv_aload_n hx hb dL_law_665 rfl (lv_at hl 1 rfl) ?_
      refine g_ci hw (g_runV (As := []) (rest := []) hx hb hml hown hts mX4_enough vX4_enough kL_86 hw 0 0 (ci_0 (by decide)) (bi_0 (by decide) (Nat.le_trans (by decide) hn)) rfl rfl (c_X4_enough (Nat.le_trans (by decide) hn) h) rfl rfl ⟨Nat.le_of_ble_eq_true rfl, Nat.le_of_ble_eq_true rfl⟩ rfl hl.1 rfl (Nat.le_of_ble_eq_true rfl) dL_law_666 ⟨hcc, hcs⟩) ?_
      clear h hw; intro v152 M151 H locs hw h
      refine lv_aload_n hx hb dL_law_669 rfl (lv_at hl 2 rfl) ?_
      refine g_ci hw (g_runV (As := []) (rest := [.int v152]) hx hb hml hown hts mX5_enough vX5_enough kL_89 hw 17 0 (ci_17 (by decide)) (bi_17 (by decide) hn) rfl rfl (c_X5_enough hn h) rfl rfl ⟨Nat.le_of_ble_eq_true rfl, Nat.le_of_ble_eq_true rfl⟩ rfl hl.1 rfl (Nat.le_of_ble_eq_true rfl) dL_law_670 ⟨hcc, hcs⟩) ?_
      clear h hw; intro v154 M153 H locs hw h
      refine g_icmp_eq (tgt := 823) hx hb h dL_law_673 (by decide) ?_ ?_
      · clear h; intro h
        refine g_iinc (k := 3) (v := (v1 + (5 : Int32))) (lv' := fun v155 => [(3, .int v155), (0, .ref b), (1, .ref (o.2.1 0 0)), (2, .ref (o.2.1 17 0))]) hx hb dL_law_823 hl rfl rfl (by decide) (fun _ => rfl) h ?_
        clear h hl; clear ls; intro v155 ls h hl
        refine lv_goto (tgt := 18) hx hb dL_law_826 (by decide) ?_
        exact hR4 (v155, M153) h _ _ _ hw (lv_sub hl [1, 2, 3, 0] rfl)
      · clear h; intro h
        refine lv_iconst (v := 0) hx hb dL_law_676 (by decide) ?_
        exact law_end hx hb hr hlocks hcc hcs hw hQ h dL_law_677
    rw [if_neg c17] at h
    by_cases c18 : (v5 &&& (31 : Int32)) = (18 : Int32)
    · rw [if_pos c18] at h
      refine lv_tableIn (tgt := 678) hx hb dL_law_32 (by rw [c18]; decide) (by rw [c18]; decide) (by rw [c18]; rfl) (by decide) ?_
      clear c18
      refine lv_aload_n hx hb dL_law_678 rfl (lv_at hl 1 rfl) ?_
      refine lv_aload_n hx hb dL_law_679 rfl (lv_at hl 0 rfl) ?_
      refine lv_iload_n hx hb dL_law_680 rfl (lv_at hl 3 rfl) ?_
      refine lv_iconst (v := 1) hx hb dL_law_681 (by decide) ?_
      refine lv_iadd hx hb dL_law_682 ?_
      refine g_sld hx hb hX hbl hbA hw h dL_law_683 ?_
      clear h; intro v156 h
      refine g_ci hw (g_runV (As := [.int v156]) (rest := []) hx hb hml hown hts mX4_ifRows vX4_ifRows kL_90 hw 0 0 (ci_0 (by decide)) (bi_0 (by decide) (Nat.le_trans (by decide) hn)) rfl rfl (c_X4_ifRows (Nat.le_trans (by decide) hn) h) rfl rfl ⟨Nat.le_of_ble_eq_true rfl, Nat.le_of_ble_eq_true rfl⟩ rfl hl.1 rfl (Nat.le_of_ble_eq_true rfl) dL_law_684 ⟨hcc, hcs⟩) ?_
      clear h hw; intro v158 M157 H locs hw h
      refine lv_aload_n hx hb dL_law_687 rfl (lv_at hl 2 rfl) ?_
      refine lv_aload_n hx hb dL_law_688 rfl (lv_at hl 0 rfl) ?_
      refine lv_iload_n hx hb dL_law_689 rfl (lv_at hl 3 rfl) ?_
      refine lv_iconst (v := 1) hx hb dL_law_690 (by decide) ?_
      refine lv_iadd hx hb dL_law_691 ?_
      refine g_sld hx hb hX hbl hbA hw h dL_law_692 ?_
      clear h; intro v159 h
      refine g_ci hw (g_runV (As := [.int v159]) (rest := [.int v158]) hx hb hml hown hts mX5_ifRows vX5_ifRows kL_93 hw 17 0 (ci_17 (by decide)) (bi_17 (by decide) hn) rfl rfl (c_X5_ifRows hn h) rfl rfl ⟨Nat.le_of_ble_eq_true rfl, Nat.le_of_ble_eq_true rfl⟩ rfl hl.1 rfl (Nat.le_of_ble_eq_true rfl) dL_law_693 ⟨hcc, hcs⟩) ?_
      clear h hw; intro v161 M160 H locs hw h
      refine g_icmp_eq (tgt := 823) hx hb h dL_law_696 (by decide) ?_ ?_
      · clear h; intro h
        refine g_iinc (k := 3) (v := (v1 + (5 : Int32))) (lv' := fun v162 => [(3, .int v162), (0, .ref b), (1, .ref (o.2.1 0 0)), (2, .ref (o.2.1 17 0))]) hx hb dL_law_823 hl rfl rfl (by decide) (fun _ => rfl) h ?_
        clear h hl; clear ls; intro v162 ls h hl
        refine lv_goto (tgt := 18) hx hb dL_law_826 (by decide) ?_
        exact hR4 (v162, M160) h _ _ _ hw (lv_sub hl [1, 2, 3, 0] rfl)
      · clear h; intro h
        refine lv_iconst (v := 0) hx hb dL_law_699 (by decide) ?_
        exact law_end hx hb hr hlocks hcc hcs hw hQ h dL_law_700
    rw [if_neg c18] at h
    by_cases c19 : (v5 &&& (31 : Int32)) = (19 : Int32)
    · rw [if_pos c19] at h
      refine lv_tableIn (tgt := 701) hx hb dL_law_32 (by rw [c19]; decide) (by rw [c19]; decide) (by rw [c19]; rfl) (by decide) ?_
      clear c19
      refine lv_aload_n hx hb dL_law_701 rfl (lv_at hl 1 rfl) ?_
      refine lv_aload_n hx hb dL_law_702 rfl (lv_at hl 0 rfl) ?_
      refine lv_iload_n hx hb dL_law_703 rfl (lv_at hl 3 rfl) ?_
      refine lv_iconst (v := 1) hx hb dL_law_704 (by decide) ?_
      refine lv_iadd hx hb dL_law_705 ?_
      refine g_sld hx hb hX hbl hbA hw h dL_law_706 ?_
      clear h; intro v163 h
      refine lv_aload_n hx hb dL_law_707 rfl (lv_at hl 0 rfl) ?_
      refine lv_iload_n hx hb dL_law_708 rfl (lv_at hl 3 rfl) ?_
      refine lv_iconst (v := 2) hx hb dL_law_709 (by decide) ?_
      refine lv_iadd hx hb dL_law_710 ?_
      refine g_sld hx hb hX hbl hbA hw h dL_law_711 ?_
      clear h; intro v164 h
      refine letJ_W (fun (x : Int32) => ∀ (H : Heap) (locs : List Loc) (ls : Array Slot), WO o (fun q : Nat => s.heap.size ≤ q) s s.heap H locs M2 → lv_has ls 4 [(0, .ref b), (1, .ref (o.2.1 0 0)), (2, .ref (o.2.1 17 0)), (3, .int v1)] → W p l e room_1 s m #[Value.ref b] below meth c H locs cells slots (lw_Z below #[Value.ref b] s) (F0 m 720 ls [.int x, .int v163, .ref (o.2.1 0 0)])) h ?_ ?_
      · clear h hw hl; clear ls; intro x h H locs ls hw hl
        obtain ⟨v165, rfl⟩ : ∃ z, z = x := ⟨_, rfl⟩
        replace hl : lv_has ls 4 [(0, .ref b), (1, .ref (o.2.1 0 0)), (2, .ref (o.2.1 17 0)), (3, .int v1)] := hl
        refine g_ci hw (g_runV (As := [.int v163, .int v165]) (rest := []) hx hb hml hown hts mX4_free vX4_free kL_94 hw 0 0 (ci_0 (by decide)) (bi_0 (by decide) (Nat.le_trans (by decide) hn)) rfl rfl (c_X4_free (Nat.le_trans (by decide) hn) h) rfl rfl ⟨Nat.le_of_ble_eq_true rfl, Nat.le_of_ble_eq_true rfl⟩ rfl hl.1 rfl (Nat.le_of_ble_eq_true rfl) dL_law_720 ⟨hcc, hcs⟩) ?_
        clear h hw; intro v168 M167 H locs hw h
        refine lv_aload_n hx hb dL_law_723 rfl (lv_at hl 2 rfl) ?_
        refine lv_aload_n hx hb dL_law_724 rfl (lv_at hl 0 rfl) ?_
        refine lv_iload_n hx hb dL_law_725 rfl (lv_at hl 3 rfl) ?_
        refine lv_iconst (v := 1) hx hb dL_law_726 (by decide) ?_
        refine lv_iadd hx hb dL_law_727 ?_
        refine g_sld hx hb hX hbl hbA hw h dL_law_728 ?_
        clear h; intro v169 h
        refine lv_aload_n hx hb dL_law_729 rfl (lv_at hl 0 rfl) ?_
        refine lv_iload_n hx hb dL_law_730 rfl (lv_at hl 3 rfl) ?_
        refine lv_iconst (v := 2) hx hb dL_law_731 (by decide) ?_
        refine lv_iadd hx hb dL_law_732 ?_
        refine g_sld hx hb hX hbl hbA hw h dL_law_733 ?_
        clear h; intro v170 h
        refine letJ_W (fun (x : Int32) => ∀ (H : Heap) (locs : List Loc) (ls : Array Slot), WO o (fun q : Nat => s.heap.size ≤ q) s s.heap H locs M167 → lv_has ls 4 [(0, .ref b), (1, .ref (o.2.1 0 0)), (2, .ref (o.2.1 17 0)), (3, .int v1)] → W p l e room_1 s m #[Value.ref b] below meth c H locs cells slots (lw_Z below #[Value.ref b] s) (F0 m 742 ls [.int x, .int v169, .ref (o.2.1 17 0), .int v168])) h ?_ ?_
        · clear h hw hl; clear ls; intro x h H locs ls hw hl
          obtain ⟨v171, rfl⟩ : ∃ z, z = x := ⟨_, rfl⟩
          replace hl : lv_has ls 4 [(0, .ref b), (1, .ref (o.2.1 0 0)), (2, .ref (o.2.1 17 0)), (3, .int v1)] := hl
          refine g_ci hw (g_runV (As := [.int v169, .int v171]) (rest := [.int v168]) hx hb hml hown hts mX5_free vX5_free kL_98 hw 17 0 (ci_17 (by decide)) (bi_17 (by decide) hn) rfl rfl (c_X5_free hn h) rfl rfl ⟨Nat.le_of_ble_eq_true rfl, Nat.le_of_ble_eq_true rfl⟩ rfl hl.1 rfl (Nat.le_of_ble_eq_true rfl) dL_law_742 ⟨hcc, hcs⟩) ?_
          clear h hw; intro v174 M173 H locs hw h
          refine g_icmp_eq (tgt := 823) hx hb h dL_law_745 (by decide) ?_ ?_
          · clear h; intro h
            refine g_iinc (k := 3) (v := (v1 + (5 : Int32))) (lv' := fun v175 => [(3, .int v175), (0, .ref b), (1, .ref (o.2.1 0 0)), (2, .ref (o.2.1 17 0))]) hx hb dL_law_823 hl rfl rfl (by decide) (fun _ => rfl) h ?_
            clear h hl; clear ls; intro v175 ls h hl
            refine lv_goto (tgt := 18) hx hb dL_law_826 (by decide) ?_
            exact hR4 (v175, M173) h _ _ _ hw (lv_sub hl [1, 2, 3, 0] rfl)
          · clear h; intro h
            refine lv_iconst (v := 0) hx hb dL_law_748 (by decide) ?_
            exact law_end hx hb hr hlocks hcc hcs hw hQ h dL_law_749
        clear h; intro J172 hJ172 h
        refine g_if_eq (tgt := 741) hx hb h dL_law_734 (by decide) ?_ ?_
        · clear h; intro h
          refine lv_iconst (v := 0) hx hb dL_law_741 (by decide) ?_
          exact hJ172 (0 : Int32) h _ _ _ hw (lv_sub hl [0, 1, 2, 3] rfl)
        · clear h; intro h
          refine lv_iconst (v := 1) hx hb dL_law_737 (by decide) ?_
          refine lv_goto (tgt := 742) hx hb dL_law_738 (by decide) ?_
          exact hJ172 (1 : Int32) h _ _ _ hw (lv_sub hl [0, 1, 2, 3] rfl)
      clear h; intro J166 hJ166 h
      refine g_if_eq (tgt := 719) hx hb h dL_law_712 (by decide) ?_ ?_
      · clear h; intro h
        refine lv_iconst (v := 0) hx hb dL_law_719 (by decide) ?_
        exact hJ166 (0 : Int32) h _ _ _ hw (lv_sub hl [0, 1, 2, 3] rfl)
      · clear h; intro h
        refine lv_iconst (v := 1) hx hb dL_law_715 (by decide) ?_
        refine lv_goto (tgt := 720) hx hb dL_law_716 (by decide) ?_
        exact hJ166 (1 : Int32) h _ _ _ hw (lv_sub hl [0, 1, 2, 3] rfl)
    rw [if_neg c19] at h
    by_cases c20 : (v5 &&& (31 : Int32)) = (20 : Int32)
    · rw [if_pos c20] at h
      refine lv_tableIn (tgt := 750) hx hb dL_law_32 (by rw [c20]; decide) (by rw [c20]; decide) (by rw [c20]; rfl) (by decide) ?_
      clear c20
      refine lv_aload_n hx hb dL_law_750 rfl (lv_at hl 1 rfl) ?_
      refine lv_aload_n hx hb dL_law_751 rfl (lv_at hl 0 rfl) ?_
      refine lv_iload_n hx hb dL_law_752 rfl (lv_at hl 3 rfl) ?_
      refine lv_iconst (v := 1) hx hb dL_law_753 (by decide) ?_
      refine lv_iadd hx hb dL_law_754 ?_
      refine g_sld hx hb hX hbl hbA hw h dL_law_755 ?_
      clear h; intro v176 h
      refine g_ci hw (g_runV (As := [.int v176]) (rest := []) hx hb hml hown hts mX4_bestDay vX4_bestDay kL_99 hw 0 0 (ci_0 (by decide)) (bi_0 (by decide) (Nat.le_trans (by decide) hn)) rfl rfl (c_X4_bestDay (Nat.le_trans (by decide) hn) h) rfl rfl ⟨Nat.le_of_ble_eq_true rfl, Nat.le_of_ble_eq_true rfl⟩ rfl hl.1 rfl (Nat.le_of_ble_eq_true rfl) dL_law_756 ⟨hcc, hcs⟩) ?_
      clear h hw; intro v178 M177 H locs hw h
      refine lv_aload_n hx hb dL_law_759 rfl (lv_at hl 2 rfl) ?_
      refine lv_aload_n hx hb dL_law_760 rfl (lv_at hl 0 rfl) ?_
      refine lv_iload_n hx hb dL_law_761 rfl (lv_at hl 3 rfl) ?_
      refine lv_iconst (v := 1) hx hb dL_law_762 (by decide) ?_
      refine lv_iadd hx hb dL_law_763 ?_
      refine g_sld hx hb hX hbl hbA hw h dL_law_764 ?_
      clear h; intro v179 h
      refine g_ci hw (g_runV (As := [.int v179]) (rest := [.int v178]) hx hb hml hown hts mX5_bestDay vX5_bestDay kL_102 hw 17 0 (ci_17 (by decide)) (bi_17 (by decide) hn) rfl rfl (c_X5_bestDay hn h) rfl rfl ⟨Nat.le_of_ble_eq_true rfl, Nat.le_of_ble_eq_true rfl⟩ rfl hl.1 rfl (Nat.le_of_ble_eq_true rfl) dL_law_765 ⟨hcc, hcs⟩) ?_
      clear h hw; intro v181 M180 H locs hw h
      refine g_icmp_eq (tgt := 823) hx hb h dL_law_768 (by decide) ?_ ?_
      · clear h; intro h
        refine g_iinc (k := 3) (v := (v1 + (5 : Int32))) (lv' := fun v182 => [(3, .int v182), (0, .ref b), (1, .ref (o.2.1 0 0)), (2, .ref (o.2.1 17 0))]) hx hb dL_law_823 hl rfl rfl (by decide) (fun _ => rfl) h ?_
        clear h hl; clear ls; intro v182 ls h hl
        refine lv_goto (tgt := 18) hx hb dL_law_826 (by decide) ?_
        exact hR4 (v182, M180) h _ _ _ hw (lv_sub hl [1, 2, 3, 0] rfl)
      · clear h; intro h
        refine lv_iconst (v := 0) hx hb dL_law_771 (by decide) ?_
        exact law_end hx hb hr hlocks hcc hcs hw hQ h dL_law_772
    rw [if_neg c20] at h
    by_cases c21 : (v5 &&& (31 : Int32)) = (21 : Int32)
    · rw [if_pos c21] at h
      refine lv_tableIn (tgt := 773) hx hb dL_law_32 (by rw [c21]; decide) (by rw [c21]; decide) (by rw [c21]; rfl) (by decide) ?_
      clear c21
      refine lv_aload_n hx hb dL_law_773 rfl (lv_at hl 1 rfl) ?_
      refine lv_aload_n hx hb dL_law_774 rfl (lv_at hl 0 rfl) ?_
      refine lv_iload_n hx hb dL_law_775 rfl (lv_at hl 3 rfl) ?_
      refine lv_iconst (v := 1) hx hb dL_law_776 (by decide) ?_
      refine lv_iadd hx hb dL_law_777 ?_
      refine g_sld hx hb hX hbl hbA hw h dL_law_778 ?_
      clear h; intro v183 h
      refine g_ci hw (g_runV (As := [.int v183]) (rest := []) hx hb hml hown hts mX4_told vX4_told kL_103 hw 0 0 (ci_0 (by decide)) (bi_0 (by decide) (Nat.le_trans (by decide) hn)) rfl rfl (c_X4_told (Nat.le_trans (by decide) hn) h) rfl rfl ⟨Nat.le_of_ble_eq_true rfl, Nat.le_of_ble_eq_true rfl⟩ rfl hl.1 rfl (Nat.le_of_ble_eq_true rfl) dL_law_779 ⟨hcc, hcs⟩) ?_
      clear h hw; intro v185 M184 H locs hw h
      refine lv_aload_n hx hb dL_law_782 rfl (lv_at hl 2 rfl) ?_
      refine lv_aload_n hx hb dL_law_783 rfl (lv_at hl 0 rfl) ?_
      refine lv_iload_n hx hb dL_law_784 rfl (lv_at hl 3 rfl) ?_
      refine lv_iconst (v := 1) hx hb dL_law_785 (by decide) ?_
      refine lv_iadd hx hb dL_law_786 ?_
      refine g_sld hx hb hX hbl hbA hw h dL_law_787 ?_
      clear h; intro v186 h
      refine g_ci hw (g_runV (As := [.int v186]) (rest := [.int v185]) hx hb hml hown hts mX5_told vX5_told kL_106 hw 17 0 (ci_17 (by decide)) (bi_17 (by decide) hn) rfl rfl (c_X5_told hn h) rfl rfl ⟨Nat.le_of_ble_eq_true rfl, Nat.le_of_ble_eq_true rfl⟩ rfl hl.1 rfl (Nat.le_of_ble_eq_true rfl) dL_law_788 ⟨hcc, hcs⟩) ?_
      clear h hw; intro v188 M187 H locs hw h
      refine g_icmp_eq (tgt := 823) hx hb h dL_law_791 (by decide) ?_ ?_
      · clear h; intro h
        refine g_iinc (k := 3) (v := (v1 + (5 : Int32))) (lv' := fun v189 => [(3, .int v189), (0, .ref b), (1, .ref (o.2.1 0 0)), (2, .ref (o.2.1 17 0))]) hx hb dL_law_823 hl rfl rfl (by decide) (fun _ => rfl) h ?_
        clear h hl; clear ls; intro v189 ls h hl
        refine lv_goto (tgt := 18) hx hb dL_law_826 (by decide) ?_
        exact hR4 (v189, M187) h _ _ _ hw (lv_sub hl [1, 2, 3, 0] rfl)
      · clear h; intro h
        refine lv_iconst (v := 0) hx hb dL_law_794 (by decide) ?_
        exact law_end hx hb hr hlocks hcc hcs hw hQ h dL_law_795
    rw [if_neg c21] at h
    by_cases c22 : (v5 &&& (31 : Int32)) = (22 : Int32)
    · rw [if_pos c22] at h
      refine lv_tableIn (tgt := 796) hx hb dL_law_32 (by rw [c22]; decide) (by rw [c22]; decide) (by rw [c22]; rfl) (by decide) ?_
      clear c22
      refine lv_aload_n hx hb dL_law_796 rfl (lv_at hl 1 rfl) ?_
      refine g_ci hw (g_runV (As := []) (rest := []) hx hb hml hown hts mX4_undo vX4_undo kL_107 hw 0 0 (ci_0 (by decide)) (bi_0 (by decide) (Nat.le_trans (by decide) hn)) rfl rfl (c_X4_undo (Nat.le_trans (by decide) hn) h) rfl rfl ⟨Nat.le_of_ble_eq_true rfl, Nat.le_of_ble_eq_true rfl⟩ rfl hl.1 rfl (Nat.le_of_ble_eq_true rfl) dL_law_797 ⟨hcc, hcs⟩) ?_
      clear h hw; intro v191 M190 H locs hw h
      refine lv_aload_n hx hb dL_law_800 rfl (lv_at hl 2 rfl) ?_
      refine g_ci hw (g_runV (As := []) (rest := [.int v191]) hx hb hml hown hts mX5_undo vX5_undo kL_110 hw 17 0 (ci_17 (by decide)) (bi_17 (by decide) hn) rfl rfl (c_X5_undo hn h) rfl rfl ⟨Nat.le_of_ble_eq_true rfl, Nat.le_of_ble_eq_true rfl⟩ rfl hl.1 rfl (Nat.le_of_ble_eq_true rfl) dL_law_801 ⟨hcc, hcs⟩) ?_
      clear h hw; intro v193 M192 H locs hw h
      refine g_icmp_eq (tgt := 823) hx hb h dL_law_804 (by decide) ?_ ?_
      · clear h; intro h
        refine g_iinc (k := 3) (v := (v1 + (5 : Int32))) (lv' := fun v194 => [(3, .int v194), (0, .ref b), (1, .ref (o.2.1 0 0)), (2, .ref (o.2.1 17 0))]) hx hb dL_law_823 hl rfl rfl (by decide) (fun _ => rfl) h ?_
        clear h hl; clear ls; intro v194 ls h hl
        refine lv_goto (tgt := 18) hx hb dL_law_826 (by decide) ?_
        exact hR4 (v194, M192) h _ _ _ hw (lv_sub hl [1, 2, 3, 0] rfl)
      · clear h; intro h
        refine lv_iconst (v := 0) hx hb dL_law_807 (by decide) ?_
        exact law_end hx hb hr hlocks hcc hcs hw hQ h dL_law_808
    rw [if_neg c22] at h
    by_cases c23 : (v5 &&& (31 : Int32)) = (23 : Int32)
    · rw [if_pos c23] at h
      refine lv_tableIn (tgt := 809) hx hb dL_law_32 (by rw [c23]; decide) (by rw [c23]; decide) (by rw [c23]; rfl) (by decide) ?_
      clear c23
      refine lv_aload_n hx hb dL_law_809 rfl (lv_at hl 1 rfl) ?_
      refine g_cl hw (g_runV (As := []) (rest := []) hx hb hml hown hts mX4_digest vX4_digest kL_111 hw 0 0 (ci_0 (by decide)) (bi_0 (by decide) (Nat.le_trans (by decide) hn)) rfl rfl (c_X4_digest (Nat.le_trans (by decide) hn) h) rfl rfl ⟨Nat.le_of_ble_eq_true rfl, Nat.le_of_ble_eq_true rfl⟩ rfl hl.1 rfl (Nat.le_of_ble_eq_true rfl) dL_law_810 ⟨hcc, hcs⟩) ?_
      clear h hw; intro v196 M195 H locs hw h
      refine lv_aload_n hx hb dL_law_813 rfl (lv_at hl 2 rfl) ?_
      refine g_cl hw (g_runV (As := []) (rest := [.long v196]) hx hb hml hown hts mX5_digest vX5_digest kL_115 hw 17 0 (ci_17 (by decide)) (bi_17 (by decide) hn) rfl rfl (c_X5_digest hn h) rfl rfl ⟨Nat.le_of_ble_eq_true rfl, Nat.le_of_ble_eq_true rfl⟩ rfl hl.1 rfl (Nat.le_of_ble_eq_true rfl) dL_law_814 ⟨hcc, hcs⟩) ?_
      clear h hw; intro v198 M197 H locs hw h
      refine W.lcmp hx hb dL_law_817 ?_
      refine g_if_eq (tgt := 823) hx hb h dL_law_818 (by decide) ?_ ?_
      · clear h; intro h
        refine g_iinc (k := 3) (v := (v1 + (5 : Int32))) (lv' := fun v199 => [(3, .int v199), (0, .ref b), (1, .ref (o.2.1 0 0)), (2, .ref (o.2.1 17 0))]) hx hb dL_law_823 hl rfl rfl (by decide) (fun _ => rfl) h ?_
        clear h hl; clear ls; intro v199 ls h hl
        refine lv_goto (tgt := 18) hx hb dL_law_826 (by decide) ?_
        exact hR4 (v199, M197) h _ _ _ hw (lv_sub hl [1, 2, 3, 0] rfl)
      · clear h; intro h
        refine lv_iconst (v := 0) hx hb dL_law_821 (by decide) ?_
        exact law_end hx hb hr hlocks hcc hcs hw hQ h dL_law_822
    rw [if_neg c23] at h
    refine lv_tableOut (tgt := 823) hx hb dL_law_32 (tbl_out (fun k h1 => by rcases (show k = 0 ∨ k = 1 ∨ k = 2 ∨ k = 3 ∨ k = 4 ∨ k = 5 ∨ k = 6 ∨ k = 7 ∨ k = 8 ∨ k = 9 ∨ k = 10 ∨ k = 11 ∨ k = 12 ∨ k = 13 ∨ k = 14 ∨ k = 15 ∨ k = 16 ∨ k = 17 ∨ k = 18 ∨ k = 19 ∨ k = 20 ∨ k = 21 ∨ k = 22 ∨ k = 23 by omega) with rfl | rfl | rfl | rfl | rfl | rfl | rfl | rfl | rfl | rfl | rfl | rfl | rfl | rfl | rfl | rfl | rfl | rfl | rfl | rfl | rfl | rfl | rfl | rfl <;> assumption)) (by decide) ?_
    clear c0 c1 c2 c3 c4 c5 c6 c7 c8 c9 c10 c11 c12 c13 c14 c15 c16 c17 c18 c19 c20 c21 c22 c23
    refine g_iinc (k := 3) (v := (v1 + (5 : Int32))) (lv' := fun v200 => [(3, .int v200), (0, .ref b), (1, .ref (o.2.1 0 0)), (2, .ref (o.2.1 17 0))]) hx hb dL_law_823 hl rfl rfl (by decide) (fun _ => rfl) h ?_
    clear h hl; clear ls; intro v200 ls h hl
    refine lv_goto (tgt := 18) hx hb dL_law_826 (by decide) ?_
    exact hR4 (v200, M2) h _ _ _ hw (lv_sub hl [1, 2, 3, 0] rfl)
