def w_X0_cutWeeks_L13 (p : Nat) (K5 : Int32 × Mm → Prop) (R6 : Int32 × Mm → Prop) : Int32 × Mm → Prop := fun (v3, M4) =>
  if (M4 11 p 1) < v3 then (K5 (v3, M4)) else (if (7 : Int32) ≤ (M4 5 p 1) then (K5 (v3, M4)) else (letJ (fun (_ : Unit) => stA M4 6 p 8 (M4 5 p 1) v3 fun M8 => stF M8 5 p 1 ((M8 5 p 1) + (1 : Int32)) fun M9 => bI (v3 + (1 : Int32)) fun v10 => R6 (v10, M9)) fun J7 => if v3 = (M4 11 p 0) then (J7 ()) else (if (v3 - v3 / (7 : Int32) * (7 : Int32)) = (M4 11 p 2) then (J7 ()) else (bI (v3 + (1 : Int32)) fun v11 => R6 (v11, M4)))))
def w_X0_cutWeeks (p : Nat) (M : Mm) (Q : Mm → Prop) : Prop :=
  stF M 5 p 1 (0 : Int32) fun M1 => bI (M1 11 p 0) fun v2 => ∃ n, loop (w_X0_cutWeeks_L13 p (fun ((v12, M13) : Int32 × Mm) => stA M13 6 p 8 (M13 5 p 1) ((M13 11 p 1) + (1 : Int32)) fun M14 => Q M14) ) n (v2, M1)
def w_X0_wipe_L2 (p : Nat) (K3 : Int32 × Mm → Prop) (R4 : Int32 × Mm → Prop) : Int32 × Mm → Prop := fun (v1, M2) =>
  if (42 : Int32) ≤ v1 then (K3 (v1, M2)) else (stA M2 9 p 42 v1 (0 : Int32) fun M5 => bI (v1 + (1 : Int32)) fun v6 => R4 (v6, M5))
def w_X0_wipe_L39 (p : Nat) (v9 : Int32) (K16 : Int32 × Mm → Prop) (R17 : Int32 × Mm → Prop) : Int32 × Mm → Prop := fun (v14, M15) =>
  if (7 : Int32) ≤ v14 then (K16 (v14, M15)) else (ldR 24 v9 fun k18 => stA M15 12 (24 * p + k18) 7 v14 (-9 : Int32) fun M19 => bI (v14 + (1 : Int32)) fun v20 => R17 (v20, M19))
def w_X0_wipe_L23 (p : Nat) (K11 : Int32 × Mm → Prop) (R12 : Int32 × Mm → Prop) : Int32 × Mm → Prop := fun (v9, M10) =>
  if (24 : Int32) ≤ v9 then (K11 (v9, M10)) else (stA M10 8 p 24 v9 (-9 : Int32) fun M13 => ∃ n, loop (w_X0_wipe_L39 p v9 (fun ((v21, M22) : Int32 × Mm) => bI (v9 + (1 : Int32)) fun v23 => R12 (v23, M22)) ) n ((0 : Int32), M13))
def w_X0_wipe (p : Nat) (M : Mm) (Q : Mm → Prop) : Prop :=
  ∃ n, loop (w_X0_wipe_L2 p (fun ((v7, M8) : Int32 × Mm) => ∃ n, loop (w_X0_wipe_L23 p (fun ((v24, M25) : Int32 × Mm) => Q M25) ) n ((0 : Int32), M8)) ) n ((0 : Int32), M)
def w_X2_isLong (i : Nat) (M : Mm) (x1 : Int32) (Q : Int32 → Mm → Prop) : Prop :=
  ldA (M 14 i) 24 x1 fun v1 => ldA (M 13 i) 24 x1 fun v2 => if v2 < v1 then (Q (1 : Int32) M) else (ldA (M 15 i) 24 x1 fun v3 => if v3 = (-9 : Int32) then (Q (1 : Int32) M) else (Q (0 : Int32) M))
def w_X0_firstOfWeek (p : Nat) (M : Mm) (x1 : Int32) (Q : Int32 → Mm → Prop) : Prop :=
  ldA (M 6 p) 8 x1 fun v1 => Q v1 M
def w_X0_lastOfWeek (p : Nat) (M : Mm) (x1 : Int32) (Q : Int32 → Mm → Prop) : Prop :=
  ldA (M 6 p) 8 (x1 + (1 : Int32)) fun v1 => Q (v1 - (1 : Int32)) M
def w_X2_meets (i : Nat) (M : Mm) (x1 : Int32) (x2 : Int32) (x3 : Int32) (Q : Int32 → Mm → Prop) : Prop :=
  ldA (M 13 i) 24 x1 fun v1 => if x3 < v1 then (Q (0 : Int32) M) else (ldA (M 14 i) 24 x1 fun v2 => if v2 < x2 then (Q (0 : Int32) M) else (Q (1 : Int32) M))
def w_X0_isBarBefore (p : Nat) (M : Mm) (x1 : Int32) (x2 : Int32) (x3 : Int32) (Q : Int32 → Mm → Prop) : Prop :=
  ldA (M 13 p) 24 x1 fun v1 => w_X0_firstOfWeek p M x3 fun v3 M2 => letJ (fun (v4 : Int32) => ldA (M2 13 p) 24 x2 fun v6 => w_X0_firstOfWeek p M2 x3 fun v8 M7 => letJ (fun (v9 : Int32) => if v4 = v9 then (if v4 = 0 then (ldA (M7 13 p) 24 x1 fun v11 => ldA (M7 13 p) 24 x2 fun v12 => if v11 = v12 then (ldA (M7 14 p) 24 x1 fun v13 => ldA (M7 14 p) 24 x2 fun v14 => if v13 = v14 then (ldA (M7 16 p) 24 x1 fun v15 => ldA (M7 16 p) 24 x2 fun v16 => if v15 ≤ v16 then (Q (0 : Int32) M7) else (Q (1 : Int32) M7)) else (ldA (M7 14 p) 24 x1 fun v17 => ldA (M7 14 p) 24 x2 fun v18 => if v17 ≤ v18 then (Q (0 : Int32) M7) else (Q (1 : Int32) M7))) else (ldA (M7 13 p) 24 x1 fun v19 => ldA (M7 13 p) 24 x2 fun v20 => if v20 ≤ v19 then (Q (0 : Int32) M7) else (Q (1 : Int32) M7))) else (if x3 ≤ 0 then (Q (0 : Int32) M7) else (ldR 24 x1 fun k21 => ldA (M7 12 (24 * p + k21)) 7 (x3 - (1 : Int32)) fun v22 => ldR 24 x2 fun k23 => ldA (M7 12 (24 * p + k23)) 7 (x3 - (1 : Int32)) fun v24 => if v24 ≤ v22 then (Q (0 : Int32) M7) else (Q (1 : Int32) M7)))) else (bz v4 ∧ Q v4 M7)) fun J10 => if v8 ≤ v6 then (J10 (0 : Int32)) else (J10 (1 : Int32))) fun J5 => if v3 ≤ v1 then (J5 (0 : Int32)) else (J5 (1 : Int32))
def w_X0_orderBars_L55 (p : Nat) (x1 : Int32) (v2 : Int32) (K19 : Int32 × Mm → Prop) (R20 : Int32 × Mm → Prop) : Int32 × Mm → Prop := fun (v17, M18) =>
  if v17 ≤ 0 then (K19 (v17, M18)) else (ldA (M18 10 p) 24 (v17 - (1 : Int32)) fun v21 => w_X0_isBarBefore p M18 v2 v21 x1 fun v23 M22 => if v23 = 0 then (K19 (v17, M22)) else (ldA (M22 10 p) 24 (v17 - (1 : Int32)) fun v24 => stA M22 10 p 24 v17 v24 fun M25 => bI (v17 + (-1 : Int32)) fun v26 => R20 (v26, M25)))
def w_X0_orderBars_L7 (p : Nat) (x1 : Int32) (K4 : Int32 × Mm → Prop) (R5 : Int32 × Mm → Prop) : Int32 × Mm → Prop := fun (v2, M3) =>
  if (M3 11 p 4) ≤ v2 then (K4 (v2, M3)) else (w_X2_isLong p M3 v2 fun v7 M6 => if v7 = 0 then (bI (v2 + (1 : Int32)) fun v8 => R5 (v8, M6)) else (w_X0_firstOfWeek p M6 x1 fun v10 M9 => w_X0_lastOfWeek p M9 x1 fun v12 M11 => w_X2_meets p M11 v2 v10 v12 fun v14 M13 => if v14 = 0 then (bI (v2 + (1 : Int32)) fun v15 => R5 (v15, M13)) else (bI (M13 5 p 7) fun v16 => ∃ n, loop (w_X0_orderBars_L55 p x1 v2 (fun ((v27, M28) : Int32 × Mm) => stA M28 10 p 24 v27 v2 fun M29 => stF M29 5 p 7 ((M29 5 p 7) + (1 : Int32)) fun M30 => bI (v2 + (1 : Int32)) fun v31 => R5 (v31, M30)) ) n (v16, M13))))
def w_X0_orderBars (p : Nat) (M : Mm) (x1 : Int32) (Q : Mm → Prop) : Prop :=
  stF M 5 p 7 (0 : Int32) fun M1 => ∃ n, loop (w_X0_orderBars_L7 p x1 (fun ((v32, M33) : Int32 × Mm) => Q M33) ) n ((0 : Int32), M1)
def w_X0_smallestFree_L2 (x0 : Int32) (K3 : Int32 × Mm → Prop) (R4 : Int32 × Mm → Prop) : Int32 × Mm → Prop := fun (v1, M2) =>
  if (24 : Int32) ≤ v1 then (K3 (v1, M2)) else (if ((x0 >>> (v1 &&& 31)) &&& (1 : Int32)) = 0 then (K3 (v1, M2)) else (bI (v1 + (1 : Int32)) fun v5 => R4 (v5, M2)))
def w_X0_smallestFree (M : Mm) (x0 : Int32) (Q : Int32 → Mm → Prop) : Prop :=
  ∃ n, loop (w_X0_smallestFree_L2 x0 (fun ((v6, M7) : Int32 × Mm) => Q v6 M7) ) n ((0 : Int32), M)
def w_X0_layBar_L59 (p : Nat) (x1 : Int32) (x2 : Int32) (v4 : Int32) (v8 : Int32) (K12 : Int32 × Int32 × Mm → Prop) (R13 : Int32 × Int32 × Mm → Prop) : Int32 × Int32 × Mm → Prop := fun (v9, v10, M11) =>
  if v8 < v10 then (K12 (v9, v10, M11)) else (ldA (M11 9 p) 42 v10 fun v14 => bI (v9 ||| v14) fun v15 => bI (v10 + (1 : Int32)) fun v16 => R13 (v15, v16, M11))
def w_X0_layBar_L159 (p : Nat) (v8 : Int32) (v24 : Int32) (K31 : Int32 × Mm → Prop) (R32 : Int32 × Mm → Prop) : Int32 × Mm → Prop := fun (v29, M30) =>
  if v8 < v29 then (K31 (v29, M30)) else (ldA (M30 9 p) 42 v29 fun v33 => stA M30 9 p 42 v29 (v33 ||| ((1 : Int32) <<< (v24 &&& 31))) fun M34 => bI (v29 + (1 : Int32)) fun v35 => R32 (v35, M34))
def w_X0_layBar (p : Nat) (M : Mm) (x1 : Int32) (x2 : Int32) (Q : Mm → Prop) : Prop :=
  ldA (M 13 p) 24 x1 fun v1 => w_X0_firstOfWeek p M x2 fun v3 M2 => bI ((if v1 < v3 then v3 else v1) - (M2 11 p 0)) fun v4 => ldA (M2 14 p) 24 x1 fun v5 => w_X0_lastOfWeek p M2 x2 fun v7 M6 => bI ((if v7 < v5 then v7 else v5) - (M6 11 p 0)) fun v8 => ∃ n, loop (w_X0_layBar_L59 p x1 x2 v4 v8 (fun ((v17, v18, M19) : Int32 × Int32 × Mm) => letJ (fun (v20 : Int32) => letJ (fun (v22 : Int32) => letJ (fun ((v24, M26) : Int32 × Mm) => ldR 24 x1 fun k27 => stA M26 12 (24 * p + k27) 7 x2 v24 fun M28 => ∃ n, loop (w_X0_layBar_L159 p v8 v24 (fun ((v36, M37) : Int32 × Mm) => Q M37) ) n (v4, M28)) fun J25 => if v22 = 0 then (w_X0_smallestFree M19 v17 fun v39 M38 => J25 (v39, M38)) else (J25 (v20, M19))) fun J23 => letJ (fun (_ : Unit) => J23 (0 : Int32)) fun J40 => if v20 = (-9 : Int32) then (J40 ()) else (if ((v17 >>> (v20 &&& 31)) &&& (1 : Int32)) = 0 then (J23 (1 : Int32)) else (J40 ()))) fun J21 => if x2 ≤ 0 then (J21 (-9 : Int32)) else (ldR 24 x1 fun k41 => ldA (M19 12 (24 * p + k41)) 7 (x2 - (1 : Int32)) fun v42 => J21 v42)) ) n ((0 : Int32), v4, M6)
def w_X0_isStackedBefore (p : Nat) (M : Mm) (x1 : Int32) (x2 : Int32) (Q : Int32 → Mm → Prop) : Prop :=
  ldA (M 16 p) 24 x1 fun v1 => ldA (M 16 p) 24 x2 fun v2 => if v1 = v2 then (ldA (M 15 p) 24 x1 fun v3 => ldA (M 15 p) 24 x2 fun v4 => if v4 ≤ v3 then (Q (0 : Int32) M) else (Q (1 : Int32) M)) else (ldA (M 16 p) 24 x1 fun v5 => ldA (M 16 p) 24 x2 fun v6 => if v5 ≤ v6 then (Q (0 : Int32) M) else (Q (1 : Int32) M))
def w_X0_orderShortOnes_L59 (p : Nat) (v2 : Int32) (K15 : Int32 × Mm → Prop) (R16 : Int32 × Mm → Prop) : Int32 × Mm → Prop := fun (v13, M14) =>
  if v13 ≤ 0 then (K15 (v13, M14)) else (ldA (M14 10 p) 24 (v13 - (1 : Int32)) fun v17 => w_X0_isStackedBefore p M14 v2 v17 fun v19 M18 => if v19 = 0 then (K15 (v13, M18)) else (ldA (M18 10 p) 24 (v13 - (1 : Int32)) fun v20 => stA M18 10 p 24 v13 v20 fun M21 => bI (v13 + (-1 : Int32)) fun v22 => R16 (v22, M21)))
def w_X0_orderShortOnes_L7 (p : Nat) (K4 : Int32 × Mm → Prop) (R5 : Int32 × Mm → Prop) : Int32 × Mm → Prop := fun (v2, M3) =>
  if (M3 11 p 4) ≤ v2 then (K4 (v2, M3)) else (w_X2_isLong p M3 v2 fun v7 M6 => if v7 = 0 then (w_X2_meets p M6 v2 (M6 11 p 0) (M6 11 p 1) fun v10 M9 => if v10 = 0 then (bI (v2 + (1 : Int32)) fun v11 => R5 (v11, M9)) else (bI (M9 5 p 7) fun v12 => ∃ n, loop (w_X0_orderShortOnes_L59 p v2 (fun ((v23, M24) : Int32 × Mm) => stA M24 10 p 24 v23 v2 fun M25 => stF M25 5 p 7 ((M25 5 p 7) + (1 : Int32)) fun M26 => bI (v2 + (1 : Int32)) fun v27 => R5 (v27, M26)) ) n (v12, M9))) else (bI (v2 + (1 : Int32)) fun v8 => R5 (v8, M6)))
def w_X0_orderShortOnes (p : Nat) (M : Mm) (Q : Mm → Prop) : Prop :=
  stF M 5 p 7 (0 : Int32) fun M1 => ∃ n, loop (w_X0_orderShortOnes_L7 p (fun ((v28, M29) : Int32 × Mm) => Q M29) ) n ((0 : Int32), M1)
def w_X0_stack (p : Nat) (M : Mm) (x1 : Int32) (Q : Mm → Prop) : Prop :=
  ldA (M 13 p) 24 x1 fun v1 => bI (v1 - (M 11 p 0)) fun v2 => ldA (M 9 p) 42 v2 fun v3 => w_X0_smallestFree M v3 fun v5 M4 => stA M4 8 p 24 x1 v5 fun M6 => ldA (M6 9 p) 42 v2 fun v7 => stA M6 9 p 42 v2 (v7 ||| ((1 : Int32) <<< (v5 &&& 31))) fun M8 => Q M8
def w_X0_lay_L25 (p : Nat) (v3 : Int32) (K10 : Int32 × Mm → Prop) (R11 : Int32 × Mm → Prop) : Int32 × Mm → Prop := fun (v8, M9) =>
  if (M9 5 p 7) ≤ v8 then (K10 (v8, M9)) else (ldA (M9 10 p) 24 v8 fun v12 => w_X0_layBar p M9 v12 v3 fun M13 => bI (v8 + (1 : Int32)) fun v14 => R11 (v14, M13))
def w_X0_lay_L10 (p : Nat) (K5 : Int32 × Mm → Prop) (R6 : Int32 × Mm → Prop) : Int32 × Mm → Prop := fun (v3, M4) =>
  if (M4 5 p 1) ≤ v3 then (K5 (v3, M4)) else (w_X0_orderBars p M4 v3 fun M7 => ∃ n, loop (w_X0_lay_L25 p v3 (fun ((v15, M16) : Int32 × Mm) => bI (v3 + (1 : Int32)) fun v17 => R6 (v17, M16)) ) n ((0 : Int32), M7))
def w_X0_lay_L62 (p : Nat) (K23 : Int32 × Mm → Prop) (R24 : Int32 × Mm → Prop) : Int32 × Mm → Prop := fun (v21, M22) =>
  if (M22 5 p 7) ≤ v21 then (K23 (v21, M22)) else (ldA (M22 10 p) 24 v21 fun v25 => w_X0_stack p M22 v25 fun M26 => bI (v21 + (1 : Int32)) fun v27 => R24 (v27, M26))
def w_X0_lay (p : Nat) (M : Mm) (Q : Mm → Prop) : Prop :=
  w_X0_cutWeeks p M fun M1 => w_X0_wipe p M1 fun M2 => ∃ n, loop (w_X0_lay_L10 p (fun ((v18, M19) : Int32 × Mm) => w_X0_orderShortOnes p M19 fun M20 => ∃ n, loop (w_X0_lay_L62 p (fun ((v28, M29) : Int32 × Mm) => Q M29) ) n ((0 : Int32), M20)) ) n ((0 : Int32), M2)
def w_X0_weekOfDay_L2 (p : Nat) (x1 : Int32) (K3 : Int32 × Mm → Prop) (R4 : Int32 × Mm → Prop) : Int32 × Mm → Prop := fun (v1, M2) =>
  if (M2 5 p 1) ≤ (v1 + (1 : Int32)) then (K3 (v1, M2)) else (ldA (M2 6 p) 8 (v1 + (1 : Int32)) fun v5 => if x1 < v5 then (K3 (v1, M2)) else (bI (v1 + (1 : Int32)) fun v6 => R4 (v6, M2)))
def w_X0_weekOfDay (p : Nat) (M : Mm) (x1 : Int32) (Q : Int32 → Mm → Prop) : Prop :=
  ∃ n, loop (w_X0_weekOfDay_L2 p x1 (fun ((v7, M8) : Int32 × Mm) => Q v7 M8) ) n ((0 : Int32), M)
def w_X0_barsInWeek_L4 (p : Nat) (x1 : Int32) (K4 : Int32 × Int32 × Mm → Prop) (R5 : Int32 × Int32 × Mm → Prop) : Int32 × Int32 × Mm → Prop := fun (v1, v2, M3) =>
  if (M3 11 p 4) ≤ v2 then (K4 (v1, v2, M3)) else (ldR 24 v2 fun k6 => ldA (M3 12 (24 * p + k6)) 7 x1 fun v7 => if v7 = (-9 : Int32) then (bI (v2 + (1 : Int32)) fun v8 => R5 (v1, v8, M3)) else (bI (v1 + (1 : Int32)) fun v9 => bI (v2 + (1 : Int32)) fun v10 => R5 (v9, v10, M3)))
def w_X0_barsInWeek (p : Nat) (M : Mm) (x1 : Int32) (Q : Int32 → Mm → Prop) : Prop :=
  ∃ n, loop (w_X0_barsInWeek_L4 p x1 (fun ((v11, v12, M13) : Int32 × Int32 × Mm) => Q v11 M13) ) n ((0 : Int32), (0 : Int32), M)
def w_X0_lanesInWeek_L4 (p : Nat) (x1 : Int32) (K4 : Int32 × Int32 × Mm → Prop) (R5 : Int32 × Int32 × Mm → Prop) : Int32 × Int32 × Mm → Prop := fun (v1, v2, M3) =>
  if (M3 11 p 4) ≤ v2 then (K4 (v1, v2, M3)) else (ldR 24 v2 fun k6 => ldA (M3 12 (24 * p + k6)) 7 x1 fun v7 => bI (if v1 < (v7 + (1 : Int32)) then (v7 + (1 : Int32)) else v1) fun v8 => bI (v2 + (1 : Int32)) fun v9 => R5 (v8, v9, M3))
def w_X0_lanesInWeek (p : Nat) (M : Mm) (x1 : Int32) (Q : Int32 → Mm → Prop) : Prop :=
  ∃ n, loop (w_X0_lanesInWeek_L4 p x1 (fun ((v10, v11, M12) : Int32 × Int32 × Mm) => Q v10 M12) ) n ((0 : Int32), (0 : Int32), M)
def w_X0_barsOfEntry_L4 (p : Nat) (x1 : Int32) (K4 : Int32 × Int32 × Mm → Prop) (R5 : Int32 × Int32 × Mm → Prop) : Int32 × Int32 × Mm → Prop := fun (v1, v2, M3) =>
  if (M3 5 p 1) ≤ v2 then (K4 (v1, v2, M3)) else (ldR 24 x1 fun k6 => ldA (M3 12 (24 * p + k6)) 7 v2 fun v7 => if v7 = (-9 : Int32) then (bI (v2 + (1 : Int32)) fun v8 => R5 (v1, v8, M3)) else (bI (v1 + (1 : Int32)) fun v9 => bI (v2 + (1 : Int32)) fun v10 => R5 (v9, v10, M3)))
def w_X0_barsOfEntry (p : Nat) (M : Mm) (x1 : Int32) (Q : Int32 → Mm → Prop) : Prop :=
  ∃ n, loop (w_X0_barsOfEntry_L4 p x1 (fun ((v11, v12, M13) : Int32 × Int32 × Mm) => Q v11 M13) ) n ((0 : Int32), (0 : Int32), M)
def w_X0_barsOnPage_L4 (p : Nat) (K4 : Int32 × Int32 × Mm → Prop) (R5 : Int32 × Int32 × Mm → Prop) : Int32 × Int32 × Mm → Prop := fun (v1, v2, M3) =>
  if (M3 5 p 1) ≤ v2 then (K4 (v1, v2, M3)) else (w_X0_barsInWeek p M3 v2 fun v7 M6 => bI (v1 + v7) fun v8 => bI (v2 + (1 : Int32)) fun v9 => R5 (v8, v9, M6))
def w_X0_barsOnPage (p : Nat) (M : Mm) (Q : Int32 → Mm → Prop) : Prop :=
  ∃ n, loop (w_X0_barsOnPage_L4 p (fun ((v10, v11, M12) : Int32 × Int32 × Mm) => Q v10 M12) ) n ((0 : Int32), (0 : Int32), M)
def w_X0_rowOnDay (p : Nat) (M : Mm) (x1 : Int32) (x2 : Int32) (Q : Int32 → Mm → Prop) : Prop :=
  w_X2_meets p M x1 x2 x2 fun v2 M1 => if v2 = 0 then (Q (-9 : Int32) M1) else (w_X2_isLong p M1 x1 fun v4 M3 => if v4 = 0 then (ldA (M3 8 p) 24 x1 fun v5 => Q v5 M3) else (ldR 24 x1 fun k6 => w_X0_weekOfDay p M3 x2 fun v8 M7 => ldA (M7 12 (24 * p + k6)) 7 v8 fun v9 => Q v9 M7))
def w_X0_entryInRow_L2 (p : Nat) (x1 : Int32) (x2 : Int32) (Q : Int32 → Mm → Prop) (K3 : Int32 × Mm → Prop) (R4 : Int32 × Mm → Prop) : Int32 × Mm → Prop := fun (v1, M2) =>
  if (M2 11 p 4) ≤ v1 then (K3 (v1, M2)) else (w_X0_rowOnDay p M2 v1 x1 fun v6 M5 => if v6 = x2 then (Q v1 M5) else (bI (v1 + (1 : Int32)) fun v7 => R4 (v7, M5)))
def w_X0_entryInRow (p : Nat) (M : Mm) (x1 : Int32) (x2 : Int32) (Q : Int32 → Mm → Prop) : Prop :=
  ∃ n, loop (w_X0_entryInRow_L2 p x1 x2 Q (fun ((v8, M9) : Int32 × Mm) => Q (-9 : Int32) M9) ) n ((0 : Int32), M)
def w_X0_rowsOnDay_L3 (p : Nat) (x1 : Int32) (K3 : Int32 × Mm → Prop) (R4 : Int32 × Mm → Prop) : Int32 × Mm → Prop := fun (v1, M2) =>
  if v1 ≤ 0 then (K3 (v1, M2)) else (ldA (M2 9 p) 42 (x1 - (M2 11 p 0)) fun v5 => if ((v5 >>> ((v1 - (1 : Int32)) &&& 31)) &&& (1 : Int32)) = 0 then (bI (v1 + (-1 : Int32)) fun v6 => R4 (v6, M2)) else (K3 (v1, M2)))
def w_X0_rowsOnDay (p : Nat) (M : Mm) (x1 : Int32) (Q : Int32 → Mm → Prop) : Prop :=
  ∃ n, loop (w_X0_rowsOnDay_L3 p x1 (fun ((v7, M8) : Int32 × Mm) => Q v7 M8) ) n ((24 : Int32), M)
def w_J6_bitCount_0f7a4 (M : Mm) (x0 : Int32) (Q : Int32 → Mm → Prop) : Prop :=
  bI (x0 - (((Int32.toUInt32 x0 >>> (Int32.toUInt32 (1 : Int32) &&& Int32.toUInt32 31)).toInt32) &&& (1431655765 : Int32))) fun v1 => bI ((v1 &&& (858993459 : Int32)) + (((Int32.toUInt32 v1 >>> (Int32.toUInt32 (2 : Int32) &&& Int32.toUInt32 31)).toInt32) &&& (858993459 : Int32))) fun v2 => bI ((v2 + ((Int32.toUInt32 v2 >>> (Int32.toUInt32 (4 : Int32) &&& Int32.toUInt32 31)).toInt32)) &&& (252645135 : Int32)) fun v3 => bI (v3 + ((Int32.toUInt32 v3 >>> (Int32.toUInt32 (8 : Int32) &&& Int32.toUInt32 31)).toInt32)) fun v4 => bI (v4 + ((Int32.toUInt32 v4 >>> (Int32.toUInt32 (16 : Int32) &&& Int32.toUInt32 31)).toInt32)) fun v5 => Q (v5 &&& (63 : Int32)) M
def w_X0_hiddenOnDay (p : Nat) (M : Mm) (x1 : Int32) (x2 : Int32) (Q : Int32 → Mm → Prop) : Prop :=
  ldA (M 9 p) 42 (x1 - (M 11 p 0)) fun v1 => if (v1 >>> (x2 &&& 31)) = 0 then (Q (0 : Int32) M) else (w_J6_bitCount_0f7a4 M (v1 >>> ((x2 - (1 : Int32)) &&& 31)) fun v3 M2 => Q v3 M2)
def w_X0_hiddenOnDays_L6 (p : Nat) (x2 : Int32) (x3 : Int32) (K4 : Int32 × Int32 × Mm → Prop) (R5 : Int32 × Int32 × Mm → Prop) : Int32 × Int32 × Mm → Prop := fun (v1, v2, M3) =>
  if x2 < v2 then (K4 (v1, v2, M3)) else (w_X0_hiddenOnDay p M3 v2 x3 fun v7 M6 => bI (v1 + v7) fun v8 => bI (v2 + (1 : Int32)) fun v9 => R5 (v8, v9, M6))
def w_X0_hiddenOnDays (p : Nat) (M : Mm) (x1 : Int32) (x2 : Int32) (x3 : Int32) (Q : Int32 → Mm → Prop) : Prop :=
  ∃ n, loop (w_X0_hiddenOnDays_L6 p x2 x3 (fun ((v10, v11, M12) : Int32 × Int32 × Mm) => Q v10 M12) ) n ((0 : Int32), x1, M)
def w_X0_hiddenOnPage (p : Nat) (M : Mm) (x1 : Int32) (Q : Int32 → Mm → Prop) : Prop :=
  w_X0_hiddenOnDays p M (M 11 p 0) (M 11 p 1) x1 fun v2 M1 => Q v2 M1
def w_X0_daysHidden_L10 (p : Nat) (x1 : Int32) (K5 : Int32 × Int32 × Mm → Prop) (R6 : Int32 × Int32 × Mm → Prop) : Int32 × Int32 × Mm → Prop := fun (v2, v3, M4) =>
  if (M4 11 p 1) < v3 then (K5 (v2, v3, M4)) else (w_X0_rowOnDay p M4 x1 v3 fun v8 M7 => if v8 < ((M7 11 p 3) - (1 : Int32)) then (bI (v3 + (1 : Int32)) fun v9 => R6 (v2, v9, M7)) else (w_X0_hiddenOnDay p M7 v3 (M7 11 p 3) fun v11 M10 => if v11 ≤ 0 then (bI (v3 + (1 : Int32)) fun v12 => R6 (v2, v12, M10)) else (bI (v2 + (1 : Int32)) fun v13 => bI (v3 + (1 : Int32)) fun v14 => R6 (v13, v14, M10))))
def w_X0_daysHidden (p : Nat) (M : Mm) (x1 : Int32) (Q : Int32 → Mm → Prop) : Prop :=
  bI (M 11 p 0) fun v1 => ∃ n, loop (w_X0_daysHidden_L10 p x1 (fun ((v15, v16, M17) : Int32 × Int32 × Mm) => Q v15 M17) ) n ((0 : Int32), v1, M)
def w_X0_isEmptyOnDays_L2 (p : Nat) (x2 : Int32) (Q : Int32 → Mm → Prop) (K3 : Int32 × Mm → Prop) (R4 : Int32 × Mm → Prop) : Int32 × Mm → Prop := fun (v1, M2) =>
  if x2 < v1 then (K3 (v1, M2)) else (ldA (M2 9 p) 42 (v1 - (M2 11 p 0)) fun v5 => if v5 = 0 then (bI (v1 + (1 : Int32)) fun v6 => R4 (v6, M2)) else (Q (0 : Int32) M2))
def w_X0_isEmptyOnDays (p : Nat) (M : Mm) (x1 : Int32) (x2 : Int32) (Q : Int32 → Mm → Prop) : Prop :=
  ∃ n, loop (w_X0_isEmptyOnDays_L2 p x2 Q (fun ((v7, M8) : Int32 × Mm) => Q (1 : Int32) M8) ) n (x1, M)
def w_X2_copy_L42 (i : Nat) (j : Nat) (K8 : Int32 × Mm → Prop) (R9 : Int32 × Mm → Prop) : Int32 × Mm → Prop := fun (v6, M7) =>
  if (24 : Int32) ≤ v6 then (K8 (v6, M7)) else (ldA (M7 13 j) 24 v6 fun v10 => stA M7 13 i 24 v6 v10 fun M11 => ldA (M11 14 j) 24 v6 fun v12 => stA M11 14 i 24 v6 v12 fun M13 => ldA (M13 15 j) 24 v6 fun v14 => stA M13 15 i 24 v6 v14 fun M15 => ldA (M15 16 j) 24 v6 fun v16 => stA M15 16 i 24 v6 v16 fun M17 => bI (v6 + (1 : Int32)) fun v18 => R9 (v18, M17))
def w_X2_copy (i : Nat) (j : Nat) (M : Mm) (Q : Mm → Prop) : Prop :=
  stF M 11 i 0 (M 11 j 0) fun M1 => stF M1 11 i 1 (M1 11 j 1) fun M2 => stF M2 11 i 2 (M2 11 j 2) fun M3 => stF M3 11 i 3 (M3 11 j 3) fun M4 => stF M4 11 i 4 (M4 11 j 4) fun M5 => ∃ n, loop (w_X2_copy_L42 i j (fun ((v19, M20) : Int32 × Mm) => Q M20) ) n ((0 : Int32), M5)
def w_X1_record (j : Nat) (M : Mm) (Q : Mm → Prop) : Prop :=
  ldR 8 (((M 1 0 1) + (M 1 0 2)) - ((M 1 0 1) + (M 1 0 2)) / (8 : Int32) * (8 : Int32)) fun k1 => w_X2_copy (k1 + 2) j M fun M2 => if (8 : Int32) ≤ (M2 1 0 2) then (stF M2 1 0 1 (((M2 1 0 1) + (1 : Int32)) - ((M2 1 0 1) + (1 : Int32)) / (8 : Int32) * (8 : Int32)) fun M3 => Q M3) else (stF M2 1 0 2 ((M2 1 0 2) + (1 : Int32)) fun M4 => Q M4)
def w_X1_restore (j : Nat) (M : Mm) (Q : Mm → Prop) : Prop :=
  if 0 < (M 1 0 2) then (stF M 1 0 2 ((M 1 0 2) - (1 : Int32)) fun M1 => ldR 8 (((M1 1 0 1) + (M1 1 0 2)) - ((M1 1 0 1) + (M1 1 0 2)) / (8 : Int32) * (8 : Int32)) fun k2 => w_X2_copy j (k2 + 2) M1 fun M3 => Q M3) else (Q M)
def w_X2_append (i : Nat) (M : Mm) (x1 : Int32) (x2 : Int32) (x3 : Int32) (x4 : Int32) (Q : Mm → Prop) : Prop :=
  if (M 11 i 4) < (24 : Int32) then (stA M 13 i 24 (M 11 i 4) x1 fun M1 => stA M1 14 i 24 (M1 11 i 4) x2 fun M2 => stA M2 15 i 24 (M2 11 i 4) x3 fun M3 => stA M3 16 i 24 (M3 11 i 4) x4 fun M4 => stF M4 11 i 4 ((M4 11 i 4) + (1 : Int32)) fun M5 => Q M5) else (Q M)
def w_X2_remove_L2 (i : Nat) (K3 : Int32 × Mm → Prop) (R4 : Int32 × Mm → Prop) : Int32 × Mm → Prop := fun (v1, M2) =>
  if ((M2 11 i 4) - (1 : Int32)) ≤ v1 then (K3 (v1, M2)) else (ldA (M2 13 i) 24 (v1 + (1 : Int32)) fun v5 => stA M2 13 i 24 v1 v5 fun M6 => ldA (M6 14 i) 24 (v1 + (1 : Int32)) fun v7 => stA M6 14 i 24 v1 v7 fun M8 => ldA (M8 15 i) 24 (v1 + (1 : Int32)) fun v9 => stA M8 15 i 24 v1 v9 fun M10 => ldA (M10 16 i) 24 (v1 + (1 : Int32)) fun v11 => stA M10 16 i 24 v1 v11 fun M12 => bI (v1 + (1 : Int32)) fun v13 => R4 (v13, M12))
def w_X2_remove (i : Nat) (M : Mm) (x1 : Int32) (Q : Mm → Prop) : Prop :=
  ∃ n, loop (w_X2_remove_L2 i (fun ((v14, M15) : Int32 × Mm) => stF M15 11 i 4 ((M15 11 i 4) - (1 : Int32)) fun M16 => Q M16) ) n (x1, M)
def w_X2_daysOnPage (i : Nat) (M : Mm) (x1 : Int32) (Q : Int32 → Mm → Prop) : Prop :=
  ldA (M 14 i) 24 x1 fun v1 => ldA (M 13 i) 24 x1 fun v2 => Q (if (0 : Int32) < (((if (M 11 i 1) < v1 then (M 11 i 1) else v1) - (if v2 < (M 11 i 0) then (M 11 i 0) else v2)) + (1 : Int32)) then (((if (M 11 i 1) < v1 then (M 11 i 1) else v1) - (if v2 < (M 11 i 0) then (M 11 i 0) else v2)) + (1 : Int32)) else (0 : Int32)) M
def w_X2_shortOnes_L5 (i : Nat) (x1 : Int32) (x2 : Int32) (K4 : Int32 × Int32 × Mm → Prop) (R5 : Int32 × Int32 × Mm → Prop) : Int32 × Int32 × Mm → Prop := fun (v1, v2, M3) =>
  if (M3 11 i 4) ≤ v2 then (K4 (v1, v2, M3)) else (w_X2_isLong i M3 v2 fun v7 M6 => if v7 = 0 then (w_X2_meets i M6 v2 x1 x2 fun v10 M9 => if v10 = 0 then (bI (v2 + (1 : Int32)) fun v11 => R5 (v1, v11, M9)) else (bI (v1 + (1 : Int32)) fun v12 => bI (v2 + (1 : Int32)) fun v13 => R5 (v12, v13, M9))) else (bI (v2 + (1 : Int32)) fun v8 => R5 (v1, v8, M6)))
def w_X2_shortOnes (i : Nat) (M : Mm) (x1 : Int32) (x2 : Int32) (Q : Int32 → Mm → Prop) : Prop :=
  ∃ n, loop (w_X2_shortOnes_L5 i x1 x2 (fun ((v14, v15, M16) : Int32 × Int32 × Mm) => Q v14 M16) ) n ((0 : Int32), (0 : Int32), M)
def w_X2_longOnes_L4 (i : Nat) (x1 : Int32) (K4 : Int32 × Int32 × Mm → Prop) (R5 : Int32 × Int32 × Mm → Prop) : Int32 × Int32 × Mm → Prop := fun (v1, v2, M3) =>
  if (M3 11 i 4) ≤ v2 then (K4 (v1, v2, M3)) else (w_X2_isLong i M3 v2 fun v7 M6 => if v7 = 0 then (bI (v2 + (1 : Int32)) fun v8 => R5 (v1, v8, M6)) else (w_X2_meets i M6 v2 x1 x1 fun v10 M9 => if v10 = 0 then (bI (v2 + (1 : Int32)) fun v11 => R5 (v1, v11, M9)) else (bI (v1 + (1 : Int32)) fun v12 => bI (v2 + (1 : Int32)) fun v13 => R5 (v12, v13, M9))))
def w_X2_longOnes (i : Nat) (M : Mm) (x1 : Int32) (Q : Int32 → Mm → Prop) : Prop :=
  ∃ n, loop (w_X2_longOnes_L4 i x1 (fun ((v14, v15, M16) : Int32 × Int32 × Mm) => Q v14 M16) ) n ((0 : Int32), (0 : Int32), M)
def w_X2_allLongOnes_L4 (i : Nat) (K4 : Int32 × Int32 × Mm → Prop) (R5 : Int32 × Int32 × Mm → Prop) : Int32 × Int32 × Mm → Prop := fun (v1, v2, M3) =>
  if (M3 11 i 4) ≤ v2 then (K4 (v1, v2, M3)) else (w_X2_isLong i M3 v2 fun v7 M6 => if v7 = 0 then (bI (v2 + (1 : Int32)) fun v8 => R5 (v1, v8, M6)) else (bI (v1 + (1 : Int32)) fun v9 => bI (v2 + (1 : Int32)) fun v10 => R5 (v9, v10, M6)))
def w_X2_allLongOnes (i : Nat) (M : Mm) (Q : Int32 → Mm → Prop) : Prop :=
  ∃ n, loop (w_X2_allLongOnes_L4 i (fun ((v11, v12, M13) : Int32 × Int32 × Mm) => Q v11 M13) ) n ((0 : Int32), (0 : Int32), M)
def w_X2_allOnPage_L4 (i : Nat) (K4 : Int32 × Int32 × Mm → Prop) (R5 : Int32 × Int32 × Mm → Prop) : Int32 × Int32 × Mm → Prop := fun (v1, v2, M3) =>
  if (M3 11 i 4) ≤ v2 then (K4 (v1, v2, M3)) else (w_X2_meets i M3 v2 (M3 11 i 0) (M3 11 i 1) fun v7 M6 => if v7 = 0 then (bI (v2 + (1 : Int32)) fun v8 => R5 (v1, v8, M6)) else (bI (v1 + (1 : Int32)) fun v9 => bI (v2 + (1 : Int32)) fun v10 => R5 (v9, v10, M6)))
def w_X2_allOnPage (i : Nat) (M : Mm) (Q : Int32 → Mm → Prop) : Prop :=
  ∃ n, loop (w_X2_allOnPage_L4 i (fun ((v11, v12, M13) : Int32 × Int32 × Mm) => Q v11 M13) ) n ((0 : Int32), (0 : Int32), M)
def w_X3_append (M : Mm) (x1 : Int32) (Q : Mm → Prop) : Prop :=
  if (100 : Int32) ≤ (M 3 0 1) then (Q M) else (stA M 4 0 100 (M 3 0 1) x1 fun M1 => stF M1 3 0 1 ((M1 3 0 1) + (1 : Int32)) fun M2 => Q M2)
def w_X3_isAtDigit (M : Mm) (Q : Int32 → Mm → Prop) : Prop :=
  if (M 3 0 3) = (-1 : Int32) then (if (M 3 0 1) ≤ (M 3 0 2) then (Q (0 : Int32) M) else (ldA (M 4 0) 100 (M 3 0 2) fun v1 => if v1 < (48 : Int32) then (Q (0 : Int32) M) else (ldA (M 4 0) 100 (M 3 0 2) fun v2 => if (57 : Int32) < v2 then (Q (0 : Int32) M) else (Q (1 : Int32) M)))) else (Q (0 : Int32) M)
def w_X3_refuseHere (M : Mm) (Q : Mm → Prop) : Prop :=
  if (M 3 0 3) = (-1 : Int32) then (stF M 3 0 3 (M 3 0 2) fun M1 => Q M1) else (Q M)
def w_X3_readDigit (M : Mm) (Q : Int32 → Mm → Prop) : Prop :=
  w_X3_isAtDigit M fun v2 M1 => if v2 = 0 then (w_X3_refuseHere M1 fun M3 => Q (0 : Int32) M3) else (stF M1 3 0 2 ((M1 3 0 2) + (1 : Int32)) fun M4 => ldA (M4 4 0) 100 ((M4 3 0 2) - (1 : Int32)) fun v5 => Q (v5 - (48 : Int32)) M4)
def w_X3_readDay_L7 (K6 : Int32 × Int32 × Mm → Prop) (R7 : Int32 × Int32 × Mm → Prop) : Int32 × Int32 × Mm → Prop := fun (v3, v4, M5) =>
  if (3 : Int32) ≤ v4 then (K6 (v3, v4, M5)) else (w_X3_isAtDigit M5 fun v9 M8 => if v9 = 0 then (K6 (v3, v4, M8)) else (w_X3_readDigit M8 fun v11 M10 => bI (((10 : Int32) * v3) + v11) fun v12 => bI (v4 + (1 : Int32)) fun v13 => R7 (v12, v13, M10)))
def w_X3_readDay (M : Mm) (Q : Int32 → Mm → Prop) : Prop :=
  w_X3_readDigit M fun v2 M1 => ∃ n, loop (w_X3_readDay_L7 (fun ((v14, v15, M16) : Int32 × Int32 × Mm) => w_X3_isAtDigit M16 fun v18 M17 => if v18 = 0 then (Q v14 M17) else (stF M17 3 0 3 (M17 3 0 2) fun M19 => Q v14 M19)) ) n (v2, (1 : Int32), M1)
def w_X3_passes (M : Mm) (x1 : Int32) (Q : Int32 → Mm → Prop) : Prop :=
  letJ (fun (v1 : Int32) => if v1 = 0 then (bz v1 ∧ Q v1 M) else (stF M 3 0 2 ((M 3 0 2) + (1 : Int32)) fun M3 => bz v1 ∧ Q v1 M3)) fun J2 => letJ (fun (_ : Unit) => J2 (0 : Int32)) fun J4 => if (M 3 0 3) = (-1 : Int32) then (if (M 3 0 1) ≤ (M 3 0 2) then (J4 ()) else (ldA (M 4 0) 100 (M 3 0 2) fun v5 => if v5 = x1 then (J2 (1 : Int32)) else (J4 ()))) else (J4 ())
def w_X3_refuseLastDigitIf (M : Mm) (x1 : Int32) (Q : Mm → Prop) : Prop :=
  if x1 = 0 then (Q M) else (if (M 3 0 3) = (-1 : Int32) then (stF M 3 0 3 ((M 3 0 2) - (1 : Int32)) fun M1 => Q M1) else (Q M))
def w_X3_readTwoDigits (M : Mm) (x1 : Int32) (Q : Int32 → Mm → Prop) : Prop :=
  w_X3_readDigit M fun v2 M1 => w_X3_readDigit M1 fun v4 M3 => bI (((10 : Int32) * v2) + v4) fun v5 => letJ (fun (v6 : Int32) => w_X3_refuseLastDigitIf M3 v6 fun M8 => Q v5 M8) fun J7 => if v5 ≤ x1 then (J7 (0 : Int32)) else (J7 (1 : Int32))
def w_X3_require (M : Mm) (x1 : Int32) (Q : Mm → Prop) : Prop :=
  w_X3_passes M x1 fun v2 M1 => if v2 = 0 then (w_X3_refuseHere M1 fun M3 => Q M3) else (Q M1)
def w_X3_readTime (M : Mm) (Q : Int32 → Mm → Prop) : Prop :=
  w_X3_readTwoDigits M (23 : Int32) fun v2 M1 => w_X3_require M1 (58 : Int32) fun M3 => w_X3_readTwoDigits M3 (59 : Int32) fun v5 M4 => Q (((60 : Int32) * v2) + v5) M4
def w_X3_readEntry (j : Nat) (M : Mm) (Q : Mm → Prop) : Prop :=
  w_X3_readDay M fun v2 M1 => w_X3_passes M1 (45 : Int32) fun v4 M3 => letJ (fun ((v5, M7) : Int32 × Mm) => w_X3_passes M7 (64 : Int32) fun v9 M8 => letJ (fun ((v10, M12) : Int32 × Mm) => w_X3_passes M12 (33 : Int32) fun v14 M13 => letJ (fun ((v15, M17) : Int32 × Mm) => w_X3_require M17 (59 : Int32) fun M18 => if (M18 3 0 3) = (-1 : Int32) then (w_X2_append j M18 v2 v5 v10 v15 fun M19 => Q M19) else (Q M18)) fun J16 => if v14 = 0 then (J16 ((0 : Int32), M13)) else (w_X3_readDigit M13 fun v21 M20 => J16 (v21, M20))) fun J11 => if v9 = 0 then (J11 ((-9 : Int32), M8)) else (w_X3_readTime M8 fun v23 M22 => J11 (v23, M22))) fun J6 => if v4 = 0 then (J6 (v2, M3)) else (w_X3_readDay M3 fun v25 M24 => letJ (fun (v26 : Int32) => w_X3_refuseLastDigitIf M24 v26 fun M28 => J6 (v25, M28)) fun J27 => if v2 ≤ v25 then (J27 (0 : Int32)) else (J27 (1 : Int32)))
def w_X3_read_L17 (j : Nat) (K6 : Int32 × Mm → Prop) (R7 : Int32 × Mm → Prop) : Int32 × Mm → Prop := fun (v4, M5) =>
  if (24 : Int32) < v4 then (K6 (v4, M5)) else (if (M5 3 0 1) ≤ (M5 3 0 2) then (K6 (v4, M5)) else (if (M5 3 0 3) = (-1 : Int32) then (if v4 = (24 : Int32) then (stF M5 3 0 3 (M5 3 0 2) fun M10 => bI (v4 + (1 : Int32)) fun v11 => R7 (v11, M10)) else (w_X3_readEntry j M5 fun M8 => bI (v4 + (1 : Int32)) fun v9 => R7 (v9, M8))) else (K6 (v4, M5))))
def w_X3_read (j : Nat) (M : Mm) (Q : Int32 → Mm → Prop) : Prop :=
  stF M 3 0 2 (0 : Int32) fun M1 => stF M1 3 0 3 (-1 : Int32) fun M2 => stF M2 11 j 4 (0 : Int32) fun M3 => ∃ n, loop (w_X3_read_L17 j (fun ((v12, M13) : Int32 × Mm) => Q (M13 3 0 3) M13) ) n ((0 : Int32), M3)
def w_X4_isWithin (M : Mm) (x0 : Int32) (x1 : Int32) (x2 : Int32) (Q : Int32 → Mm → Prop) : Prop :=
  if x0 < x1 then (Q (0 : Int32) M) else (if x2 < x0 then (Q (0 : Int32) M) else (Q (1 : Int32) M))
def w_X4_isDay (M : Mm) (x0 : Int32) (Q : Int32 → Mm → Prop) : Prop :=
  w_X4_isWithin M x0 (0 : Int32) (999 : Int32) fun v2 M1 => Q v2 M1
def w_X4_setPage (M : Mm) (x1 : Int32) (x2 : Int32) (Q : Int32 → Mm → Prop) : Prop :=
  w_X4_isDay M x1 fun v2 M1 => if v2 = 0 then (Q (-1 : Int32) M1) else (w_X4_isDay M1 x2 fun v4 M3 => if v4 = 0 then (Q (-1 : Int32) M3) else (if x2 < x1 then (Q (-1 : Int32) M3) else (if (x2 - x1) < (42 : Int32) then (w_X1_record 0 M3 fun M5 => stF M5 11 0 0 x1 fun M6 => stF M6 11 0 1 x2 fun M7 => w_X0_lay 0 M7 fun M8 => Q (M8 5 0 1) M8) else (Q (-1 : Int32) M3))))
def w_X4_setWeek (M : Mm) (x1 : Int32) (Q : Int32 → Mm → Prop) : Prop :=
  w_X4_isWithin M x1 (0 : Int32) (6 : Int32) fun v2 M1 => if v2 = 0 then (Q (-1 : Int32) M1) else (w_X1_record 0 M1 fun M3 => stF M3 11 0 2 x1 fun M4 => w_X0_lay 0 M4 fun M5 => Q (M5 5 0 1) M5)
def w_X4_setRows (M : Mm) (x1 : Int32) (Q : Int32 → Mm → Prop) : Prop :=
  w_X4_isWithin M x1 (1 : Int32) (12 : Int32) fun v2 M1 => if v2 = 0 then (Q (-1 : Int32) M1) else (w_X1_record 0 M1 fun M3 => bI (M3 11 0 3) fun v4 => stF M3 11 0 3 x1 fun M5 => Q v4 M5)
def w_X4_week (M : Mm) (x1 : Int32) (x2 : Int32) (Q : Int32 → Mm → Prop) : Prop :=
  if x1 < 0 then (Q (-1 : Int32) M) else (w_X4_isWithin M x2 (0 : Int32) (5 : Int32) fun v2 M1 => if v2 = 0 then (Q (-1 : Int32) M1) else (if x1 < (M1 5 0 1) then (w_X0_firstOfWeek 0 M1 x1 fun v4 M3 => w_X0_lastOfWeek 0 M3 x1 fun v6 M5 => if x2 = (0 : Int32) then (Q v4 M5) else if x2 = (1 : Int32) then (Q v6 M5) else if x2 = (2 : Int32) then (w_X0_barsInWeek 0 M5 x1 fun v8 M7 => Q v8 M7) else if x2 = (3 : Int32) then (w_X0_lanesInWeek 0 M5 x1 fun v10 M9 => Q v10 M9) else if x2 = (4 : Int32) then (w_X2_shortOnes 0 M5 v4 v6 fun v12 M11 => Q v12 M11) else (w_X0_hiddenOnDays 0 M5 v4 v6 (M5 11 0 3) fun v14 M13 => Q v14 M13)) else (Q (-9 : Int32) M1)))
def w_X4_type (M : Mm) (x1 : Int32) (Q : Int32 → Mm → Prop) : Prop :=
  w_X4_isWithin M x1 (33 : Int32) (126 : Int32) fun v2 M1 => if v2 = 0 then (Q (-1 : Int32) M1) else (if (M1 3 0 1) < (100 : Int32) then (w_X3_append M1 x1 fun M3 => Q (M3 3 0 1) M3) else (Q (-3 : Int32) M1))
def w_X4_clear (M : Mm) (Q : Int32 → Mm → Prop) : Prop :=
  bI (M 3 0 1) fun v1 => stF M 3 0 1 (0 : Int32) fun M2 => Q v1 M2
def w_X4_load (M : Mm) (Q : Int32 → Mm → Prop) : Prop :=
  w_X2_copy 1 0 M fun M1 => w_X3_read 1 M1 fun v3 M2 => if v3 = (-1 : Int32) then (w_X1_record 0 M2 fun M4 => w_X2_copy 0 1 M4 fun M5 => w_X0_lay 0 M5 fun M6 => Q (M6 11 0 4) M6) else (Q ((-10 : Int32) - v3) M2)
def w_X4_isTime (M : Mm) (x0 : Int32) (Q : Int32 → Mm → Prop) : Prop :=
  if x0 = (-9 : Int32) then (Q (1 : Int32) M) else (w_X4_isWithin M x0 (0 : Int32) (1439 : Int32) fun v2 M1 => if v2 = 0 then (Q (0 : Int32) M1) else (Q (1 : Int32) M1))
def w_X4_isRank (M : Mm) (x0 : Int32) (Q : Int32 → Mm → Prop) : Prop :=
  w_X4_isWithin M x0 (0 : Int32) (9 : Int32) fun v2 M1 => Q v2 M1
def w_X4_add (M : Mm) (x1 : Int32) (x2 : Int32) (x3 : Int32) (x4 : Int32) (Q : Int32 → Mm → Prop) : Prop :=
  w_X4_isDay M x1 fun v2 M1 => if v2 = 0 then (Q (-1 : Int32) M1) else (w_X4_isDay M1 x2 fun v4 M3 => if v4 = 0 then (Q (-1 : Int32) M3) else (if x2 < x1 then (Q (-1 : Int32) M3) else (w_X4_isTime M3 x3 fun v6 M5 => if v6 = 0 then (Q (-1 : Int32) M5) else (w_X4_isRank M5 x4 fun v8 M7 => if v8 = 0 then (Q (-1 : Int32) M7) else (if (M7 11 0 4) < (24 : Int32) then (w_X1_record 0 M7 fun M9 => w_X2_append 0 M9 x1 x2 x3 x4 fun M10 => w_X0_lay 0 M10 fun M11 => Q ((M11 11 0 4) - (1 : Int32)) M11) else (Q (-3 : Int32) M7))))))
def w_X4_isEntry (M : Mm) (x1 : Int32) (Q : Int32 → Mm → Prop) : Prop :=
  w_X4_isWithin M x1 (0 : Int32) ((M 11 0 4) - (1 : Int32)) fun v2 M1 => Q v2 M1
def w_X4_drop (M : Mm) (x1 : Int32) (Q : Int32 → Mm → Prop) : Prop :=
  w_X4_isEntry M x1 fun v2 M1 => if v2 = 0 then (Q (-1 : Int32) M1) else (w_X1_record 0 M1 fun M3 => w_X2_remove 0 M3 x1 fun M4 => w_X0_lay 0 M4 fun M5 => Q (M5 11 0 4) M5)
def w_X4_move (M : Mm) (x1 : Int32) (x2 : Int32) (Q : Int32 → Mm → Prop) : Prop :=
  w_X4_isEntry M x1 fun v2 M1 => if v2 = 0 then (Q (-1 : Int32) M1) else (w_X4_isWithin M1 x2 (-999 : Int32) (999 : Int32) fun v4 M3 => if v4 = 0 then (Q (-1 : Int32) M3) else (ldA (M3 13 0) 24 x1 fun v5 => bI (v5 + x2) fun v6 => ldA (M3 14 0) 24 x1 fun v7 => bI (v7 + x2) fun v8 => w_X4_isDay M3 v6 fun v10 M9 => if v10 = 0 then (Q (-2 : Int32) M9) else (w_X4_isDay M9 v8 fun v12 M11 => if v12 = 0 then (Q (-2 : Int32) M11) else (w_X1_record 0 M11 fun M13 => stA M13 13 0 24 x1 v6 fun M14 => stA M14 14 0 24 x1 v8 fun M15 => w_X0_lay 0 M15 fun M16 => Q v6 M16))))
def w_X4_stretch (M : Mm) (x1 : Int32) (x2 : Int32) (Q : Int32 → Mm → Prop) : Prop :=
  w_X4_isEntry M x1 fun v2 M1 => if v2 = 0 then (Q (-1 : Int32) M1) else (w_X4_isDay M1 x2 fun v4 M3 => if v4 = 0 then (Q (-1 : Int32) M3) else (ldA (M3 13 0) 24 x1 fun v5 => if v5 ≤ x2 then (w_X1_record 0 M3 fun M6 => stA M6 14 0 24 x1 x2 fun M7 => w_X0_lay 0 M7 fun M8 => ldA (M8 13 0) 24 x1 fun v9 => Q ((x2 - v9) + (1 : Int32)) M8) else (Q (-2 : Int32) M3)))
def w_X4_asNumber (M : Mm) (x0 : Int32) (Q : Int32 → Mm → Prop) : Prop :=
  if x0 = 0 then (Q (0 : Int32) M) else (Q (1 : Int32) M)
def w_X4_settle (M : Mm) (x1 : Int32) (x2 : Int32) (x3 : Int32) (Q : Int32 → Mm → Prop) : Prop :=
  w_X4_isEntry M x1 fun v2 M1 => if v2 = 0 then (Q (-1 : Int32) M1) else (w_X4_isTime M1 x2 fun v4 M3 => if v4 = 0 then (Q (-1 : Int32) M3) else (w_X4_isRank M3 x3 fun v6 M5 => if v6 = 0 then (Q (-1 : Int32) M5) else (w_X1_record 0 M5 fun M7 => stA M7 15 0 24 x1 x2 fun M8 => stA M8 16 0 24 x1 x3 fun M9 => w_X0_lay 0 M9 fun M10 => w_X2_isLong 0 M10 x1 fun v12 M11 => w_X4_asNumber M11 v12 fun v14 M13 => Q v14 M13)))
def w_X4_entry (M : Mm) (x1 : Int32) (x2 : Int32) (Q : Int32 → Mm → Prop) : Prop :=
  w_X4_isEntry M x1 fun v2 M1 => if v2 = 0 then (Q (-1 : Int32) M1) else (if x2 = (0 : Int32) then (ldA (M1 13 0) 24 x1 fun v3 => Q v3 M1) else if x2 = (1 : Int32) then (ldA (M1 14 0) 24 x1 fun v4 => Q v4 M1) else if x2 = (2 : Int32) then (ldA (M1 15 0) 24 x1 fun v5 => Q v5 M1) else if x2 = (3 : Int32) then (ldA (M1 16 0) 24 x1 fun v6 => Q v6 M1) else if x2 = (4 : Int32) then (w_X2_isLong 0 M1 x1 fun v8 M7 => w_X4_asNumber M7 v8 fun v10 M9 => Q v10 M9) else if x2 = (5 : Int32) then (w_X2_daysOnPage 0 M1 x1 fun v12 M11 => Q v12 M11) else if x2 = (6 : Int32) then (w_X0_daysHidden 0 M1 x1 fun v14 M13 => Q v14 M13) else if x2 = (7 : Int32) then (w_X0_barsOfEntry 0 M1 x1 fun v16 M15 => Q v16 M15) else (Q (-1 : Int32) M1))
def w_X4_bar (M : Mm) (x1 : Int32) (x2 : Int32) (x3 : Int32) (Q : Int32 → Mm → Prop) : Prop :=
  w_X4_isEntry M x1 fun v2 M1 => if v2 = 0 then (Q (-1 : Int32) M1) else (if x2 < 0 then (Q (-1 : Int32) M1) else (w_X4_isWithin M1 x3 (0 : Int32) (4 : Int32) fun v4 M3 => if v4 = 0 then (Q (-1 : Int32) M3) else (if (M3 5 0 1) ≤ x2 then (Q (-9 : Int32) M3) else (ldR 24 x1 fun k5 => ldA (M3 12 (24 * 0 + k5)) 7 x2 fun v6 => if v6 = (-9 : Int32) then (Q (-9 : Int32) M3) else (w_X0_firstOfWeek 0 M3 x2 fun v8 M7 => w_X0_lastOfWeek 0 M7 x2 fun v10 M9 => if x3 = (0 : Int32) then (ldR 24 x1 fun k11 => ldA (M9 12 (24 * 0 + k11)) 7 x2 fun v12 => Q v12 M9) else if x3 = (1 : Int32) then (ldA (M9 13 0) 24 x1 fun v13 => Q (if v13 < v8 then v8 else v13) M9) else if x3 = (2 : Int32) then (ldA (M9 14 0) 24 x1 fun v14 => Q (if v10 < v14 then v10 else v14) M9) else if x3 = (3 : Int32) then (ldA (M9 13 0) 24 x1 fun v15 => letJ (fun (v16 : Int32) => w_X4_asNumber M9 v16 fun v19 M18 => Q v19 M18) fun J17 => if v8 ≤ v15 then (J17 (0 : Int32)) else (J17 (1 : Int32))) else (ldA (M9 14 0) 24 x1 fun v20 => letJ (fun (v21 : Int32) => w_X4_asNumber M9 v21 fun v24 M23 => Q v24 M23) fun J22 => if v20 ≤ v10 then (J22 (0 : Int32)) else (J22 (1 : Int32))))))))
def w_X4_isOnPage (M : Mm) (x1 : Int32) (Q : Int32 → Mm → Prop) : Prop :=
  w_X4_isWithin M x1 (M 11 0 0) (M 11 0 1) fun v2 M1 => Q v2 M1
def w_X4_shown (M : Mm) (x1 : Int32) (x2 : Int32) (Q : Int32 → Mm → Prop) : Prop :=
  w_X4_isOnPage M x1 fun v2 M1 => if v2 = 0 then (Q (-1 : Int32) M1) else (w_X4_isWithin M1 x2 (0 : Int32) (11 : Int32) fun v4 M3 => if v4 = 0 then (Q (-1 : Int32) M3) else (bI (M3 11 0 3) fun v5 => if x2 < v5 then (w_X0_hiddenOnDay 0 M3 x1 v5 fun v7 M6 => letJ (fun (_ : Unit) => w_X0_entryInRow 0 M6 x1 x2 fun v10 M9 => Q v10 M9) fun J8 => if v7 ≤ 0 then (J8 ()) else (if x2 = (v5 - (1 : Int32)) then (Q ((-10 : Int32) - v7) M6) else (J8 ()))) else (Q (-9 : Int32) M3)))
def w_X4_rowOf (M : Mm) (x1 : Int32) (x2 : Int32) (Q : Int32 → Mm → Prop) : Prop :=
  w_X4_isEntry M x1 fun v2 M1 => if v2 = 0 then (Q (-1 : Int32) M1) else (w_X4_isOnPage M1 x2 fun v4 M3 => if v4 = 0 then (Q (-1 : Int32) M3) else (w_X0_rowOnDay 0 M3 x1 x2 fun v6 M5 => Q v6 M5))
def w_X4_day (M : Mm) (x1 : Int32) (x2 : Int32) (Q : Int32 → Mm → Prop) : Prop :=
  w_X4_isOnPage M x1 fun v2 M1 => if v2 = 0 then (Q (-1 : Int32) M1) else (if x2 = (0 : Int32) then (w_X0_weekOfDay 0 M1 x1 fun v4 M3 => Q v4 M3) else if x2 = (1 : Int32) then (Q (x1 - x1 / (7 : Int32) * (7 : Int32)) M1) else if x2 = (2 : Int32) then (w_X2_longOnes 0 M1 x1 fun v6 M5 => Q v6 M5) else if x2 = (3 : Int32) then (w_X2_shortOnes 0 M1 x1 x1 fun v8 M7 => Q v8 M7) else if x2 = (4 : Int32) then (w_X0_hiddenOnDay 0 M1 x1 (M1 11 0 3) fun v10 M9 => Q v10 M9) else if x2 = (5 : Int32) then (w_X0_rowsOnDay 0 M1 x1 fun v12 M11 => Q v12 M11) else (Q (-1 : Int32) M1))
def w_X4_enough_L13 (K5 : Int32 × Int32 × Mm → Prop) (R6 : Int32 × Int32 × Mm → Prop) : Int32 × Int32 × Mm → Prop := fun (v2, v3, M4) =>
  if (M4 11 0 1) < v3 then (K5 (v2, v3, M4)) else (w_X0_rowsOnDay 0 M4 v3 fun v8 M7 => bI (if v2 < v8 then v8 else v2) fun v9 => bI (v3 + (1 : Int32)) fun v10 => R6 (v9, v10, M7))
def w_X4_enough (M : Mm) (Q : Int32 → Mm → Prop) : Prop :=
  bI (M 11 0 0) fun v1 => ∃ n, loop (w_X4_enough_L13 (fun ((v11, v12, M13) : Int32 × Int32 × Mm) => Q v11 M13) ) n ((1 : Int32), v1, M)
def w_X4_ifRows (M : Mm) (x1 : Int32) (Q : Int32 → Mm → Prop) : Prop :=
  w_X4_isWithin M x1 (1 : Int32) (12 : Int32) fun v2 M1 => if v2 = 0 then (Q (-1 : Int32) M1) else (w_X0_hiddenOnPage 0 M1 x1 fun v4 M3 => Q v4 M3)
def w_X4_free_L23 (x1 : Int32) (x2 : Int32) (Q : Int32 → Mm → Prop) (K6 : Int32 × Mm → Prop) (R7 : Int32 × Mm → Prop) : Int32 × Mm → Prop := fun (v4, M5) =>
  if (M5 11 0 1) < ((v4 + x1) - (1 : Int32)) then (K6 (v4, M5)) else (bI ((v4 + x1) - (1 : Int32)) fun v8 => letJ (fun ((v9, M11) : Int32 × Mm) => if v9 = 0 then (bI (v4 + (1 : Int32)) fun v12 => R7 (v12, M11)) else (w_X0_isEmptyOnDays 0 M11 v4 v8 fun v14 M13 => if v14 = 0 then (bI (v4 + (1 : Int32)) fun v15 => R7 (v15, M13)) else (Q v4 M13))) fun J10 => letJ (fun (M17 : Mm) => J10 ((1 : Int32), M17)) fun J16 => if x2 = 0 then (J16 M5) else (w_X0_weekOfDay 0 M5 v4 fun v19 M18 => w_X0_weekOfDay 0 M18 v8 fun v21 M20 => if v19 = v21 then (J16 M20) else (J10 ((0 : Int32), M20))))
def w_X4_free (M : Mm) (x1 : Int32) (x2 : Int32) (Q : Int32 → Mm → Prop) : Prop :=
  w_X4_isWithin M x1 (1 : Int32) (42 : Int32) fun v2 M1 => if v2 = 0 then (Q (-1 : Int32) M1) else (bI (M1 11 0 0) fun v3 => ∃ n, loop (w_X4_free_L23 x1 x2 Q (fun ((v22, M23) : Int32 × Mm) => Q (-9 : Int32) M23) ) n (v3, M1))
def w_X4_bestDay_L71 (x1 : Int32) (v4 : Int32) (v6 : Int32) (K12 : Int32 × Int32 × Int32 × Mm → Prop) (R13 : Int32 × Int32 × Int32 × Mm → Prop) : Int32 × Int32 × Int32 × Mm → Prop := fun (v8, v9, v10, M11) =>
  if (M11 11 1 1) < v10 then (K12 (v8, v9, v10, M11)) else (if (999 : Int32) < (v10 + v6) then (K12 (v8, v9, v10, M11)) else (stA M11 13 1 24 x1 v10 fun M14 => stA M14 14 1 24 x1 (v10 + v6) fun M15 => w_X0_lay 1 M15 fun M16 => w_X0_hiddenOnPage 1 M16 (M16 11 1 3) fun v18 M17 => letJ (fun (v19 : Int32) => if v8 = (-9 : Int32) then (bI (v10 + (1 : Int32)) fun v21 => R13 (v10, v18, v21, M17)) else (if v18 < v9 then (bI (v10 + (1 : Int32)) fun v22 => R13 (v10, v18, v22, M17)) else (if v18 = v9 then (if v19 = 0 then (bI (v10 + (1 : Int32)) fun v24 => R13 (v8, v9, v24, M17)) else (bI (v10 + (1 : Int32)) fun v25 => R13 (v10, v18, v25, M17))) else (bI (v10 + (1 : Int32)) fun v23 => R13 (v8, v9, v23, M17))))) fun J20 => if (if 0 ≤ (v8 - v4) then (v8 - v4) else 0 - (v8 - v4)) ≤ (if 0 ≤ (v10 - v4) then (v10 - v4) else 0 - (v10 - v4)) then (J20 (0 : Int32)) else (J20 (1 : Int32))))
def w_X4_bestDay (M : Mm) (x1 : Int32) (Q : Int32 → Mm → Prop) : Prop :=
  w_X4_isEntry M x1 fun v2 M1 => if v2 = 0 then (Q (-1 : Int32) M1) else (w_X2_copy 1 0 M1 fun M3 => ldA (M3 13 0) 24 x1 fun v4 => ldA (M3 14 0) 24 x1 fun v5 => bI (v5 - v4) fun v6 => bI (M3 11 1 0) fun v7 => ∃ n, loop (w_X4_bestDay_L71 x1 v4 v6 (fun ((v26, v27, v28, M29) : Int32 × Int32 × Int32 × Mm) => Q v26 M29) ) n ((-9 : Int32), (0 : Int32), v7, M3))
def w_X4_told (M : Mm) (x1 : Int32) (Q : Int32 → Mm → Prop) : Prop :=
  if x1 = (0 : Int32) then (Q (M 11 0 0) M) else if x1 = (1 : Int32) then (Q (M 11 0 1) M) else if x1 = (2 : Int32) then (Q (M 11 0 2) M) else if x1 = (3 : Int32) then (Q (M 11 0 3) M) else if x1 = (4 : Int32) then (Q (M 5 0 1) M) else if x1 = (5 : Int32) then (Q (M 11 0 4) M) else if x1 = (6 : Int32) then (w_X2_allLongOnes 0 M fun v2 M1 => Q v2 M1) else if x1 = (7 : Int32) then (w_X2_allOnPage 0 M fun v4 M3 => Q v4 M3) else if x1 = (8 : Int32) then (w_X0_barsOnPage 0 M fun v6 M5 => Q v6 M5) else if x1 = (9 : Int32) then (w_X0_hiddenOnPage 0 M (M 11 0 3) fun v8 M7 => Q v8 M7) else if x1 = (10 : Int32) then (Q (M 3 0 1) M) else if x1 = (11 : Int32) then (Q (M 1 0 2) M) else (Q (-1 : Int32) M)
def w_X4_undo (M : Mm) (Q : Int32 → Mm → Prop) : Prop :=
  if 0 < (M 1 0 2) then (w_X1_restore 0 M fun M1 => w_X0_lay 0 M1 fun M2 => Q (M2 1 0 2) M2) else (Q (-2 : Int32) M)
def w_X4_digestEntries_L23 (v2 : Int32) (K9 : Int64 × Int32 × Mm → Prop) (R10 : Int64 × Int32 × Mm → Prop) : Int64 × Int32 × Mm → Prop := fun (v6, v7, M8) =>
  if (7 : Int32) < v7 then (K9 (v6, v7, M8)) else (w_X4_entry M8 v2 v7 fun v12 M11 => bL (((31 : Int64) * v6) + (Int32.toInt64 v12)) fun v13 => bI (v7 + (1 : Int32)) fun v14 => R10 (v13, v14, M11))
def w_X4_digestEntries_L70 (v2 : Int32) (v19 : Int32) (K26 : Int64 × Int32 × Mm → Prop) (R27 : Int64 × Int32 × Mm → Prop) : Int64 × Int32 × Mm → Prop := fun (v23, v24, M25) =>
  if (4 : Int32) < v24 then (K26 (v23, v24, M25)) else (w_X4_bar M25 v2 v19 v24 fun v29 M28 => bL (((31 : Int64) * v23) + (Int32.toInt64 v29)) fun v30 => bI (v24 + (1 : Int32)) fun v31 => R27 (v30, v31, M28))
def w_X4_digestEntries_L55 (v2 : Int32) (K21 : Int64 × Int32 × Mm → Prop) (R22 : Int64 × Int32 × Mm → Prop) : Int64 × Int32 × Mm → Prop := fun (v18, v19, M20) =>
  if (M20 5 0 1) ≤ v19 then (K21 (v18, v19, M20)) else (∃ n, loop (w_X4_digestEntries_L70 v2 v19 (fun ((v32, v33, M34) : Int64 × Int32 × Mm) => bI (v19 + (1 : Int32)) fun v35 => R22 (v32, v35, M34)) ) n (v18, (0 : Int32), M20))
def w_X4_digestEntries_L5 (K4 : Int64 × Int32 × Mm → Prop) (R5 : Int64 × Int32 × Mm → Prop) : Int64 × Int32 × Mm → Prop := fun (v1, v2, M3) =>
  if (M3 11 0 4) ≤ v2 then (K4 (v1, v2, M3)) else (∃ n, loop (w_X4_digestEntries_L23 v2 (fun ((v15, v16, M17) : Int64 × Int32 × Mm) => ∃ n, loop (w_X4_digestEntries_L55 v2 (fun ((v36, v37, M38) : Int64 × Int32 × Mm) => bI (v2 + (1 : Int32)) fun v39 => R5 (v36, v39, M38)) ) n (v15, (0 : Int32), M17)) ) n (v1, (0 : Int32), M3))
def w_X4_digestEntries (M : Mm) (x1 : Int64) (Q : Int64 → Mm → Prop) : Prop :=
  ∃ n, loop (w_X4_digestEntries_L5 (fun ((v40, v41, M42) : Int64 × Int32 × Mm) => Q v40 M42) ) n (x1, (0 : Int32), M)
def w_X4_digestWeeks_L20 (v2 : Int32) (K9 : Int64 × Int32 × Mm → Prop) (R10 : Int64 × Int32 × Mm → Prop) : Int64 × Int32 × Mm → Prop := fun (v6, v7, M8) =>
  if (5 : Int32) < v7 then (K9 (v6, v7, M8)) else (w_X4_week M8 v2 v7 fun v12 M11 => bL (((31 : Int64) * v6) + (Int32.toInt64 v12)) fun v13 => bI (v7 + (1 : Int32)) fun v14 => R10 (v13, v14, M11))
def w_X4_digestWeeks_L5 (K4 : Int64 × Int32 × Mm → Prop) (R5 : Int64 × Int32 × Mm → Prop) : Int64 × Int32 × Mm → Prop := fun (v1, v2, M3) =>
  if (M3 5 0 1) ≤ v2 then (K4 (v1, v2, M3)) else (∃ n, loop (w_X4_digestWeeks_L20 v2 (fun ((v15, v16, M17) : Int64 × Int32 × Mm) => bI (v2 + (1 : Int32)) fun v18 => R5 (v15, v18, M17)) ) n (v1, (0 : Int32), M3))
def w_X4_digestWeeks (M : Mm) (x1 : Int64) (Q : Int64 → Mm → Prop) : Prop :=
  ∃ n, loop (w_X4_digestWeeks_L5 (fun ((v19, v20, M21) : Int64 × Int32 × Mm) => Q v19 M21) ) n (x1, (0 : Int32), M)
def w_X4_digestDays_L32 (v3 : Int32) (K10 : Int64 × Int32 × Mm → Prop) (R11 : Int64 × Int32 × Mm → Prop) : Int64 × Int32 × Mm → Prop := fun (v7, v8, M9) =>
  if (5 : Int32) < v8 then (K10 (v7, v8, M9)) else (w_X4_day M9 v3 v8 fun v13 M12 => bL (((31 : Int64) * v7) + (Int32.toInt64 v13)) fun v14 => bI (v8 + (1 : Int32)) fun v15 => R11 (v14, v15, M12))
def w_X4_digestDays_L63 (v3 : Int32) (K22 : Int64 × Int32 × Mm → Prop) (R23 : Int64 × Int32 × Mm → Prop) : Int64 × Int32 × Mm → Prop := fun (v19, v20, M21) =>
  if (12 : Int32) ≤ v20 then (K22 (v19, v20, M21)) else (w_X4_shown M21 v3 v20 fun v25 M24 => bL (((31 : Int64) * v19) + (Int32.toInt64 v25)) fun v26 => bI (v20 + (1 : Int32)) fun v27 => R23 (v26, v27, M24))
def w_X4_digestDays_L14 (K5 : Int64 × Int32 × Mm → Prop) (R6 : Int64 × Int32 × Mm → Prop) : Int64 × Int32 × Mm → Prop := fun (v2, v3, M4) =>
  if (M4 11 0 1) < v3 then (K5 (v2, v3, M4)) else (∃ n, loop (w_X4_digestDays_L32 v3 (fun ((v16, v17, M18) : Int64 × Int32 × Mm) => ∃ n, loop (w_X4_digestDays_L63 v3 (fun ((v28, v29, M30) : Int64 × Int32 × Mm) => bI (v3 + (1 : Int32)) fun v31 => R6 (v28, v31, M30)) ) n (v16, (0 : Int32), M18)) ) n (v2, (0 : Int32), M4))
def w_X4_digestDays (M : Mm) (x1 : Int64) (Q : Int64 → Mm → Prop) : Prop :=
  bI (M 11 0 0) fun v1 => ∃ n, loop (w_X4_digestDays_L14 (fun ((v32, v33, M34) : Int64 × Int32 × Mm) => Q v32 M34) ) n (x1, v1, M)
def w_X4_digest_L6 (K4 : Int64 × Int32 × Mm → Prop) (R5 : Int64 × Int32 × Mm → Prop) : Int64 × Int32 × Mm → Prop := fun (v1, v2, M3) =>
  if (11 : Int32) < v2 then (K4 (v1, v2, M3)) else (w_X4_told M3 v2 fun v7 M6 => bL (((31 : Int64) * v1) + (Int32.toInt64 v7)) fun v8 => bI (v2 + (1 : Int32)) fun v9 => R5 (v8, v9, M6))
def w_X4_digest (M : Mm) (Q : Int64 → Mm → Prop) : Prop :=
  ∃ n, loop (w_X4_digest_L6 (fun ((v10, v11, M12) : Int64 × Int32 × Mm) => w_X4_digestEntries M12 v10 fun v14 M13 => w_X4_digestWeeks M13 v14 fun v16 M15 => w_X4_digestDays M15 v16 fun v18 M17 => w_X4_enough M17 fun v20 M19 => bL (((31 : Int64) * v18) + (Int32.toInt64 v20)) fun v21 => w_X4_free M19 (1 : Int32) (0 : Int32) fun v23 M22 => Q (((31 : Int64) * v21) + (Int32.toInt64 v23)) M22) ) n ((43104 : Int64), (0 : Int32), M)
def w_X5_in (M : Mm) (x0 : Int32) (x1 : Int32) (x2 : Int32) (Q : Int32 → Mm → Prop) : Prop :=
  if x0 < x1 then (Q (0 : Int32) M) else (if x2 < x0 then (Q (0 : Int32) M) else (Q (1 : Int32) M))
def w_X5_records_L62 (K6 : Int32 × Mm → Prop) (R7 : Int32 × Mm → Prop) : Int32 × Mm → Prop := fun (v4, M5) =>
  if (101 : Int32) ≤ v4 then (K6 (v4, M5)) else (ldA (M5 18 0) 909 v4 fun v8 => stA M5 18 0 909 (((101 : Int32) * (M5 17 0 1)) + v4) v8 fun M9 => bI (v4 + (1 : Int32)) fun v10 => R7 (v10, M9))
def w_X5_records_L12 (K15 : Int32 × Mm → Prop) (R16 : Int32 × Mm → Prop) : Int32 × Mm → Prop := fun (v13, M14) =>
  if (808 : Int32) ≤ v13 then (K15 (v13, M14)) else (ldA (M14 18 0) 909 (v13 + (101 : Int32)) fun v17 => stA M14 18 0 909 v13 v17 fun M18 => bI (v13 + (1 : Int32)) fun v19 => R16 (v19, M18))
def w_X5_records (M : Mm) (Q : Mm → Prop) : Prop :=
  letJ (fun (M2 : Mm) => stF M2 17 0 1 ((M2 17 0 1) + (1 : Int32)) fun M3 => ∃ n, loop (w_X5_records_L62 (fun ((v11, M12) : Int32 × Mm) => Q M12) ) n ((0 : Int32), M3)) fun J1 => if (M 17 0 1) = (8 : Int32) then (∃ n, loop (w_X5_records_L12 (fun ((v20, M21) : Int32 × Mm) => stF M21 17 0 1 ((M21 17 0 1) - (1 : Int32)) fun M22 => J1 M22) ) n ((101 : Int32), M)) else (J1 M)
def w_X5_begins (M : Mm) (x1 : Int32) (Q : Int32 → Mm → Prop) : Prop :=
  ldA (M 18 0) 909 ((5 : Int32) + ((4 : Int32) * x1)) fun v1 => Q v1 M
def w_X5_ends (M : Mm) (x1 : Int32) (Q : Int32 → Mm → Prop) : Prop :=
  ldA (M 18 0) 909 (((5 : Int32) + ((4 : Int32) * x1)) + (1 : Int32)) fun v1 => Q v1 M
def w_X5_timeOf (M : Mm) (x1 : Int32) (Q : Int32 → Mm → Prop) : Prop :=
  ldA (M 18 0) 909 (((5 : Int32) + ((4 : Int32) * x1)) + (2 : Int32)) fun v1 => Q v1 M
def w_X5_rankOf (M : Mm) (x1 : Int32) (Q : Int32 → Mm → Prop) : Prop :=
  ldA (M 18 0) 909 (((5 : Int32) + ((4 : Int32) * x1)) + (3 : Int32)) fun v1 => Q v1 M
def w_X5_isEntry (M : Mm) (x1 : Int32) (Q : Int32 → Mm → Prop) : Prop :=
  ldA (M 18 0) 909 (4 : Int32) fun v1 => w_X5_in M x1 (0 : Int32) (v1 - (1 : Int32)) fun v3 M2 => Q v3 M2
def w_X5_isDay (M : Mm) (x0 : Int32) (Q : Int32 → Mm → Prop) : Prop :=
  w_X5_in M x0 (0 : Int32) (999 : Int32) fun v2 M1 => Q v2 M1
def w_X5_isOnPage (M : Mm) (x1 : Int32) (Q : Int32 → Mm → Prop) : Prop :=
  ldA (M 18 0) 909 (0 : Int32) fun v1 => ldA (M 18 0) 909 (1 : Int32) fun v2 => w_X5_in M x1 v1 v2 fun v4 M3 => Q v4 M3
def w_X5_isLong (M : Mm) (x1 : Int32) (Q : Int32 → Mm → Prop) : Prop :=
  w_X5_ends M x1 fun v2 M1 => w_X5_begins M1 x1 fun v4 M3 => if v4 < v2 then (Q (1 : Int32) M3) else (w_X5_timeOf M3 x1 fun v6 M5 => if v6 = (-9 : Int32) then (Q (1 : Int32) M5) else (Q (0 : Int32) M5))
def w_X5_isOn (M : Mm) (x1 : Int32) (x2 : Int32) (Q : Int32 → Mm → Prop) : Prop :=
  w_X5_begins M x1 fun v2 M1 => w_X5_ends M1 x1 fun v4 M3 => w_X5_in M3 x2 v2 v4 fun v6 M5 => Q v6 M5
def w_X5_weekOf_L11 (x1 : Int32) (K6 : Int32 × Int32 × Mm → Prop) (R7 : Int32 × Int32 × Mm → Prop) : Int32 × Int32 × Mm → Prop := fun (v3, v4, M5) =>
  if x1 < v4 then (K6 (v3, v4, M5)) else (ldA (M5 18 0) 909 (2 : Int32) fun v8 => if (v4 - v4 / (7 : Int32) * (7 : Int32)) = v8 then (bI (v3 + (1 : Int32)) fun v11 => bI (v4 + (1 : Int32)) fun v12 => R7 (v11, v12, M5)) else (bI (v3 + (0 : Int32)) fun v9 => bI (v4 + (1 : Int32)) fun v10 => R7 (v9, v10, M5)))
def w_X5_weekOf (M : Mm) (x1 : Int32) (Q : Int32 → Mm → Prop) : Prop :=
  ldA (M 18 0) 909 (0 : Int32) fun v1 => bI (v1 + (1 : Int32)) fun v2 => ∃ n, loop (w_X5_weekOf_L11 x1 (fun ((v13, v14, M15) : Int32 × Int32 × Mm) => Q v13 M15) ) n ((0 : Int32), v2, M)
def w_X5_weeks (M : Mm) (Q : Int32 → Mm → Prop) : Prop :=
  ldA (M 18 0) 909 (1 : Int32) fun v1 => w_X5_weekOf M v1 fun v3 M2 => Q (v3 + (1 : Int32)) M2
def w_X5_weekFirst_L7 (x1 : Int32) (K4 : Int32 × Mm → Prop) (R5 : Int32 × Mm → Prop) : Int32 × Mm → Prop := fun (v2, M3) =>
  w_X5_weekOf M3 v2 fun v7 M6 => if x1 ≤ v7 then (K4 (v2, M6)) else (bI (v2 + (1 : Int32)) fun v8 => R5 (v8, M6))
def w_X5_weekFirst (M : Mm) (x1 : Int32) (Q : Int32 → Mm → Prop) : Prop :=
  ldA (M 18 0) 909 (0 : Int32) fun v1 => ∃ n, loop (w_X5_weekFirst_L7 x1 (fun ((v9, M10) : Int32 × Mm) => Q v9 M10) ) n (v1, M)
def w_X5_weekLast_L7 (x1 : Int32) (K4 : Int32 × Mm → Prop) (R5 : Int32 × Mm → Prop) : Int32 × Mm → Prop := fun (v2, M3) =>
  w_X5_weekOf M3 v2 fun v7 M6 => if v7 ≤ x1 then (K4 (v2, M6)) else (bI (v2 + (-1 : Int32)) fun v8 => R5 (v8, M6))
def w_X5_weekLast (M : Mm) (x1 : Int32) (Q : Int32 → Mm → Prop) : Prop :=
  ldA (M 18 0) 909 (1 : Int32) fun v1 => ∃ n, loop (w_X5_weekLast_L7 x1 (fun ((v9, M10) : Int32 × Mm) => Q v9 M10) ) n (v1, M)
def w_X5_setPage (M : Mm) (x1 : Int32) (x2 : Int32) (Q : Int32 → Mm → Prop) : Prop :=
  w_X5_isDay M x1 fun v2 M1 => if v2 = 0 then (Q (-1 : Int32) M1) else (w_X5_isDay M1 x2 fun v4 M3 => if v4 = 0 then (Q (-1 : Int32) M3) else (if x2 < x1 then (Q (-1 : Int32) M3) else (if x2 ≤ (x1 + (41 : Int32)) then (w_X5_records M3 fun M5 => stA M5 18 0 909 (0 : Int32) x1 fun M6 => stA M6 18 0 909 (1 : Int32) x2 fun M7 => w_X5_weeks M7 fun v9 M8 => Q v9 M8) else (Q (-1 : Int32) M3))))
def w_X5_setWeek (M : Mm) (x1 : Int32) (Q : Int32 → Mm → Prop) : Prop :=
  w_X5_in M x1 (0 : Int32) (6 : Int32) fun v2 M1 => if v2 = 0 then (Q (-1 : Int32) M1) else (w_X5_records M1 fun M3 => stA M3 18 0 909 (2 : Int32) x1 fun M4 => w_X5_weeks M4 fun v6 M5 => Q v6 M5)
def w_X5_setRows (M : Mm) (x1 : Int32) (Q : Int32 → Mm → Prop) : Prop :=
  w_X5_in M x1 (1 : Int32) (12 : Int32) fun v2 M1 => if v2 = 0 then (Q (-1 : Int32) M1) else (w_X5_records M1 fun M3 => ldA (M3 18 0) 909 (3 : Int32) fun v4 => stA M3 18 0 909 (3 : Int32) x1 fun M5 => Q v4 M5)
def w_X5_weekAt_L2 (x1 : Int32) (K3 : Int32 × Mm → Prop) (R4 : Int32 × Mm → Prop) : Int32 × Mm → Prop := fun (v1, M2) =>
  ldA (M2 22 0) 8 (v1 + (1 : Int32)) fun v5 => if x1 < v5 then (K3 (v1, M2)) else (bI (v1 + (1 : Int32)) fun v6 => R4 (v6, M2))
def w_X5_weekAt (M : Mm) (x1 : Int32) (Q : Int32 → Mm → Prop) : Prop :=
  ∃ n, loop (w_X5_weekAt_L2 x1 (fun ((v7, M8) : Int32 × Mm) => Q v7 M8) ) n ((0 : Int32), M)
def w_X5_isIn (M : Mm) (x1 : Int32) (x2 : Int32) (Q : Int32 → Mm → Prop) : Prop :=
  w_X5_begins M x1 fun v2 M1 => ldA (M1 22 0) 8 (x2 + (1 : Int32)) fun v3 => if v3 ≤ v2 then (Q (0 : Int32) M1) else (w_X5_ends M1 x1 fun v5 M4 => ldA (M4 22 0) 8 x2 fun v6 => if v5 < v6 then (Q (0 : Int32) M4) else (Q (1 : Int32) M4))
def w_X5_beganBefore (M : Mm) (x1 : Int32) (x2 : Int32) (Q : Int32 → Mm → Prop) : Prop :=
  w_X5_begins M x1 fun v2 M1 => ldA (M1 22 0) 8 x2 fun v3 => if v3 ≤ v2 then (Q (0 : Int32) M1) else (Q (1 : Int32) M1)
def w_X5_isAhead (M : Mm) (x1 : Int32) (x2 : Int32) (x3 : Int32) (Q : Int32 → Mm → Prop) : Prop :=
  w_X5_beganBefore M x1 x3 fun v2 M1 => w_X5_beganBefore M1 x2 x3 fun v4 M3 => if v2 = v4 then (w_X5_beganBefore M3 x1 x3 fun v6 M5 => if v6 = 0 then (w_X5_begins M5 x1 fun v8 M7 => w_X5_begins M7 x2 fun v10 M9 => if v8 = v10 then (w_X5_ends M9 x1 fun v12 M11 => w_X5_begins M11 x1 fun v14 M13 => bI (v12 - v14) fun v15 => w_X5_ends M13 x2 fun v17 M16 => w_X5_begins M16 x2 fun v19 M18 => bI (v17 - v19) fun v20 => if v15 = v20 then (w_X5_rankOf M18 x1 fun v22 M21 => w_X5_rankOf M21 x2 fun v24 M23 => if v22 = v24 then (if x2 ≤ x1 then (Q (0 : Int32) M23) else (Q (1 : Int32) M23)) else (w_X5_rankOf M23 x1 fun v26 M25 => w_X5_rankOf M25 x2 fun v28 M27 => if v26 ≤ v28 then (Q (0 : Int32) M27) else (Q (1 : Int32) M27))) else (if v15 ≤ v20 then (Q (0 : Int32) M18) else (Q (1 : Int32) M18))) else (w_X5_begins M9 x1 fun v30 M29 => w_X5_begins M29 x2 fun v32 M31 => if v32 ≤ v30 then (Q (0 : Int32) M31) else (Q (1 : Int32) M31))) else (if x3 = 0 then (if x2 ≤ x1 then (Q (0 : Int32) M5) else (Q (1 : Int32) M5)) else (ldA (M5 20 0) 168 ((((7 : Int32) * x1) + x3) - (1 : Int32)) fun v33 => ldA (M5 20 0) 168 ((((7 : Int32) * x2) + x3) - (1 : Int32)) fun v34 => if v34 ≤ v33 then (Q (0 : Int32) M5) else (Q (1 : Int32) M5)))) else (w_X5_beganBefore M3 x1 x3 fun v36 M35 => Q v36 M35)
def w_X5_meetsIn (M : Mm) (x1 : Int32) (x2 : Int32) (x3 : Int32) (Q : Int32 → Mm → Prop) : Prop :=
  w_X5_begins M x1 fun v2 M1 => w_X5_begins M1 x2 fun v4 M3 => letJ (fun ((v5, M7) : Int32 × Mm) => w_X5_ends M7 x1 fun v9 M8 => w_X5_ends M8 x2 fun v11 M10 => letJ (fun ((v12, M14) : Int32 × Mm) => ldA (M14 22 0) 8 (x3 + (1 : Int32)) fun v15 => if v15 ≤ v5 then (Q (0 : Int32) M14) else (ldA (M14 22 0) 8 x3 fun v16 => if v12 < v16 then (Q (0 : Int32) M14) else (Q (1 : Int32) M14))) fun J13 => if v11 ≤ v9 then (w_X5_ends M10 x2 fun v18 M17 => J13 (v18, M17)) else (w_X5_ends M10 x1 fun v20 M19 => J13 (v20, M19))) fun J6 => if v2 ≤ v4 then (w_X5_begins M3 x2 fun v22 M21 => J6 (v22, M21)) else (w_X5_begins M3 x1 fun v24 M23 => J6 (v24, M23))
def w_X5_isFree_L6 (x1 : Int32) (x2 : Int32) (x3 : Int32) (K4 : Int32 × Int32 × Mm → Prop) (R5 : Int32 × Int32 × Mm → Prop) : Int32 × Int32 × Mm → Prop := fun (v1, v2, M3) =>
  ldA (M3 18 0) 909 (4 : Int32) fun v6 => if v6 ≤ v2 then (K4 (v1, v2, M3)) else (letJ (fun (v7 : Int32) => if v1 = 0 then (bI (v2 + (1 : Int32)) fun v9 => R5 ((0 : Int32), v9, M3)) else (if v7 = 0 then (bI (v2 + (1 : Int32)) fun v10 => R5 ((1 : Int32), v10, M3)) else (w_X5_begins M3 v2 fun v12 M11 => w_X5_ends M11 x1 fun v14 M13 => if v14 < v12 then (bI (v2 + (1 : Int32)) fun v15 => R5 ((1 : Int32), v15, M13)) else (w_X5_begins M13 x1 fun v17 M16 => w_X5_ends M16 v2 fun v19 M18 => if v19 < v17 then (bI (v2 + (1 : Int32)) fun v20 => R5 ((1 : Int32), v20, M18)) else (w_X5_meetsIn M18 v2 x1 x2 fun v22 M21 => if v22 = 0 then (bI (v2 + (1 : Int32)) fun v24 => R5 ((1 : Int32), v24, M21)) else (bI (v2 + (1 : Int32)) fun v23 => R5 ((0 : Int32), v23, M21))))))) fun J8 => letJ (fun (_ : Unit) => J8 (0 : Int32)) fun J25 => if v2 = x1 then (J25 ()) else (ldA (M3 20 0) 168 (((7 : Int32) * v2) + x2) fun v26 => if v26 = x3 then (J8 (1 : Int32)) else (J25 ())))
def w_X5_isFree (M : Mm) (x1 : Int32) (x2 : Int32) (x3 : Int32) (Q : Int32 → Mm → Prop) : Prop :=
  ∃ n, loop (w_X5_isFree_L6 x1 x2 x3 (fun ((v27, v28, M29) : Int32 × Int32 × Mm) => bz v27 ∧ Q v27 M29) ) n ((1 : Int32), (0 : Int32), M)
def w_X5_laysBar_L26 (x1 : Int32) (x2 : Int32) (v1 : Int32) (K5 : Int32 × Mm → Prop) (R6 : Int32 × Mm → Prop) : Int32 × Mm → Prop := fun (v3, M4) =>
  w_X5_isFree M4 x1 x2 v3 fun v8 M7 => if v8 = 0 then (bI (v3 + (1 : Int32)) fun v9 => R6 (v9, M7)) else (K5 (v3, M7))
def w_X5_laysBar (M : Mm) (x1 : Int32) (x2 : Int32) (Q : Mm → Prop) : Prop :=
  letJ (fun (v1 : Int32) => ∃ n, loop (w_X5_laysBar_L26 x1 x2 v1 (fun ((v10, M11) : Int32 × Mm) => letJ (fun ((v12, M14) : Int32 × Mm) => stA M14 20 0 168 (((7 : Int32) * x1) + x2) v12 fun M15 => Q M15) fun J13 => letJ (fun (M17 : Mm) => J13 (v10, M17)) fun J16 => if v1 = (-9 : Int32) then (J16 M11) else (w_X5_isFree M11 x1 x2 v1 fun v19 M18 => if v19 = 0 then (J16 M18) else (J13 (v1, M18)))) ) n ((0 : Int32), M)) fun J2 => if x2 = 0 then (J2 (-9 : Int32)) else (ldA (M 20 0) 168 ((((7 : Int32) * x1) + x2) - (1 : Int32)) fun v20 => J2 v20)
def w_X5_laysWeek_L12 (x1 : Int32) (K8 : Int32 × Int32 × Mm → Prop) (R9 : Int32 × Int32 × Mm → Prop) : Int32 × Int32 × Mm → Prop := fun (v5, v6, M7) =>
  ldA (M7 18 0) 909 (4 : Int32) fun v10 => if v10 ≤ v6 then (K8 (v5, v6, M7)) else (w_X5_isLong M7 v6 fun v12 M11 => letJ (fun ((v13, M15) : Int32 × Mm) => if v13 = 0 then (bI (v6 + (1 : Int32)) fun v16 => R9 (v5, v16, M15)) else (if v5 = (-9 : Int32) then (bI (v6 + (1 : Int32)) fun v17 => R9 (v6, v17, M15)) else (w_X5_isAhead M15 v6 v5 x1 fun v19 M18 => if v19 = 0 then (bI (v6 + (1 : Int32)) fun v20 => R9 (v5, v20, M18)) else (bI (v6 + (1 : Int32)) fun v21 => R9 (v6, v21, M18))))) fun J14 => letJ (fun (M23 : Mm) => J14 ((0 : Int32), M23)) fun J22 => if v12 = 0 then (J22 M11) else (w_X5_isIn M11 v6 x1 fun v25 M24 => if v25 = 0 then (J22 M24) else (ldA (M24 20 0) 168 (((7 : Int32) * v6) + x1) fun v26 => if v26 = (-9 : Int32) then (J14 ((1 : Int32), M24)) else (J22 M24))))
def w_X5_laysWeek_L2 (x1 : Int32) (K3 : Int32 × Mm → Prop) (R4 : Int32 × Mm → Prop) : Int32 × Mm → Prop := fun (v1, M2) =>
  if v1 = 0 then (K3 (v1, M2)) else (∃ n, loop (w_X5_laysWeek_L12 x1 (fun ((v27, v28, M29) : Int32 × Int32 × Mm) => letJ (fun (v30 : Int32) => if v30 = 0 then (R4 (v30, M29)) else (w_X5_laysBar M29 v27 x1 fun M32 => R4 (v30, M32))) fun J31 => if v27 = (-9 : Int32) then (J31 (0 : Int32)) else (J31 (1 : Int32))) ) n ((-9 : Int32), (0 : Int32), M2))
def w_X5_laysWeek (M : Mm) (x1 : Int32) (Q : Mm → Prop) : Prop :=
  ∃ n, loop (w_X5_laysWeek_L2 x1 (fun ((v33, M34) : Int32 × Mm) => Q M34) ) n ((1 : Int32), M)
def w_X5_isShortBefore (M : Mm) (x1 : Int32) (x2 : Int32) (Q : Int32 → Mm → Prop) : Prop :=
  w_X5_rankOf M x1 fun v2 M1 => w_X5_rankOf M1 x2 fun v4 M3 => if v2 = v4 then (w_X5_timeOf M3 x1 fun v6 M5 => w_X5_timeOf M5 x2 fun v8 M7 => if v6 = v8 then (if x2 ≤ x1 then (Q (0 : Int32) M7) else (Q (1 : Int32) M7)) else (w_X5_timeOf M7 x1 fun v10 M9 => w_X5_timeOf M9 x2 fun v12 M11 => if v12 ≤ v10 then (Q (0 : Int32) M11) else (Q (1 : Int32) M11))) else (w_X5_rankOf M3 x1 fun v14 M13 => w_X5_rankOf M13 x2 fun v16 M15 => if v14 ≤ v16 then (Q (0 : Int32) M15) else (Q (1 : Int32) M15))
def w_X5_isShortOn (M : Mm) (x1 : Int32) (x2 : Int32) (Q : Int32 → Mm → Prop) : Prop :=
  w_X5_isLong M x1 fun v2 M1 => if v2 = 0 then (w_X5_begins M1 x1 fun v4 M3 => if v4 = x2 then (Q (1 : Int32) M3) else (Q (0 : Int32) M3)) else (Q (0 : Int32) M1)
def w_X5_rowAt (M : Mm) (x1 : Int32) (x2 : Int32) (Q : Int32 → Mm → Prop) : Prop :=
  w_X5_isLong M x1 fun v2 M1 => if v2 = 0 then (ldA (M1 21 0) 24 x1 fun v3 => Q v3 M1) else (w_X5_weekAt M1 x2 fun v5 M4 => ldA (M4 20 0) 168 (((7 : Int32) * x1) + v5) fun v6 => Q v6 M4)
def w_X5_isTaken_L5 (x1 : Int32) (x2 : Int32) (K4 : Int32 × Int32 × Mm → Prop) (R5 : Int32 × Int32 × Mm → Prop) : Int32 × Int32 × Mm → Prop := fun (v1, v2, M3) =>
  ldA (M3 18 0) 909 (4 : Int32) fun v6 => if v6 ≤ v2 then (K4 (v1, v2, M3)) else (if v1 = 0 then (w_X5_isOn M3 v2 x1 fun v9 M8 => if v9 = 0 then (bI (v2 + (1 : Int32)) fun v10 => R5 ((0 : Int32), v10, M8)) else (w_X5_rowAt M8 v2 x1 fun v12 M11 => if v12 = x2 then (bI (v2 + (1 : Int32)) fun v14 => R5 ((1 : Int32), v14, M11)) else (bI (v2 + (1 : Int32)) fun v13 => R5 ((0 : Int32), v13, M11)))) else (bI (v2 + (1 : Int32)) fun v7 => R5 ((1 : Int32), v7, M3)))
def w_X5_isTaken (M : Mm) (x1 : Int32) (x2 : Int32) (Q : Int32 → Mm → Prop) : Prop :=
  ∃ n, loop (w_X5_isTaken_L5 x1 x2 (fun ((v15, v16, M17) : Int32 × Int32 × Mm) => bz v15 ∧ Q v15 M17) ) n ((0 : Int32), (0 : Int32), M)
def w_X5_laysDay_L12 (x1 : Int32) (K8 : Int32 × Int32 × Mm → Prop) (R9 : Int32 × Int32 × Mm → Prop) : Int32 × Int32 × Mm → Prop := fun (v5, v6, M7) =>
  ldA (M7 18 0) 909 (4 : Int32) fun v10 => if v10 ≤ v6 then (K8 (v5, v6, M7)) else (w_X5_isShortOn M7 v6 x1 fun v12 M11 => letJ (fun (v13 : Int32) => if v13 = 0 then (bI (v6 + (1 : Int32)) fun v15 => R9 (v5, v15, M11)) else (if v5 = (-9 : Int32) then (bI (v6 + (1 : Int32)) fun v16 => R9 (v6, v16, M11)) else (w_X5_isShortBefore M11 v6 v5 fun v18 M17 => if v18 = 0 then (bI (v6 + (1 : Int32)) fun v19 => R9 (v5, v19, M17)) else (bI (v6 + (1 : Int32)) fun v20 => R9 (v6, v20, M17))))) fun J14 => letJ (fun (_ : Unit) => J14 (0 : Int32)) fun J21 => if v12 = 0 then (J21 ()) else (ldA (M11 21 0) 24 v6 fun v22 => if v22 = (-9 : Int32) then (J14 (1 : Int32)) else (J21 ())))
def w_X5_laysDay_L105 (x1 : Int32) (v26 : Int32) (v23 : Int32) (K30 : Int32 × Mm → Prop) (R31 : Int32 × Mm → Prop) : Int32 × Mm → Prop := fun (v28, M29) =>
  w_X5_isTaken M29 x1 v28 fun v33 M32 => if v33 = 0 then (K30 (v28, M32)) else (bI (v28 + (1 : Int32)) fun v34 => R31 (v34, M32))
def w_X5_laysDay_L2 (x1 : Int32) (K3 : Int32 × Mm → Prop) (R4 : Int32 × Mm → Prop) : Int32 × Mm → Prop := fun (v1, M2) =>
  if v1 = 0 then (K3 (v1, M2)) else (∃ n, loop (w_X5_laysDay_L12 x1 (fun ((v23, v24, M25) : Int32 × Int32 × Mm) => letJ (fun (v26 : Int32) => if v26 = 0 then (R4 (v26, M25)) else (∃ n, loop (w_X5_laysDay_L105 x1 v26 v23 (fun ((v35, M36) : Int32 × Mm) => stA M36 21 0 24 v23 v35 fun M37 => R4 (v26, M37)) ) n ((0 : Int32), M25))) fun J27 => if v23 = (-9 : Int32) then (J27 (0 : Int32)) else (J27 (1 : Int32))) ) n ((-9 : Int32), (0 : Int32), M2))
def w_X5_laysDay (M : Mm) (x1 : Int32) (Q : Mm → Prop) : Prop :=
  ∃ n, loop (w_X5_laysDay_L2 x1 (fun ((v38, M39) : Int32 × Mm) => Q M39) ) n ((1 : Int32), M)
def w_X5_lays_L7 (v2 : Int32) (K5 : Int32 × Mm → Prop) (R6 : Int32 × Mm → Prop) : Int32 × Mm → Prop := fun (v3, M4) =>
  if v2 ≤ v3 then (K5 (v3, M4)) else (w_X5_weekFirst M4 v3 fun v8 M7 => stA M7 22 0 8 v3 v8 fun M9 => bI (v3 + (1 : Int32)) fun v10 => R6 (v10, M9))
def w_X5_lays_L45 (v2 : Int32) (K17 : Int32 × Mm → Prop) (R18 : Int32 × Mm → Prop) : Int32 × Mm → Prop := fun (v15, M16) =>
  if (168 : Int32) ≤ v15 then (K17 (v15, M16)) else (stA M16 20 0 168 v15 (-9 : Int32) fun M19 => bI (v15 + (1 : Int32)) fun v20 => R18 (v20, M19))
def w_X5_lays_L68 (v2 : Int32) (K25 : Int32 × Mm → Prop) (R26 : Int32 × Mm → Prop) : Int32 × Mm → Prop := fun (v23, M24) =>
  if (24 : Int32) ≤ v23 then (K25 (v23, M24)) else (stA M24 21 0 24 v23 (-9 : Int32) fun M27 => bI (v23 + (1 : Int32)) fun v28 => R26 (v28, M27))
def w_X5_lays_L90 (v2 : Int32) (K33 : Int32 × Mm → Prop) (R34 : Int32 × Mm → Prop) : Int32 × Mm → Prop := fun (v31, M32) =>
  if v2 ≤ v31 then (K33 (v31, M32)) else (w_X5_laysWeek M32 v31 fun M35 => bI (v31 + (1 : Int32)) fun v36 => R34 (v36, M35))
def w_X5_lays_L113 (K42 : Int32 × Mm → Prop) (R43 : Int32 × Mm → Prop) : Int32 × Mm → Prop := fun (v40, M41) =>
  ldA (M41 18 0) 909 (1 : Int32) fun v44 => if v44 < v40 then (K42 (v40, M41)) else (w_X5_laysDay M41 v40 fun M45 => bI (v40 + (1 : Int32)) fun v46 => R43 (v46, M45))
def w_X5_lays (M : Mm) (Q : Mm → Prop) : Prop :=
  w_X5_weeks M fun v2 M1 => ∃ n, loop (w_X5_lays_L7 v2 (fun ((v11, M12) : Int32 × Mm) => ldA (M12 18 0) 909 (1 : Int32) fun v13 => stA M12 22 0 8 v2 (v13 + (1 : Int32)) fun M14 => ∃ n, loop (w_X5_lays_L45 v2 (fun ((v21, M22) : Int32 × Mm) => ∃ n, loop (w_X5_lays_L68 v2 (fun ((v29, M30) : Int32 × Mm) => ∃ n, loop (w_X5_lays_L90 v2 (fun ((v37, M38) : Int32 × Mm) => ldA (M38 18 0) 909 (0 : Int32) fun v39 => ∃ n, loop (w_X5_lays_L113 (fun ((v47, M48) : Int32 × Mm) => Q M48) ) n (v39, M38)) ) n ((0 : Int32), M30)) ) n ((0 : Int32), M22)) ) n ((0 : Int32), M14)) ) n ((0 : Int32), M1)
def w_X5_needed_L4 (x1 : Int32) (K4 : Int32 × Int32 × Mm → Prop) (R5 : Int32 × Int32 × Mm → Prop) : Int32 × Int32 × Mm → Prop := fun (v1, v2, M3) =>
  ldA (M3 18 0) 909 (4 : Int32) fun v6 => if v6 ≤ v2 then (K4 (v1, v2, M3)) else (w_X5_isOn M3 v2 x1 fun v8 M7 => letJ (fun ((v9, M11) : Int32 × Mm) => if v9 < v1 then (bI (v2 + (1 : Int32)) fun v12 => R5 (v1, v12, M11)) else (bI (v9 + (1 : Int32)) fun v13 => bI (v2 + (1 : Int32)) fun v14 => R5 (v13, v14, M11))) fun J10 => if v8 = 0 then (J10 ((-9 : Int32), M7)) else (w_X5_rowAt M7 v2 x1 fun v16 M15 => J10 (v16, M15)))
def w_X5_needed (M : Mm) (x1 : Int32) (Q : Int32 → Mm → Prop) : Prop :=
  ∃ n, loop (w_X5_needed_L4 x1 (fun ((v17, v18, M19) : Int32 × Int32 × Mm) => Q v17 M19) ) n ((0 : Int32), (0 : Int32), M)
def w_X5_markOf (M : Mm) (x1 : Int32) (x2 : Int32) (Q : Int32 → Mm → Prop) : Prop :=
  w_X5_needed M x1 fun v2 M1 => if x2 < v2 then (Q (x2 - (1 : Int32)) M1) else (Q v2 M1)
def w_X5_hiddenOn_L13 (x1 : Int32) (v2 : Int32) (K6 : Int32 × Int32 × Mm → Prop) (R7 : Int32 × Int32 × Mm → Prop) : Int32 × Int32 × Mm → Prop := fun (v3, v4, M5) =>
  ldA (M5 18 0) 909 (4 : Int32) fun v8 => if v8 ≤ v4 then (K6 (v3, v4, M5)) else (w_X5_isOn M5 v4 x1 fun v10 M9 => if v10 = 0 then (bI (v3 + (0 : Int32)) fun v11 => bI (v4 + (1 : Int32)) fun v12 => R7 (v11, v12, M9)) else (w_X5_rowAt M9 v4 x1 fun v14 M13 => if v14 < v2 then (bI (v3 + (0 : Int32)) fun v15 => bI (v4 + (1 : Int32)) fun v16 => R7 (v15, v16, M13)) else (bI (v3 + (1 : Int32)) fun v17 => bI (v4 + (1 : Int32)) fun v18 => R7 (v17, v18, M13))))
def w_X5_hiddenOn (M : Mm) (x1 : Int32) (x2 : Int32) (Q : Int32 → Mm → Prop) : Prop :=
  w_X5_markOf M x1 x2 fun v2 M1 => ∃ n, loop (w_X5_hiddenOn_L13 x1 v2 (fun ((v19, v20, M21) : Int32 × Int32 × Mm) => Q v19 M21) ) n ((0 : Int32), (0 : Int32), M1)
def w_X5_hidden_L6 (x2 : Int32) (x3 : Int32) (K4 : Int32 × Int32 × Mm → Prop) (R5 : Int32 × Int32 × Mm → Prop) : Int32 × Int32 × Mm → Prop := fun (v1, v2, M3) =>
  if x2 < v2 then (K4 (v1, v2, M3)) else (w_X5_hiddenOn M3 v2 x3 fun v7 M6 => bI (v1 + v7) fun v8 => bI (v2 + (1 : Int32)) fun v9 => R5 (v8, v9, M6))
def w_X5_hidden (M : Mm) (x1 : Int32) (x2 : Int32) (x3 : Int32) (Q : Int32 → Mm → Prop) : Prop :=
  ∃ n, loop (w_X5_hidden_L6 x2 x3 (fun ((v10, v11, M12) : Int32 × Int32 × Mm) => Q v10 M12) ) n ((0 : Int32), x1, M)
def w_X5_barsIn_L4 (x1 : Int32) (K4 : Int32 × Int32 × Mm → Prop) (R5 : Int32 × Int32 × Mm → Prop) : Int32 × Int32 × Mm → Prop := fun (v1, v2, M3) =>
  ldA (M3 18 0) 909 (4 : Int32) fun v6 => if v6 ≤ v2 then (K4 (v1, v2, M3)) else (ldA (M3 20 0) 168 (((7 : Int32) * v2) + x1) fun v7 => if v7 = (-9 : Int32) then (bI (v1 + (0 : Int32)) fun v10 => bI (v2 + (1 : Int32)) fun v11 => R5 (v10, v11, M3)) else (bI (v1 + (1 : Int32)) fun v8 => bI (v2 + (1 : Int32)) fun v9 => R5 (v8, v9, M3)))
def w_X5_barsIn (M : Mm) (x1 : Int32) (Q : Int32 → Mm → Prop) : Prop :=
  ∃ n, loop (w_X5_barsIn_L4 x1 (fun ((v12, v13, M14) : Int32 × Int32 × Mm) => Q v12 M14) ) n ((0 : Int32), (0 : Int32), M)
def w_X5_lanesIn_L4 (x1 : Int32) (K4 : Int32 × Int32 × Mm → Prop) (R5 : Int32 × Int32 × Mm → Prop) : Int32 × Int32 × Mm → Prop := fun (v1, v2, M3) =>
  ldA (M3 18 0) 909 (4 : Int32) fun v6 => if v6 ≤ v2 then (K4 (v1, v2, M3)) else (ldA (M3 20 0) 168 (((7 : Int32) * v2) + x1) fun v7 => if v7 < v1 then (bI (v2 + (1 : Int32)) fun v8 => R5 (v1, v8, M3)) else (ldA (M3 20 0) 168 (((7 : Int32) * v2) + x1) fun v9 => bI (v9 + (1 : Int32)) fun v10 => bI (v2 + (1 : Int32)) fun v11 => R5 (v10, v11, M3)))
def w_X5_lanesIn (M : Mm) (x1 : Int32) (Q : Int32 → Mm → Prop) : Prop :=
  ∃ n, loop (w_X5_lanesIn_L4 x1 (fun ((v12, v13, M14) : Int32 × Int32 × Mm) => Q v12 M14) ) n ((0 : Int32), (0 : Int32), M)
def w_X5_shortsIn_L5 (x1 : Int32) (x2 : Int32) (K4 : Int32 × Int32 × Mm → Prop) (R5 : Int32 × Int32 × Mm → Prop) : Int32 × Int32 × Mm → Prop := fun (v1, v2, M3) =>
  ldA (M3 18 0) 909 (4 : Int32) fun v6 => if v6 ≤ v2 then (K4 (v1, v2, M3)) else (w_X5_isLong M3 v2 fun v8 M7 => if v8 = 0 then (w_X5_begins M7 v2 fun v12 M11 => w_X5_in M11 v12 x1 x2 fun v14 M13 => if v14 = 0 then (bI (v1 + (0 : Int32)) fun v15 => bI (v2 + (1 : Int32)) fun v16 => R5 (v15, v16, M13)) else (bI (v1 + (1 : Int32)) fun v17 => bI (v2 + (1 : Int32)) fun v18 => R5 (v17, v18, M13))) else (bI (v1 + (0 : Int32)) fun v9 => bI (v2 + (1 : Int32)) fun v10 => R5 (v9, v10, M7)))
def w_X5_shortsIn (M : Mm) (x1 : Int32) (x2 : Int32) (Q : Int32 → Mm → Prop) : Prop :=
  ∃ n, loop (w_X5_shortsIn_L5 x1 x2 (fun ((v19, v20, M21) : Int32 × Int32 × Mm) => Q v19 M21) ) n ((0 : Int32), (0 : Int32), M)
def w_X5_weekOfAll (M : Mm) (x1 : Int32) (x2 : Int32) (Q : Int32 → Mm → Prop) : Prop :=
  w_X5_weekFirst M x1 fun v2 M1 => w_X5_weekLast M1 x1 fun v4 M3 => if x2 = (0 : Int32) then (Q v2 M3) else if x2 = (1 : Int32) then (Q v4 M3) else if x2 = (2 : Int32) then (w_X5_barsIn M3 x1 fun v6 M5 => Q v6 M5) else if x2 = (3 : Int32) then (w_X5_lanesIn M3 x1 fun v8 M7 => Q v8 M7) else if x2 = (4 : Int32) then (w_X5_shortsIn M3 v2 v4 fun v10 M9 => Q v10 M9) else (ldA (M3 18 0) 909 (3 : Int32) fun v11 => w_X5_hidden M3 v2 v4 v11 fun v13 M12 => Q v13 M12)
def w_X5_week (M : Mm) (x1 : Int32) (x2 : Int32) (Q : Int32 → Mm → Prop) : Prop :=
  if x1 < 0 then (Q (-1 : Int32) M) else (w_X5_in M x2 (0 : Int32) (5 : Int32) fun v2 M1 => if v2 = 0 then (Q (-1 : Int32) M1) else (w_X5_lays M1 fun M3 => w_X5_weeks M3 fun v5 M4 => if v5 ≤ x1 then (Q (-9 : Int32) M4) else (w_X5_weekOfAll M4 x1 x2 fun v7 M6 => Q v7 M6)))
def w_X5_type (M : Mm) (x1 : Int32) (Q : Int32 → Mm → Prop) : Prop :=
  w_X5_in M x1 (33 : Int32) (126 : Int32) fun v2 M1 => if v2 = 0 then (Q (-1 : Int32) M1) else (if (M1 17 0 3) = (100 : Int32) then (Q (-3 : Int32) M1) else (stA M1 19 0 100 (M1 17 0 3) x1 fun M3 => stF M3 17 0 3 ((M3 17 0 3) + (1 : Int32)) fun M4 => Q (M4 17 0 3) M4))
def w_X5_clear (M : Mm) (Q : Int32 → Mm → Prop) : Prop :=
  bI (M 17 0 3) fun v1 => stF M 17 0 3 (0 : Int32) fun M2 => Q v1 M2
def w_X5_here (M : Mm) (Q : Int32 → Mm → Prop) : Prop :=
  if (M 17 0 3) ≤ (M 17 0 7) then (Q (-9 : Int32) M) else (ldA (M 19 0) 100 (M 17 0 7) fun v1 => Q v1 M)
def w_X5_takes (M : Mm) (x1 : Int32) (Q : Int32 → Mm → Prop) : Prop :=
  w_X5_here M fun v2 M1 => letJ (fun (v3 : Int32) => letJ (fun (v5 : Int32) => stF M1 17 0 7 ((M1 17 0 7) + v5) fun M7 => bz v3 ∧ Q v3 M7) fun J6 => if v3 = 0 then (J6 (0 : Int32)) else (J6 (1 : Int32))) fun J4 => if v2 = x1 then (J4 (1 : Int32)) else (J4 (0 : Int32))
def w_X5_isFigure (M : Mm) (Q : Int32 → Mm → Prop) : Prop :=
  w_X5_here M fun v2 M1 => w_X5_in M1 v2 (48 : Int32) (57 : Int32) fun v4 M3 => Q v4 M3
def w_X5_readsNumber_L8 (x1 : Int32) (x2 : Int32) (x3 : Int32) (K4 : Int32 × Mm → Prop) (R5 : Int32 × Mm → Prop) : Int32 × Mm → Prop := fun (v2, M3) =>
  w_X5_isFigure M3 fun v7 M6 => if v7 = 0 then (K4 (v2, M6)) else (if x1 ≤ v2 then (K4 (v2, M6)) else (w_X5_here M6 fun v9 M8 => stF M8 17 0 8 ((((10 : Int32) * (M6 17 0 8)) + v9) - (48 : Int32)) fun M10 => stF M10 17 0 7 ((M10 17 0 7) + (1 : Int32)) fun M11 => bI (v2 + (1 : Int32)) fun v12 => R5 (v12, M11)))
def w_X5_readsNumber (M : Mm) (x1 : Int32) (x2 : Int32) (x3 : Int32) (Q : Int32 → Mm → Prop) : Prop :=
  stF M 17 0 8 (0 : Int32) fun M1 => ∃ n, loop (w_X5_readsNumber_L8 x1 x2 x3 (fun ((v13, M14) : Int32 × Mm) => if v13 = 0 then (Q (0 : Int32) M14) else (w_X5_isFigure M14 fun v16 M15 => if v16 = 0 then (w_X5_in M15 (M15 17 0 8) x2 x3 fun v18 M17 => letJ (fun (v19 : Int32) => stF M17 17 0 7 ((M17 17 0 7) - v19) fun M21 => Q v18 M21) fun J20 => if v18 = 0 then (J20 (1 : Int32)) else (J20 (0 : Int32))) else (Q (0 : Int32) M15))) ) n ((0 : Int32), M1)
def w_X5_readsTwo_L7 (x1 : Int32) (Q : Int32 → Mm → Prop) (K4 : Int32 × Mm → Prop) (R5 : Int32 × Mm → Prop) : Int32 × Mm → Prop := fun (v2, M3) =>
  if (2 : Int32) ≤ v2 then (K4 (v2, M3)) else (w_X5_isFigure M3 fun v7 M6 => if v7 = 0 then (Q (0 : Int32) M6) else (w_X5_here M6 fun v9 M8 => stF M8 17 0 8 ((((10 : Int32) * (M6 17 0 8)) + v9) - (48 : Int32)) fun M10 => stF M10 17 0 7 ((M10 17 0 7) + (1 : Int32)) fun M11 => bI (v2 + (1 : Int32)) fun v12 => R5 (v12, M11)))
def w_X5_readsTwo (M : Mm) (x1 : Int32) (Q : Int32 → Mm → Prop) : Prop :=
  stF M 17 0 8 (0 : Int32) fun M1 => ∃ n, loop (w_X5_readsTwo_L7 x1 Q (fun ((v13, M14) : Int32 × Mm) => letJ (fun (v15 : Int32) => stF M14 17 0 7 ((M14 17 0 7) - v15) fun M17 => if x1 < (M17 17 0 8) then (Q (0 : Int32) M17) else (Q (1 : Int32) M17)) fun J16 => if (M14 17 0 8) ≤ x1 then (J16 (0 : Int32)) else (J16 (1 : Int32))) ) n ((0 : Int32), M1)
def w_X5_readsTime (M : Mm) (x1 : Int32) (Q : Int32 → Mm → Prop) : Prop :=
  w_X5_readsTwo M (23 : Int32) fun v2 M1 => if v2 = 0 then (Q (0 : Int32) M1) else (bI (M1 17 0 8) fun v3 => w_X5_takes M1 (58 : Int32) fun v5 M4 => if v5 = 0 then (Q (0 : Int32) M4) else (w_X5_readsTwo M4 (59 : Int32) fun v7 M6 => if v7 = 0 then (Q (0 : Int32) M6) else (stA M6 23 0 96 (x1 + (2 : Int32)) (((60 : Int32) * v3) + (M6 17 0 8)) fun M8 => Q (1 : Int32) M8)))
def w_X5_readsEntry (M : Mm) (x1 : Int32) (Q : Int32 → Mm → Prop) : Prop :=
  bI ((4 : Int32) * x1) fun v1 => if x1 = (24 : Int32) then (Q (0 : Int32) M) else (w_X5_readsNumber M (3 : Int32) (0 : Int32) (999 : Int32) fun v3 M2 => if v3 = 0 then (Q (0 : Int32) M2) else (stA M2 23 0 96 v1 (M2 17 0 8) fun M4 => w_X5_takes M4 (45 : Int32) fun v6 M5 => letJ (fun (M8 : Mm) => stA M8 23 0 96 (v1 + (1 : Int32)) (M8 17 0 8) fun M9 => stA M9 23 0 96 (v1 + (2 : Int32)) (-9 : Int32) fun M10 => w_X5_takes M10 (64 : Int32) fun v12 M11 => letJ (fun (M14 : Mm) => stF M14 17 0 8 (0 : Int32) fun M15 => w_X5_takes M15 (33 : Int32) fun v17 M16 => letJ (fun (M19 : Mm) => stA M19 23 0 96 (v1 + (3 : Int32)) (M19 17 0 8) fun M20 => w_X5_takes M20 (59 : Int32) fun v22 M21 => Q v22 M21) fun J18 => if v17 = 0 then (J18 M16) else (w_X5_readsNumber M16 (1 : Int32) (0 : Int32) (9 : Int32) fun v24 M23 => if v24 = 0 then (Q (0 : Int32) M23) else (J18 M23))) fun J13 => if v12 = 0 then (J13 M11) else (w_X5_readsTime M11 v1 fun v26 M25 => if v26 = 0 then (Q (0 : Int32) M25) else (J13 M25))) fun J7 => if v6 = 0 then (J7 M5) else (ldA (M5 23 0) 96 v1 fun v27 => w_X5_readsNumber M5 (3 : Int32) v27 (999 : Int32) fun v29 M28 => if v29 = 0 then (Q (0 : Int32) M28) else (J7 M28))))
def w_X5_load_L7 (Q : Int32 → Mm → Prop) (K4 : Int32 × Mm → Prop) (R5 : Int32 × Mm → Prop) : Int32 × Mm → Prop := fun (v2, M3) =>
  if (M3 17 0 3) ≤ (M3 17 0 7) then (K4 (v2, M3)) else (w_X5_readsEntry M3 v2 fun v7 M6 => if v7 = 0 then (Q ((-10 : Int32) - (M6 17 0 7)) M6) else (bI (v2 + (1 : Int32)) fun v8 => R5 (v8, M6)))
def w_X5_load_L53 (v9 : Int32) (K15 : Int32 × Mm → Prop) (R16 : Int32 × Mm → Prop) : Int32 × Mm → Prop := fun (v13, M14) =>
  if ((4 : Int32) * v9) ≤ v13 then (K15 (v13, M14)) else (ldA (M14 23 0) 96 v13 fun v17 => stA M14 18 0 909 ((5 : Int32) + v13) v17 fun M18 => bI (v13 + (1 : Int32)) fun v19 => R16 (v19, M18))
def w_X5_load (M : Mm) (Q : Int32 → Mm → Prop) : Prop :=
  stF M 17 0 7 (0 : Int32) fun M1 => ∃ n, loop (w_X5_load_L7 Q (fun ((v9, M10) : Int32 × Mm) => w_X5_records M10 fun M11 => stA M11 18 0 909 (4 : Int32) v9 fun M12 => ∃ n, loop (w_X5_load_L53 v9 (fun ((v20, M21) : Int32 × Mm) => Q v9 M21) ) n ((0 : Int32), M12)) ) n ((0 : Int32), M1)
def w_X5_isTime (M : Mm) (x0 : Int32) (Q : Int32 → Mm → Prop) : Prop :=
  if x0 = (-9 : Int32) then (Q (1 : Int32) M) else (w_X5_in M x0 (0 : Int32) (1439 : Int32) fun v2 M1 => if v2 = 0 then (Q (0 : Int32) M1) else (Q (1 : Int32) M1))
def w_X5_add (M : Mm) (x1 : Int32) (x2 : Int32) (x3 : Int32) (x4 : Int32) (Q : Int32 → Mm → Prop) : Prop :=
  w_X5_isDay M x1 fun v2 M1 => if v2 = 0 then (Q (-1 : Int32) M1) else (w_X5_in M1 x2 x1 (999 : Int32) fun v4 M3 => if v4 = 0 then (Q (-1 : Int32) M3) else (w_X5_isTime M3 x3 fun v6 M5 => if v6 = 0 then (Q (-1 : Int32) M5) else (w_X5_in M5 x4 (0 : Int32) (9 : Int32) fun v8 M7 => if v8 = 0 then (Q (-1 : Int32) M7) else (ldA (M7 18 0) 909 (4 : Int32) fun v9 => if v9 = (24 : Int32) then (Q (-3 : Int32) M7) else (w_X5_records M7 fun M10 => ldA (M10 18 0) 909 (4 : Int32) fun v11 => stA M10 18 0 909 ((5 : Int32) + ((4 : Int32) * v11)) x1 fun M12 => stA M12 18 0 909 (((5 : Int32) + ((4 : Int32) * v11)) + (1 : Int32)) x2 fun M13 => stA M13 18 0 909 (((5 : Int32) + ((4 : Int32) * v11)) + (2 : Int32)) x3 fun M14 => stA M14 18 0 909 (((5 : Int32) + ((4 : Int32) * v11)) + (3 : Int32)) x4 fun M15 => ldA (M15 18 0) 909 (4 : Int32) fun v16 => stA M15 18 0 909 (4 : Int32) (v16 + (1 : Int32)) fun M17 => Q v11 M17)))))
def w_X5_drop_L30 (K9 : Int32 × Mm → Prop) (R10 : Int32 × Mm → Prop) : Int32 × Mm → Prop := fun (v7, M8) =>
  ldA (M8 18 0) 909 (4 : Int32) fun v11 => if ((5 : Int32) + ((4 : Int32) * v11)) ≤ v7 then (K9 (v7, M8)) else (ldA (M8 18 0) 909 (v7 + (4 : Int32)) fun v12 => stA M8 18 0 909 v7 v12 fun M13 => bI (v7 + (1 : Int32)) fun v14 => R10 (v14, M13))
def w_X5_drop (M : Mm) (x1 : Int32) (Q : Int32 → Mm → Prop) : Prop :=
  w_X5_isEntry M x1 fun v2 M1 => if v2 = 0 then (Q (-1 : Int32) M1) else (w_X5_records M1 fun M3 => ldA (M3 18 0) 909 (4 : Int32) fun v4 => stA M3 18 0 909 (4 : Int32) (v4 - (1 : Int32)) fun M5 => bI ((5 : Int32) + ((4 : Int32) * x1)) fun v6 => ∃ n, loop (w_X5_drop_L30 (fun ((v15, M16) : Int32 × Mm) => ldA (M16 18 0) 909 (4 : Int32) fun v17 => Q v17 M16) ) n (v6, M5))
def w_X5_moves (M : Mm) (x1 : Int32) (x2 : Int32) (Q : Mm → Prop) : Prop :=
  ldA (M 18 0) 909 ((5 : Int32) + ((4 : Int32) * x1)) fun v1 => stA M 18 0 909 ((5 : Int32) + ((4 : Int32) * x1)) (v1 + x2) fun M2 => ldA (M2 18 0) 909 (((5 : Int32) + ((4 : Int32) * x1)) + (1 : Int32)) fun v3 => stA M2 18 0 909 (((5 : Int32) + ((4 : Int32) * x1)) + (1 : Int32)) (v3 + x2) fun M4 => Q M4
def w_X5_move (M : Mm) (x1 : Int32) (x2 : Int32) (Q : Int32 → Mm → Prop) : Prop :=
  w_X5_isEntry M x1 fun v2 M1 => if v2 = 0 then (Q (-1 : Int32) M1) else (w_X5_in M1 x2 (-999 : Int32) (999 : Int32) fun v4 M3 => if v4 = 0 then (Q (-1 : Int32) M3) else (w_X5_begins M3 x1 fun v6 M5 => if (v6 + x2) < 0 then (Q (-2 : Int32) M5) else (w_X5_ends M5 x1 fun v8 M7 => if (v8 + x2) ≤ (999 : Int32) then (w_X5_records M7 fun M9 => w_X5_moves M9 x1 x2 fun M10 => w_X5_begins M10 x1 fun v12 M11 => Q v12 M11) else (Q (-2 : Int32) M7))))
def w_X5_stretch (M : Mm) (x1 : Int32) (x2 : Int32) (Q : Int32 → Mm → Prop) : Prop :=
  w_X5_isEntry M x1 fun v2 M1 => if v2 = 0 then (Q (-1 : Int32) M1) else (w_X5_isDay M1 x2 fun v4 M3 => if v4 = 0 then (Q (-1 : Int32) M3) else (w_X5_begins M3 x1 fun v6 M5 => if v6 ≤ x2 then (w_X5_records M5 fun M7 => stA M7 18 0 909 (((5 : Int32) + ((4 : Int32) * x1)) + (1 : Int32)) x2 fun M8 => w_X5_begins M8 x1 fun v10 M9 => Q ((x2 - v10) + (1 : Int32)) M9) else (Q (-2 : Int32) M5)))
def w_X5_settle (M : Mm) (x1 : Int32) (x2 : Int32) (x3 : Int32) (Q : Int32 → Mm → Prop) : Prop :=
  w_X5_isEntry M x1 fun v2 M1 => if v2 = 0 then (Q (-1 : Int32) M1) else (w_X5_isTime M1 x2 fun v4 M3 => if v4 = 0 then (Q (-1 : Int32) M3) else (w_X5_in M3 x3 (0 : Int32) (9 : Int32) fun v6 M5 => if v6 = 0 then (Q (-1 : Int32) M5) else (w_X5_records M5 fun M7 => stA M7 18 0 909 (((5 : Int32) + ((4 : Int32) * x1)) + (2 : Int32)) x2 fun M8 => stA M8 18 0 909 (((5 : Int32) + ((4 : Int32) * x1)) + (3 : Int32)) x3 fun M9 => w_X5_isLong M9 x1 fun v11 M10 => if v11 = 0 then (Q (0 : Int32) M10) else (Q (1 : Int32) M10))))
def w_X5_daysOf_L10 (x1 : Int32) (x2 : Int32) (K5 : Int32 × Int32 × Mm → Prop) (R6 : Int32 × Int32 × Mm → Prop) : Int32 × Int32 × Mm → Prop := fun (v2, v3, M4) =>
  ldA (M4 18 0) 909 (1 : Int32) fun v7 => if v7 < v3 then (K5 (v2, v3, M4)) else (w_X5_isOn M4 x1 v3 fun v9 M8 => if v9 = 0 then (bI (v2 + (0 : Int32)) fun v10 => bI (v3 + (1 : Int32)) fun v11 => R6 (v10, v11, M8)) else (if x2 = 0 then (bI (v2 + (1 : Int32)) fun v12 => bI (v3 + (1 : Int32)) fun v13 => R6 (v12, v13, M8)) else (w_X5_rowAt M8 x1 v3 fun v15 M14 => ldA (M14 18 0) 909 (3 : Int32) fun v16 => w_X5_markOf M14 v3 v16 fun v18 M17 => if v15 < v18 then (bI (v2 + (0 : Int32)) fun v19 => bI (v3 + (1 : Int32)) fun v20 => R6 (v19, v20, M17)) else (bI (v2 + (1 : Int32)) fun v21 => bI (v3 + (1 : Int32)) fun v22 => R6 (v21, v22, M17)))))
def w_X5_daysOf (M : Mm) (x1 : Int32) (x2 : Int32) (Q : Int32 → Mm → Prop) : Prop :=
  ldA (M 18 0) 909 (0 : Int32) fun v1 => ∃ n, loop (w_X5_daysOf_L10 x1 x2 (fun ((v23, v24, M25) : Int32 × Int32 × Mm) => Q v23 M25) ) n ((0 : Int32), v1, M)
def w_X5_barsOf_L4 (x1 : Int32) (K4 : Int32 × Int32 × Mm → Prop) (R5 : Int32 × Int32 × Mm → Prop) : Int32 × Int32 × Mm → Prop := fun (v1, v2, M3) =>
  if (7 : Int32) ≤ v2 then (K4 (v1, v2, M3)) else (ldA (M3 20 0) 168 (((7 : Int32) * x1) + v2) fun v6 => if v6 = (-9 : Int32) then (bI (v1 + (0 : Int32)) fun v9 => bI (v2 + (1 : Int32)) fun v10 => R5 (v9, v10, M3)) else (bI (v1 + (1 : Int32)) fun v7 => bI (v2 + (1 : Int32)) fun v8 => R5 (v7, v8, M3)))
def w_X5_barsOf (M : Mm) (x1 : Int32) (Q : Int32 → Mm → Prop) : Prop :=
  ∃ n, loop (w_X5_barsOf_L4 x1 (fun ((v11, v12, M13) : Int32 × Int32 × Mm) => Q v11 M13) ) n ((0 : Int32), (0 : Int32), M)
def w_X5_entryOf (M : Mm) (x1 : Int32) (x2 : Int32) (Q : Int32 → Mm → Prop) : Prop :=
  if (4 : Int32) ≤ x2 then (if x2 = (4 : Int32) then (w_X5_isLong M x1 fun v8 M7 => if v8 = 0 then (Q (0 : Int32) M7) else (Q (1 : Int32) M7)) else (if x2 = (7 : Int32) then (w_X5_barsOf M x1 fun v6 M5 => Q v6 M5) else (letJ (fun (v1 : Int32) => w_X5_daysOf M x1 v1 fun v4 M3 => Q v4 M3) fun J2 => if x2 = (6 : Int32) then (J2 (1 : Int32)) else (J2 (0 : Int32))))) else (ldA (M 18 0) 909 (((5 : Int32) + ((4 : Int32) * x1)) + x2) fun v9 => Q v9 M)
def w_X5_entry (M : Mm) (x1 : Int32) (x2 : Int32) (Q : Int32 → Mm → Prop) : Prop :=
  w_X5_isEntry M x1 fun v2 M1 => if v2 = 0 then (Q (-1 : Int32) M1) else (w_X5_in M1 x2 (0 : Int32) (7 : Int32) fun v4 M3 => if v4 = 0 then (Q (-1 : Int32) M3) else (w_X5_lays M3 fun M5 => w_X5_entryOf M5 x1 x2 fun v7 M6 => Q v7 M6))
def w_X5_barOf (M : Mm) (x1 : Int32) (x2 : Int32) (x3 : Int32) (Q : Int32 → Mm → Prop) : Prop :=
  w_X5_begins M x1 fun v2 M1 => w_X5_weekFirst M1 x2 fun v4 M3 => letJ (fun ((v5, M7) : Int32 × Mm) => w_X5_ends M7 x1 fun v9 M8 => w_X5_weekLast M8 x2 fun v11 M10 => letJ (fun ((v12, M14) : Int32 × Mm) => if x3 = (0 : Int32) then (ldA (M14 20 0) 168 (((7 : Int32) * x1) + x2) fun v15 => Q v15 M14) else if x3 = (1 : Int32) then (Q v5 M14) else if x3 = (2 : Int32) then (Q v12 M14) else if x3 = (3 : Int32) then (w_X5_begins M14 x1 fun v17 M16 => if v5 ≤ v17 then (Q (0 : Int32) M16) else (Q (1 : Int32) M16)) else (w_X5_ends M14 x1 fun v19 M18 => if v19 ≤ v12 then (Q (0 : Int32) M18) else (Q (1 : Int32) M18))) fun J13 => if v11 ≤ v9 then (w_X5_weekLast M10 x2 fun v21 M20 => J13 (v21, M20)) else (w_X5_ends M10 x1 fun v23 M22 => J13 (v23, M22))) fun J6 => if v2 ≤ v4 then (w_X5_weekFirst M3 x2 fun v25 M24 => J6 (v25, M24)) else (w_X5_begins M3 x1 fun v27 M26 => J6 (v27, M26))
def w_X5_hasBar (M : Mm) (x1 : Int32) (x2 : Int32) (Q : Int32 → Mm → Prop) : Prop :=
  w_X5_weeks M fun v2 M1 => if v2 ≤ x2 then (Q (0 : Int32) M1) else (ldA (M1 20 0) 168 (((7 : Int32) * x1) + x2) fun v3 => if v3 = (-9 : Int32) then (Q (0 : Int32) M1) else (Q (1 : Int32) M1))
def w_X5_bar (M : Mm) (x1 : Int32) (x2 : Int32) (x3 : Int32) (Q : Int32 → Mm → Prop) : Prop :=
  w_X5_isEntry M x1 fun v2 M1 => if v2 = 0 then (Q (-1 : Int32) M1) else (if x2 < 0 then (Q (-1 : Int32) M1) else (w_X5_in M1 x3 (0 : Int32) (4 : Int32) fun v4 M3 => if v4 = 0 then (Q (-1 : Int32) M3) else (w_X5_lays M3 fun M5 => w_X5_hasBar M5 x1 x2 fun v7 M6 => if v7 = 0 then (Q (-9 : Int32) M6) else (w_X5_barOf M6 x1 x2 x3 fun v9 M8 => Q v9 M8))))
def w_X5_shownAt_L71 (x1 : Int32) (x2 : Int32) (Q : Int32 → Mm → Prop) (K13 : Int32 × Mm → Prop) (R14 : Int32 × Mm → Prop) : Int32 × Mm → Prop := fun (v11, M12) =>
  ldA (M12 18 0) 909 (4 : Int32) fun v15 => if v15 ≤ v11 then (K13 (v11, M12)) else (w_X5_isOn M12 v11 x1 fun v17 M16 => if v17 = 0 then (bI (v11 + (1 : Int32)) fun v18 => R14 (v18, M16)) else (w_X5_rowAt M16 v11 x1 fun v20 M19 => if v20 = x2 then (Q v11 M19) else (bI (v11 + (1 : Int32)) fun v21 => R14 (v21, M19))))
def w_X5_shownAt (M : Mm) (x1 : Int32) (x2 : Int32) (Q : Int32 → Mm → Prop) : Prop :=
  w_X5_needed M x1 fun v2 M1 => ldA (M1 18 0) 909 (3 : Int32) fun v3 => letJ (fun (_ : Unit) => ldA (M1 18 0) 909 (3 : Int32) fun v5 => if x2 < v5 then (ldA (M1 18 0) 909 (3 : Int32) fun v6 => w_X5_hiddenOn M1 x1 v6 fun v8 M7 => Q ((-10 : Int32) - v8) M7) else (Q (-9 : Int32) M1)) fun J4 => if v3 ≤ x2 then (J4 ()) else (ldA (M1 18 0) 909 (3 : Int32) fun v9 => letJ (fun (_ : Unit) => ∃ n, loop (w_X5_shownAt_L71 x1 x2 Q (fun ((v22, M23) : Int32 × Mm) => Q (-9 : Int32) M23) ) n ((0 : Int32), M1)) fun J10 => if v2 ≤ v9 then (J10 ()) else (ldA (M1 18 0) 909 (3 : Int32) fun v24 => if x2 = (v24 - (1 : Int32)) then (J4 ()) else (J10 ())))
def w_X5_shown (M : Mm) (x1 : Int32) (x2 : Int32) (Q : Int32 → Mm → Prop) : Prop :=
  w_X5_isOnPage M x1 fun v2 M1 => if v2 = 0 then (Q (-1 : Int32) M1) else (w_X5_in M1 x2 (0 : Int32) (11 : Int32) fun v4 M3 => if v4 = 0 then (Q (-1 : Int32) M3) else (w_X5_lays M3 fun M5 => w_X5_shownAt M5 x1 x2 fun v7 M6 => Q v7 M6))
def w_X5_rowOf (M : Mm) (x1 : Int32) (x2 : Int32) (Q : Int32 → Mm → Prop) : Prop :=
  w_X5_isEntry M x1 fun v2 M1 => if v2 = 0 then (Q (-1 : Int32) M1) else (w_X5_isOnPage M1 x2 fun v4 M3 => if v4 = 0 then (Q (-1 : Int32) M3) else (w_X5_lays M3 fun M5 => w_X5_isOn M5 x1 x2 fun v7 M6 => if v7 = 0 then (Q (-9 : Int32) M6) else (w_X5_rowAt M6 x1 x2 fun v9 M8 => Q v9 M8)))
def w_X5_barsOn_L4 (x1 : Int32) (K4 : Int32 × Int32 × Mm → Prop) (R5 : Int32 × Int32 × Mm → Prop) : Int32 × Int32 × Mm → Prop := fun (v1, v2, M3) =>
  ldA (M3 18 0) 909 (4 : Int32) fun v6 => if v6 ≤ v2 then (K4 (v1, v2, M3)) else (w_X5_isLong M3 v2 fun v8 M7 => if v8 = 0 then (bI (v1 + (0 : Int32)) fun v9 => bI (v2 + (1 : Int32)) fun v10 => R5 (v9, v10, M7)) else (w_X5_isOn M7 v2 x1 fun v12 M11 => if v12 = 0 then (bI (v1 + (0 : Int32)) fun v13 => bI (v2 + (1 : Int32)) fun v14 => R5 (v13, v14, M11)) else (bI (v1 + (1 : Int32)) fun v15 => bI (v2 + (1 : Int32)) fun v16 => R5 (v15, v16, M11))))
def w_X5_barsOn (M : Mm) (x1 : Int32) (Q : Int32 → Mm → Prop) : Prop :=
  ∃ n, loop (w_X5_barsOn_L4 x1 (fun ((v17, v18, M19) : Int32 × Int32 × Mm) => Q v17 M19) ) n ((0 : Int32), (0 : Int32), M)
def w_X5_dayOf (M : Mm) (x1 : Int32) (x2 : Int32) (Q : Int32 → Mm → Prop) : Prop :=
  if x2 = (0 : Int32) then (w_X5_weekOf M x1 fun v2 M1 => Q v2 M1) else if x2 = (1 : Int32) then (Q (x1 - x1 / (7 : Int32) * (7 : Int32)) M) else if x2 = (2 : Int32) then (w_X5_barsOn M x1 fun v4 M3 => Q v4 M3) else if x2 = (3 : Int32) then (w_X5_shortsIn M x1 x1 fun v6 M5 => Q v6 M5) else if x2 = (4 : Int32) then (ldA (M 18 0) 909 (3 : Int32) fun v7 => w_X5_hiddenOn M x1 v7 fun v9 M8 => Q v9 M8) else (w_X5_needed M x1 fun v11 M10 => Q v11 M10)
def w_X5_day (M : Mm) (x1 : Int32) (x2 : Int32) (Q : Int32 → Mm → Prop) : Prop :=
  w_X5_isOnPage M x1 fun v2 M1 => if v2 = 0 then (Q (-1 : Int32) M1) else (w_X5_in M1 x2 (0 : Int32) (5 : Int32) fun v4 M3 => if v4 = 0 then (Q (-1 : Int32) M3) else (w_X5_lays M3 fun M5 => w_X5_dayOf M5 x1 x2 fun v7 M6 => Q v7 M6))
def w_X5_enough_L13 (K6 : Int32 × Int32 × Mm → Prop) (R7 : Int32 × Int32 × Mm → Prop) : Int32 × Int32 × Mm → Prop := fun (v3, v4, M5) =>
  ldA (M5 18 0) 909 (1 : Int32) fun v8 => if v8 < v4 then (K6 (v3, v4, M5)) else (w_X5_needed M5 v4 fun v10 M9 => if v10 ≤ v3 then (bI (v4 + (1 : Int32)) fun v11 => R7 (v3, v11, M9)) else (w_X5_needed M9 v4 fun v13 M12 => bI (v4 + (1 : Int32)) fun v14 => R7 (v13, v14, M12)))
def w_X5_enough (M : Mm) (Q : Int32 → Mm → Prop) : Prop :=
  w_X5_lays M fun M1 => ldA (M1 18 0) 909 (0 : Int32) fun v2 => ∃ n, loop (w_X5_enough_L13 (fun ((v15, v16, M17) : Int32 × Int32 × Mm) => Q v15 M17) ) n ((1 : Int32), v2, M1)
def w_X5_hiddenWith (M : Mm) (x1 : Int32) (Q : Int32 → Mm → Prop) : Prop :=
  w_X5_lays M fun M1 => ldA (M1 18 0) 909 (0 : Int32) fun v2 => ldA (M1 18 0) 909 (1 : Int32) fun v3 => w_X5_hidden M1 v2 v3 x1 fun v5 M4 => Q v5 M4
def w_X5_ifRows (M : Mm) (x1 : Int32) (Q : Int32 → Mm → Prop) : Prop :=
  w_X5_in M x1 (1 : Int32) (12 : Int32) fun v2 M1 => if v2 = 0 then (Q (-1 : Int32) M1) else (w_X5_hiddenWith M1 x1 fun v4 M3 => Q v4 M3)
def w_X5_isEmpty_L4 (x1 : Int32) (K4 : Int32 × Int32 × Mm → Prop) (R5 : Int32 × Int32 × Mm → Prop) : Int32 × Int32 × Mm → Prop := fun (v1, v2, M3) =>
  ldA (M3 18 0) 909 (4 : Int32) fun v6 => if v6 ≤ v2 then (K4 (v1, v2, M3)) else (if v1 = 0 then (bI (v2 + (1 : Int32)) fun v7 => R5 ((0 : Int32), v7, M3)) else (w_X5_isOn M3 v2 x1 fun v9 M8 => if v9 = 0 then (bI (v2 + (1 : Int32)) fun v11 => R5 ((1 : Int32), v11, M8)) else (bI (v2 + (1 : Int32)) fun v10 => R5 ((0 : Int32), v10, M8))))
def w_X5_isEmpty (M : Mm) (x1 : Int32) (Q : Int32 → Mm → Prop) : Prop :=
  ∃ n, loop (w_X5_isEmpty_L4 x1 (fun ((v12, v13, M14) : Int32 × Int32 × Mm) => bz v12 ∧ Q v12 M14) ) n ((1 : Int32), (0 : Int32), M)
def w_X5_free_L64 (x1 : Int32) (x2 : Int32) (v4 : Int32) (K15 : Int32 × Int32 × Mm → Prop) (R16 : Int32 × Int32 × Mm → Prop) : Int32 × Int32 × Mm → Prop := fun (v12, v13, M14) =>
  if (v4 + x1) ≤ v13 then (K15 (v12, v13, M14)) else (if v12 = 0 then (K15 (v12, v13, M14)) else (w_X5_isEmpty M14 v13 fun v18 M17 => bI (v13 + (1 : Int32)) fun v19 => R16 (v18, v19, M17)))
def w_X5_free_L19 (x1 : Int32) (x2 : Int32) (Q : Int32 → Mm → Prop) (K6 : Int32 × Mm → Prop) (R7 : Int32 × Mm → Prop) : Int32 × Mm → Prop := fun (v4, M5) =>
  ldA (M5 18 0) 909 (1 : Int32) fun v8 => if v8 < ((v4 + x1) - (1 : Int32)) then (K6 (v4, M5)) else (letJ (fun ((v9, M11) : Int32 × Mm) => ∃ n, loop (w_X5_free_L64 x1 x2 v4 (fun ((v20, v21, M22) : Int32 × Int32 × Mm) => if v20 = 0 then (bI (v4 + (1 : Int32)) fun v23 => R7 (v23, M22)) else (Q v4 M22)) ) n (v9, v4, M11)) fun J10 => letJ (fun (M25 : Mm) => J10 ((1 : Int32), M25)) fun J24 => if x2 = 0 then (J24 M5) else (w_X5_weekOf M5 v4 fun v27 M26 => w_X5_weekOf M26 ((v4 + x1) - (1 : Int32)) fun v29 M28 => if v27 = v29 then (J24 M28) else (J10 ((0 : Int32), M28))))
def w_X5_free (M : Mm) (x1 : Int32) (x2 : Int32) (Q : Int32 → Mm → Prop) : Prop :=
  w_X5_in M x1 (1 : Int32) (42 : Int32) fun v2 M1 => if v2 = 0 then (Q (-1 : Int32) M1) else (ldA (M1 18 0) 909 (0 : Int32) fun v3 => ∃ n, loop (w_X5_free_L19 x1 x2 Q (fun ((v30, M31) : Int32 × Mm) => Q (-9 : Int32) M31) ) n (v3, M1))
def w_X5_bestDay_L33 (x1 : Int32) (v4 : Int32) (K11 : Int32 × Int32 × Int32 × Int32 × Mm → Prop) (R12 : Int32 × Int32 × Int32 × Int32 × Mm → Prop) : Int32 × Int32 × Int32 × Int32 × Mm → Prop := fun (v6, v7, v8, v9, M10) =>
  ldA (M10 18 0) 909 (1 : Int32) fun v13 => if v13 < v9 then (K11 (v6, v7, v8, v9, M10)) else (bI (v9 - v4) fun v14 => w_X5_ends M10 x1 fun v16 M15 => if (999 : Int32) < (v16 + v14) then (bI (v9 + (1 : Int32)) fun v17 => R12 (v6, v7, v8, v17, M15)) else (w_X5_moves M15 x1 v14 fun M18 => ldA (M18 18 0) 909 (3 : Int32) fun v19 => w_X5_hiddenWith M18 v19 fun v21 M20 => w_X5_moves M20 x1 (-v14) fun M22 => letJ (fun (v23 : Int32) => letJ (fun (v25 : Int32) => letJ (fun (v27 : Int32) => letJ (fun (v29 : Int32) => if v25 = 0 then (bI (v9 + (1 : Int32)) fun v31 => R12 (v27, v29, v8, v31, M22)) else (bI (v9 + (1 : Int32)) fun v32 => R12 (v27, v29, v23, v32, M22))) fun J30 => if v25 = 0 then (J30 v7) else (J30 v21)) fun J28 => if v25 = 0 then (J28 v6) else (J28 v9)) fun J26 => letJ (fun (_ : Unit) => J26 (1 : Int32)) fun J33 => if v6 = (-9 : Int32) then (J33 ()) else (if v21 < v7 then (J33 ()) else (letJ (fun (_ : Unit) => J26 (0 : Int32)) fun J34 => if v21 = v7 then (if v8 ≤ v23 then (J34 ()) else (J33 ())) else (J34 ())))) fun J24 => if 0 ≤ v14 then (J24 v14) else (J24 (-v14))))
def w_X5_bestDay (M : Mm) (x1 : Int32) (Q : Int32 → Mm → Prop) : Prop :=
  w_X5_isEntry M x1 fun v2 M1 => if v2 = 0 then (Q (-1 : Int32) M1) else (w_X5_begins M1 x1 fun v4 M3 => ldA (M3 18 0) 909 (0 : Int32) fun v5 => ∃ n, loop (w_X5_bestDay_L33 x1 v4 (fun ((v35, v36, v37, v38, M39) : Int32 × Int32 × Int32 × Int32 × Mm) => Q v35 M39) ) n ((-9 : Int32), (0 : Int32), (0 : Int32), v5, M3))
def w_X5_longOnes_L4 (K4 : Int32 × Int32 × Mm → Prop) (R5 : Int32 × Int32 × Mm → Prop) : Int32 × Int32 × Mm → Prop := fun (v1, v2, M3) =>
  ldA (M3 18 0) 909 (4 : Int32) fun v6 => if v6 ≤ v2 then (K4 (v1, v2, M3)) else (w_X5_isLong M3 v2 fun v8 M7 => if v8 = 0 then (bI (v1 + (0 : Int32)) fun v9 => bI (v2 + (1 : Int32)) fun v10 => R5 (v9, v10, M7)) else (bI (v1 + (1 : Int32)) fun v11 => bI (v2 + (1 : Int32)) fun v12 => R5 (v11, v12, M7)))
def w_X5_longOnes (M : Mm) (Q : Int32 → Mm → Prop) : Prop :=
  ∃ n, loop (w_X5_longOnes_L4 (fun ((v13, v14, M15) : Int32 × Int32 × Mm) => Q v13 M15) ) n ((0 : Int32), (0 : Int32), M)
def w_X5_present_L4 (K4 : Int32 × Int32 × Mm → Prop) (R5 : Int32 × Int32 × Mm → Prop) : Int32 × Int32 × Mm → Prop := fun (v1, v2, M3) =>
  ldA (M3 18 0) 909 (4 : Int32) fun v6 => if v6 ≤ v2 then (K4 (v1, v2, M3)) else (w_X5_begins M3 v2 fun v8 M7 => ldA (M7 18 0) 909 (1 : Int32) fun v9 => if v9 < v8 then (bI (v1 + (0 : Int32)) fun v10 => bI (v2 + (1 : Int32)) fun v11 => R5 (v10, v11, M7)) else (w_X5_ends M7 v2 fun v13 M12 => ldA (M12 18 0) 909 (0 : Int32) fun v14 => if v13 < v14 then (bI (v1 + (0 : Int32)) fun v15 => bI (v2 + (1 : Int32)) fun v16 => R5 (v15, v16, M12)) else (bI (v1 + (1 : Int32)) fun v17 => bI (v2 + (1 : Int32)) fun v18 => R5 (v17, v18, M12))))
def w_X5_present (M : Mm) (Q : Int32 → Mm → Prop) : Prop :=
  ∃ n, loop (w_X5_present_L4 (fun ((v19, v20, M21) : Int32 × Int32 × Mm) => Q v19 M21) ) n ((0 : Int32), (0 : Int32), M)
def w_X5_bars_L8 (K5 : Int32 × Int32 × Mm → Prop) (R6 : Int32 × Int32 × Mm → Prop) : Int32 × Int32 × Mm → Prop := fun (v2, v3, M4) =>
  ldA (M4 18 0) 909 (4 : Int32) fun v7 => if v7 ≤ v3 then (K5 (v2, v3, M4)) else (w_X5_barsOf M4 v3 fun v9 M8 => bI (v2 + v9) fun v10 => bI (v3 + (1 : Int32)) fun v11 => R6 (v10, v11, M8))
def w_X5_bars (M : Mm) (Q : Int32 → Mm → Prop) : Prop :=
  w_X5_lays M fun M1 => ∃ n, loop (w_X5_bars_L8 (fun ((v12, v13, M14) : Int32 × Int32 × Mm) => Q v12 M14) ) n ((0 : Int32), (0 : Int32), M1)
def w_X5_told (M : Mm) (x1 : Int32) (Q : Int32 → Mm → Prop) : Prop :=
  if x1 = (0 : Int32) then (ldA (M 18 0) 909 x1 fun v1 => Q v1 M) else if x1 = (1 : Int32) then (ldA (M 18 0) 909 x1 fun v2 => Q v2 M) else if x1 = (2 : Int32) then (ldA (M 18 0) 909 x1 fun v3 => Q v3 M) else if x1 = (3 : Int32) then (ldA (M 18 0) 909 x1 fun v4 => Q v4 M) else if x1 = (4 : Int32) then (w_X5_weeks M fun v6 M5 => Q v6 M5) else if x1 = (5 : Int32) then (ldA (M 18 0) 909 (4 : Int32) fun v7 => Q v7 M) else if x1 = (6 : Int32) then (w_X5_longOnes M fun v9 M8 => Q v9 M8) else if x1 = (7 : Int32) then (w_X5_present M fun v11 M10 => Q v11 M10) else if x1 = (8 : Int32) then (w_X5_bars M fun v13 M12 => Q v13 M12) else if x1 = (9 : Int32) then (ldA (M 18 0) 909 (3 : Int32) fun v14 => w_X5_hiddenWith M v14 fun v16 M15 => Q v16 M15) else if x1 = (10 : Int32) then (Q (M 17 0 3) M) else if x1 = (11 : Int32) then (Q (M 17 0 1) M) else (Q (-1 : Int32) M)
def w_X5_undo_L12 (K3 : Int32 × Mm → Prop) (R4 : Int32 × Mm → Prop) : Int32 × Mm → Prop := fun (v1, M2) =>
  if (101 : Int32) ≤ v1 then (K3 (v1, M2)) else (ldA (M2 18 0) 909 (((101 : Int32) * (M2 17 0 1)) + v1) fun v5 => stA M2 18 0 909 v1 v5 fun M6 => bI (v1 + (1 : Int32)) fun v7 => R4 (v7, M6))
def w_X5_undo (M : Mm) (Q : Int32 → Mm → Prop) : Prop :=
  if (M 17 0 1) = 0 then (Q (-2 : Int32) M) else (∃ n, loop (w_X5_undo_L12 (fun ((v8, M9) : Int32 × Mm) => stF M9 17 0 1 ((M9 17 0 1) - (1 : Int32)) fun M10 => Q (M10 17 0 1) M10) ) n ((0 : Int32), M))
def w_X5_mixedEntry_L6 (x3 : Int32) (K4 : Int64 × Int32 × Mm → Prop) (R5 : Int64 × Int32 × Mm → Prop) : Int64 × Int32 × Mm → Prop := fun (v1, v2, M3) =>
  if (7 : Int32) < v2 then (K4 (v1, v2, M3)) else (w_X5_entryOf M3 x3 v2 fun v7 M6 => bL (((31 : Int64) * v1) + (Int32.toInt64 v7)) fun v8 => bI (v2 + (1 : Int32)) fun v9 => R5 (v8, v9, M6))
def w_X5_mixedEntry_L51 (x3 : Int32) (v14 : Int32) (K23 : Int64 × Int32 × Mm → Prop) (R24 : Int64 × Int32 × Mm → Prop) : Int64 × Int32 × Mm → Prop := fun (v20, v21, M22) =>
  if (4 : Int32) < v21 then (K23 (v20, v21, M22)) else (w_X5_hasBar M22 x3 v14 fun v26 M25 => if v26 = 0 then (bL (((31 : Int64) * v20) + (Int32.toInt64 (-9 : Int32))) fun v27 => bI (v21 + (1 : Int32)) fun v28 => R24 (v27, v28, M25)) else (w_X5_barOf M25 x3 v14 v21 fun v30 M29 => bL (((31 : Int64) * v20) + (Int32.toInt64 v30)) fun v31 => bI (v21 + (1 : Int32)) fun v32 => R24 (v31, v32, M29)))
def w_X5_mixedEntry_L39 (x3 : Int32) (K16 : Int64 × Int32 × Mm → Prop) (R17 : Int64 × Int32 × Mm → Prop) : Int64 × Int32 × Mm → Prop := fun (v13, v14, M15) =>
  w_X5_weeks M15 fun v19 M18 => if v19 ≤ v14 then (K16 (v13, v14, M18)) else (∃ n, loop (w_X5_mixedEntry_L51 x3 v14 (fun ((v33, v34, M35) : Int64 × Int32 × Mm) => bI (v14 + (1 : Int32)) fun v36 => R17 (v33, v36, M35)) ) n (v13, (0 : Int32), M18))
def w_X5_mixedEntry (M : Mm) (x1 : Int64) (x3 : Int32) (Q : Int64 → Mm → Prop) : Prop :=
  ∃ n, loop (w_X5_mixedEntry_L6 x3 (fun ((v10, v11, M12) : Int64 × Int32 × Mm) => ∃ n, loop (w_X5_mixedEntry_L39 x3 (fun ((v37, v38, M39) : Int64 × Int32 × Mm) => Q v37 M39) ) n (v10, (0 : Int32), M12)) ) n (x1, (0 : Int32), M)
def w_X5_mixedDay_L6 (x3 : Int32) (K4 : Int64 × Int32 × Mm → Prop) (R5 : Int64 × Int32 × Mm → Prop) : Int64 × Int32 × Mm → Prop := fun (v1, v2, M3) =>
  if (5 : Int32) < v2 then (K4 (v1, v2, M3)) else (w_X5_dayOf M3 x3 v2 fun v7 M6 => bL (((31 : Int64) * v1) + (Int32.toInt64 v7)) fun v8 => bI (v2 + (1 : Int32)) fun v9 => R5 (v8, v9, M6))
def w_X5_mixedDay_L38 (x3 : Int32) (K16 : Int64 × Int32 × Mm → Prop) (R17 : Int64 × Int32 × Mm → Prop) : Int64 × Int32 × Mm → Prop := fun (v13, v14, M15) =>
  if (12 : Int32) ≤ v14 then (K16 (v13, v14, M15)) else (w_X5_shownAt M15 x3 v14 fun v19 M18 => bL (((31 : Int64) * v13) + (Int32.toInt64 v19)) fun v20 => bI (v14 + (1 : Int32)) fun v21 => R17 (v20, v21, M18))
def w_X5_mixedDay (M : Mm) (x1 : Int64) (x3 : Int32) (Q : Int64 → Mm → Prop) : Prop :=
  ∃ n, loop (w_X5_mixedDay_L6 x3 (fun ((v10, v11, M12) : Int64 × Int32 × Mm) => ∃ n, loop (w_X5_mixedDay_L38 x3 (fun ((v22, v23, M24) : Int64 × Int32 × Mm) => Q v22 M24) ) n (v10, (0 : Int32), M12)) ) n (x1, (0 : Int32), M)
def w_X5_digest_L6 (K4 : Int64 × Int32 × Mm → Prop) (R5 : Int64 × Int32 × Mm → Prop) : Int64 × Int32 × Mm → Prop := fun (v1, v2, M3) =>
  if (11 : Int32) < v2 then (K4 (v1, v2, M3)) else (w_X5_told M3 v2 fun v7 M6 => bL (((31 : Int64) * v1) + (Int32.toInt64 v7)) fun v8 => bI (v2 + (1 : Int32)) fun v9 => R5 (v8, v9, M6))
def w_X5_digest_L37 (K17 : Int64 × Int32 × Mm → Prop) (R18 : Int64 × Int32 × Mm → Prop) : Int64 × Int32 × Mm → Prop := fun (v14, v15, M16) =>
  ldA (M16 18 0) 909 (4 : Int32) fun v19 => if v19 ≤ v15 then (K17 (v14, v15, M16)) else (w_X5_mixedEntry M16 v14 v15 fun v21 M20 => bI (v15 + (1 : Int32)) fun v22 => R18 (v21, v22, M20))
def w_X5_digest_L73 (v27 : Int32) (K36 : Int64 × Int32 × Mm → Prop) (R37 : Int64 × Int32 × Mm → Prop) : Int64 × Int32 × Mm → Prop := fun (v33, v34, M35) =>
  if (5 : Int32) < v34 then (K36 (v33, v34, M35)) else (w_X5_weekOfAll M35 v27 v34 fun v39 M38 => bL (((31 : Int64) * v33) + (Int32.toInt64 v39)) fun v40 => bI (v34 + (1 : Int32)) fun v41 => R37 (v40, v41, M38))
def w_X5_digest_L62 (K29 : Int64 × Int32 × Mm → Prop) (R30 : Int64 × Int32 × Mm → Prop) : Int64 × Int32 × Mm → Prop := fun (v26, v27, M28) =>
  w_X5_weeks M28 fun v32 M31 => if v32 ≤ v27 then (K29 (v26, v27, M31)) else (∃ n, loop (w_X5_digest_L73 v27 (fun ((v42, v43, M44) : Int64 × Int32 × Mm) => bI (v27 + (1 : Int32)) fun v45 => R30 (v42, v45, M44)) ) n (v26, (0 : Int32), M31))
def w_X5_digest_L113 (K53 : Int64 × Int32 × Mm → Prop) (R54 : Int64 × Int32 × Mm → Prop) : Int64 × Int32 × Mm → Prop := fun (v50, v51, M52) =>
  ldA (M52 18 0) 909 (1 : Int32) fun v55 => if v55 < v51 then (K53 (v50, v51, M52)) else (w_X5_mixedDay M52 v50 v51 fun v57 M56 => bI (v51 + (1 : Int32)) fun v58 => R54 (v57, v58, M56))
def w_X5_digest (M : Mm) (Q : Int64 → Mm → Prop) : Prop :=
  ∃ n, loop (w_X5_digest_L6 (fun ((v10, v11, M12) : Int64 × Int32 × Mm) => w_X5_lays M12 fun M13 => ∃ n, loop (w_X5_digest_L37 (fun ((v23, v24, M25) : Int64 × Int32 × Mm) => ∃ n, loop (w_X5_digest_L62 (fun ((v46, v47, M48) : Int64 × Int32 × Mm) => ldA (M48 18 0) 909 (0 : Int32) fun v49 => ∃ n, loop (w_X5_digest_L113 (fun ((v59, v60, M61) : Int64 × Int32 × Mm) => w_X5_enough M61 fun v63 M62 => bL (((31 : Int64) * v59) + (Int32.toInt64 v63)) fun v64 => w_X5_free M62 (1 : Int32) (0 : Int32) fun v66 M65 => Q (((31 : Int64) * v64) + (Int32.toInt64 v66)) M65) ) n (v46, v49, M48)) ) n (v23, (0 : Int32), M25)) ) n (v10, (0 : Int32), M13)) ) n ((43104 : Int64), (0 : Int32), M)
