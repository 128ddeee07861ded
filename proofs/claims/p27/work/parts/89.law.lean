/-! the law -/
theorem Ws.k17 {M M' : Mm} {A : Ab} {n : Nat} (h : Ws M A n) (hs : sx (fun c _ => 17 ≤ c) M M') : Ws M' A n := by
  obtain ⟨h1, h2, ⟨hh, h3⟩, ⟨L, R, h4⟩, h5⟩ := h
  refine ⟨h1.sx hs ⟨by omega, by omega, by omega, by omega, by omega⟩, h2, ⟨hh, h3.sx hs (by omega) (fun i hi => ⟨by omega, by omega, by omega, by omega, by omega⟩)⟩, ⟨L, R, h4.sx hs (fun c i q => by unfold pgc at q; omega)⟩, by rw [hs 3 0 (by omega)]; exact h5⟩
theorem Ws.tr {M M' : Mm} {A : Ab} {n : Nat} (h : Ws M A n) (hs : sx tr1 M M') : Ws M' A n := by
  obtain ⟨h1, h2, ⟨hh, h3⟩, ⟨L, R, h4⟩, h5⟩ := h
  refine ⟨h1.sx hs ⟨by unfold tr1 pgc; omega, by unfold tr1 pgc; omega, by unfold tr1 pgc; omega, by unfold tr1 pgc; omega, by unfold tr1 pgc; omega⟩, h2, ⟨hh, h3.sx hs (by unfold tr1 pgc; omega) (fun i hi => ⟨by unfold tr1 pgc; omega, by unfold tr1 pgc; omega, by unfold tr1 pgc; omega, by unfold tr1 pgc; omega, by unfold tr1 pgc; omega⟩)⟩, ⟨L, R, h4.sx hs (fun c i q => ?_)⟩, by rw [hs 3 0 (by unfold tr1 pgc; omega)]; exact h5⟩
  unfold pgc at q
  unfold tr1 pgc
  omega
theorem rec_back {h : Nat → Ab} {n : Nat} {A : Ab} (hn : n ≤ 8) : ∃ m, recN n = m + 1 ∧ m ≤ 7 ∧ recH h n A m = A := by
  by_cases c : n < 8
  · refine ⟨n, if_pos c, by omega, ?_⟩
    unfold recH
    rw [if_pos c, if_pos rfl]
  · refine ⟨7, if_neg c, by omega, ?_⟩
    unfold recH
    rw [if_neg c, if_pos rfl]
def Az : Ab := fun c k => if c = 0 then (if k = 1 then 30 else if k = 3 then 4 else 0) else 0
theorem Az_ok : Ok Az := ⟨by decide, by decide, by decide, by decide, by decide, by decide, by decide, by decide, by decide, by decide, fun e he => absurd he (by show ¬ (e : Int) < 0; omega)⟩
def pureQ (M : Mm) : Prop := Ws M Az 0
theorem pure_lay : w_X0_lay 0 mm0 pureQ := by
  have hP : Pl mm0 0 Az := by
    refine ⟨fun j hj => ?_, fun e he => absurd he (by show ¬ (e : Int) < 0; omega)⟩
    rcases (show j = 0 ∨ j = 1 ∨ j = 2 ∨ j = 3 ∨ j = 4 by omega) with rfl | rfl | rfl | rfl | rfl <;> rfl
  refine s_X0_lay hP Az_ok (fun M' L R hL hs => ⟨hP.sx hs ⟨by unfold pgc; omega, by unfold pgc; omega, by unfold pgc; omega, by unfold pgc; omega, by unfold pgc; omega⟩, Az_ok, ⟨fun _ => Az, 0, by decide, by decide, ?_, ?_, fun j hj => absurd hj (Nat.not_lt_zero _)⟩, ⟨L, R, hL⟩, ?_⟩)
  · rw [hs 1 0 (by unfold pgc; omega)]
    rfl
  · rw [hs 1 0 (by unfold pgc; omega)]
    rfl
  · rw [hs 3 0 (by unfold pgc; omega)]
    rfl
section LAW
variable {L : Nat} {xs : Nat → Int32}
theorem p_law1 (hL : L ≤ 260) (M : Mm) (h : pureQ M) : w_L_law1 L xs M Q1 (fun r _ => r = 1) := by
  unfold w_L_law1
  refine p_sets hL h rfl rfl (fun M' hQ => z1 ?_)
  obtain ⟨A, n, hW, -⟩ := id hQ
  obtain ⟨G, R, hW⟩ := hW.wd
  exact p_weeks hW (z1 (p_bars hW (z1 hQ)))
/-- behind the move: weeks and bars once more, and back -/
theorem p_undo {M96 M100 : Mm} {A : Ab} {G : Nat → Nat → Int} {R : Nat → Int} {hh : Nat → Ab} {n e : Nat} {d : Int} (hn : n ≤ 8) (hO : Ok A) (hG1 : LayL A G) (hG2 : LayR A G R) (hG3 : Lbd G) (hG4 : Rbd R) (he : (e : Int) < A 0 4) (hC : Cs M96 M100 A (mvE A e d) hh n) (h5 : M96 3 0 1 = iI 0) {Q : Int32 → Mm → Prop} (hQ : ∀ M, Q (iI 1) M) : w_X4_undo M100 fun v105 M104 => if v105 < 0 then (Q (0 : Int32) M104) else (w_X4_told M104 (9 : Int32) fun v107 M106 => if v107 = iI (hidP A G R (A 0 3) : Nat) then (w_X4_entry M106 (iI e) (0 : Int32) fun v109 M108 => if v109 = iI (A 1 e) then (Q (1 : Int32) M108) else (Q (0 : Int32) M108)) else (Q (0 : Int32) M106)) := by
  obtain ⟨m, hm1, hm2, hm3⟩ := rec_back (h := hh) (A := A) hn
  obtain ⟨c1, c2, c3, c4⟩ := hC
  rw [hm1] at c2
  refine s_X4_undo c2 (fun M' k1 k2 k3 k4 => ?_)
  rw [hm3] at k1 k3
  obtain ⟨G', R', k3⟩ := k3
  have h5' : M' 3 0 1 = iI 0 := by rw [k4 3 0 (by unfold kc pgc; omega), c4 3 0 (by unfold kc pgc; omega)]; exact h5
  have hW : Wd M' A G' R' m := ⟨k1, hO, k3, h5', k2.cnt⟩
  rw [l0_, if_neg (fun z => by have := (iI_lt (by omega) (by omega) (by omega) (by omega)).mp z; omega), ← l0_]
  refine k_told9 hW ?_
  have e1 := HP_eq (r := A 0 3) hO hG1 hG2 hG3 hG4
  have e2 := HP_eq (r := A 0 3) hO k3.2.1 k3.2.2.1 k3.2.2.2.1 k3.2.2.2.2.1
  rw [show hidP A G' R' (A 0 3) = hidP A G R (A 0 3) from e2.symm.trans e1, if_pos rfl]
  refine k_entry0 hW he ?_
  rw [if_pos rfl, l1_]
  exact hQ _
/-- the last part: the best day -/
theorem p_best {M : Mm} {A : Ab} {G : Nat → Nat → Int} {R : Nat → Int} {n e : Nat} (hWs : Ws M A n) (hW : Wd M A G R n) (a2 : A 0 0 ≤ 899) (a5 : ∀ e : Nat, (e : Int) < A 0 4 → A 2 e ≤ A 1 e + 11) (he : (e : Int) < A 0 4) {F : Int32 → Mm → Prop} (h : ∀ (B : Int) (M96 M100 : Mm) (hh : Nat → Ab), A 0 0 ≤ B → B ≤ A 0 1 → Ws M96 A n → n ≤ 8 → Pl M96 0 A → Ps M96 hh n → (∀ Q : Int32 → Mm → Prop, (∀ M', Cs M96 M' A (mvE A e (B - A 1 e)) hh n → Q (iI B) M') → w_X4_move M96 (iI e) (iI B - iI (A 1 e)) Q) → (∀ M', Cs M96 M' A (mvE A e (B - A 1 e)) hh n → Ws M' (mvE A e (B - A 1 e)) (recN n)) → (A 0 0 ≤ A 1 e → A 1 e ≤ A 0 1 → HP (mvE A e (B - A 1 e)) (A 0 3) ≤ hidP A G R (A 0 3)) → F (iI B) M96) : w_X4_bestDay M (iI e) F := by
  have hO := hWs.2.1
  have ob := hO.b
  have oe := hO.e he
  have a5e := a5 e he
  refine s_X4_bestDay hWs.1 hO (by omega) (fun e' he' _ M96 k1 k2 => ?_) (fun z => absurd ⟨by omega, he⟩ z)
  obtain rfl : e = e' := by omega
  have hW96 := hWs.tr k2
  obtain ⟨g1, g2, ⟨hh, g3⟩, g4, g5⟩ := id hW96
  have hn8 : n ≤ 8 := by
    obtain ⟨o, o1, o2, o3⟩ := g3
    exact o2
  rcases bsS_min (A := A) (e := e) (by omega) (A 0 1 - A 0 0 + 1).toNat with ⟨b1, b2⟩ | ⟨b1, b2, b3, b4⟩
  · have := b2 0 (by omega)
    omega
  · refine h _ M96 M96 hh b1.1 (by omega) hW96 hn8 g1 g3 (fun Q hQ => ?_) (fun M' hC => hC.ws (hO.mv (by omega) (by omega)) g5) (fun q1 q2 => ?_)
    · rw [iI_sub]
      refine s_X4_move g1 hO g3 (by omega) (by omega) (fun e' he' _ _ _ _ M' hC => ?_) (fun e' he' _ _ z => ?_) (fun z => absurd ⟨⟨by omega, by omega⟩, by omega⟩ z)
      · obtain rfl : e = e' := by omega
        rw [show A 1 e + ((bsS A e (A 0 1 - A 0 0 + 1).toNat).1 - A 1 e) = (bsS A e (A 0 1 - A 0 0 + 1).toNat).1 by omega]
        exact hQ M' hC
      · obtain rfl : e = e' := by omega
        exact absurd ⟨by omega, by omega⟩ z
    · have h1 := b4 (A 1 e - A 0 0).toNat (by omega) (by omega)
      rw [b3, show A 0 0 + ((A 1 e - A 0 0).toNat : Int) = A 1 e by omega] at h1
      have e1 := HP_eq (r := A 0 3) hO hW.2.2.1.2.1 hW.2.2.1.2.2.1 hW.2.2.1.2.2.2.1 hW.2.2.1.2.2.2.2.1
      unfold Hd at h1
      rw [show A 1 e - A 1 e = 0 by omega, mvE_0, e1] at h1
      omega
theorem p_law2 (hL : L ≤ 260) (M : Mm) (h : Q1 M) : w_L_law2 L xs (mmJ M) (fun r _ => r = 1) := by
  obtain ⟨A, n, hWs, a1, a2, a3, a4, a5⟩ := h
  have hsJ : sx (fun c _ => 17 ≤ c) M (mmJ M) := fun c i hci => by
    show (if c < 17 then M c else mm0 c) i = M c i
    rw [if_pos (Nat.lt_of_not_le hci)]
  have hN0 : Nm (mmJ M) (fun _ => 0) := fun r _ _ => rfl
  replace hWs := hWs.k17 hsJ
  revert hN0 hWs
  generalize mmJ M = M0
  clear hsJ
  intro hN0 hWs
  obtain ⟨G, R, hW⟩ := hWs.wd
  have hO := hW.2.1
  have ob := hO.b
  have hn := nW_b hO
  have hG1 := hW.2.2.1.2.1
  have hG2 := hW.2.2.1.2.2.1
  have hG3 := hW.2.2.1.2.2.2.1
  have hG4 := hW.2.2.1.2.2.2.2.1
  unfold w_L_law2
  refine k_told0 hW ?_
  refine loop_up (fun j x => ∃ M1, x = (iI (enq A G R j), iI (A 0 0 + j), M1) ∧ sx c17 M0 M1 ∧ Nm M1 (fun r => hidS A G R r (A 0 0) j)) (A 0 1 - A 0 0 + 1).toNat ?_ ?_ (Nat.zero_le _) ⟨M0, by rw [show A 0 0 + ((0 : Nat) : Int) = A 0 0 by omega] <;> rfl, sx_rf, hN0⟩
  · rintro Rj j x hj ⟨M1, rfl, hs, hN⟩ hRj
    have hW1 := hW.k17 hs
    have d1 : A 0 0 ≤ A 0 0 + (j : Int) := by omega
    have d2 : A 0 0 + (j : Int) ≤ A 0 1 := by omega
    have heb := enq_b (A := A) (L := G) (R := R) hG3 hG4 j
    have hnb := ned_b (A := A) (D := A 0 0 + j) hG3 hG4 (A 0 4).toNat
    unfold w_L_law_P2_46
    try dsimp only
    refine k_told1 hW1 ?_
    rw [if_neg (fun z => by have := (iI_lt (by omega) (by omega) (by omega) (by omega)).mp z; omega)]
    refine p_day hW1 d1 d2 (f := fun r => hidS A G R r (A 0 0) j) (fun r => by have := hidS_le (L := G) (R := R) (r := r) (a := A 0 0) hO j; omega) hN (fun M2 hs2 hN2 => ?_)
    have hs3 : sx c17 M0 M2 := sx_mono (sx_tr hs hs2) (fun c i q => by omega)
    have hW2 := hW.k17 hs3
    refine z1 (k_day5 hW2 d1 d2 ?_)
    have hgo : ∀ v : Int, v = enq A G R (j + 1) → Rj (iI v, iI (A 0 0 + j + 1), M2) := fun v hv => hRj _ ⟨M2, by rw [hv, show A 0 0 + ((j + 1 : Nat) : Int) = A 0 0 + j + 1 by omega] <;> rfl, hs3, hN2⟩
    have een : enq A G R (j + 1) = max (enq A G R j) (ned A G R (A 0 0 + j) (A 0 4).toNat) := rfl
    rw [l1_, iI_add]
    refine s_if (fun q => ?_) (fun q => k_day5 hW2 d1 d2 ?_)
    · have q := (iI_le (by omega) (by omega) (by omega) (by omega)).mp q
      exact s_bI (hgo _ (by omega))
    · have q : ¬ ned A G R (A 0 0 + j) (A 0 4).toNat ≤ enq A G R j := fun z => q ((iI_le (by omega) (by omega) (by omega) (by omega)).mpr z)
      exact s_bI (hgo _ (by omega))
  rintro Rj x ⟨M1, rfl, hs, hN⟩
  replace hWs := hWs.k17 (sx_mono hs (fun c i q => by show 17 ≤ c; omega))
  replace hW := hW.k17 hs
  clear hs hN0
  have hN : ∀ r : Nat, 1 ≤ r → r ≤ 12 → M1 17 0 r = iI (hidP A G R r : Nat) := fun r h1 h2 => by
    rw [hN r h1 h2]
    show iI (hidS A G R r (A 0 0) (A 0 1 - A 0 0 + 1).toNat : Nat) = iI (hidS A G R r (A 0 0) (A 0 1 + 1 - A 0 0).toNat : Nat)
    rw [show (A 0 1 + 1 - A 0 0).toNat = (A 0 1 - A 0 0 + 1).toNat by omega]
  unfold w_L_law_P2_46
  try dsimp only
  refine k_told1 hW ?_
  rw [if_pos ((iI_lt (by omega) (by omega) (by omega) (by omega)).mpr (by omega))]
  refine k_enough hW ?_
  refine s_letV (iI 1, M1) (fun J hJ => ?_) ?_
  · refine s_letJ (fun _ => False) (fun J2 hJ2 => ?_) (fun x hx => hx.elim)
    rw [if_pos rfl]
    refine k_told9 hW (k_told3 hW ?_)
    refine s_ldA (by omega) (by omega) (by decide) ?_
    rw [hN _ (by omega) (by omega), show ((A 0 3).toNat : Int) = A 0 3 by omega, if_pos rfl]
    exact hJ
  try dsimp only
  refine loop_up (fun i x => x = (iI 1, iI ((i : Int) + 1), M1)) 12 ?_ ?_ (Nat.zero_le _) rfl
  · rintro Ri i x hi rfl hRi
    unfold w_L_law_P2_131
    try dsimp only
    rw [if_neg (fun z => by rw [l12_] at z; have := (iI_lt (by omega) (by omega) (by omega) (by omega)).mp z; omega)]
    refine z1 (k_ifRows hW (by omega) ?_)
    refine s_ldA (by omega) (by omega) (by decide) ?_
    rw [hN _ (by omega) (by omega), show (((i : Int) + 1).toNat : Int) = (i : Int) + 1 by omega, if_pos rfl, l1_, iI_add]
    exact s_bI (hRi _ rfl)
  rintro Ri x rfl
  unfold w_L_law_P2_131
  try dsimp only
  rw [l12_, if_pos ((iI_lt (by omega) (by omega) (by omega) (by omega)).mpr (by omega))]
  refine loop_up (fun k x => x = (iI (sumN (fun e => hdd A G R e (A 0 1 - A 0 0 + 1).toNat) k : Nat), iI k, M1)) (A 0 4).toNat ?_ ?_ (Nat.zero_le _) rfl
  · rintro Rk k x hk rfl hRk
    unfold w_L_law_P2_175
    try dsimp only
    refine k_told5 hW ?_
    rw [if_neg (fun z => by have := (iI_le (by omega) (by omega) (by omega) (by omega)).mp z; omega)]
    refine k_entry6 hW (by omega) ?_
    rw [iI_add, l1_, iI_add]
    exact s_bI (s_bI (hRk _ rfl))
  rintro Rk x rfl
  unfold w_L_law_P2_175
  try dsimp only
  refine k_told5 hW ?_
  rw [if_pos ((iI_le (by omega) (by omega) (by omega) (by omega)).mpr (by omega)), hdd_sum]
  refine loop_up (fun k x => x = (iI (sumN (fun w : Nat => hidS A G R (A 0 3) (wS A w) (wL A w + 1 - wS A w).toNat) k : Nat), iI k, M1)) (nW A).toNat ?_ ?_ (Nat.zero_le _) rfl
  · rintro Rw k x hk rfl hRw
    unfold w_L_law_P2_210
    try dsimp only
    refine k_told4 hW ?_
    rw [if_neg (fun z => by have := (iI_le (by omega) (by omega) (by omega) (by omega)).mp z; omega)]
    refine k_week5 hW (by omega) ?_
    rw [iI_add, l1_, iI_add]
    exact s_bI (s_bI (hRw _ rfl))
  rintro Rw x rfl
  unfold w_L_law_P2_210
  try dsimp only
  refine k_told4 hW ?_
  rw [if_pos ((iI_le (by omega) (by omega) (by omega) (by omega)).mpr (by omega)), week_all hO]
  refine s_letV (iI 1, M1) (fun J hJ => ?_) ?_
  · refine s_letJ (fun _ => False) (fun J2 hJ2 => ?_) (fun x hx => hx.elim)
    refine z1 (k_told9 hW ?_)
    rw [if_pos rfl, if_pos rfl]
    exact hJ
  try dsimp only
  refine loop_up (fun i x => x = (iI 1, iI i, M1)) 4 ?_ ?_ (Nat.zero_le _) rfl
  · rintro Ri i x hi rfl hRi
    unfold w_L_law_P2_271
    try dsimp only
    rw [if_neg (fun z => by rw [l4_] at z; have := (iI_le (by omega) (by omega) (by omega) (by omega)).mp z; omega)]
    refine z1 ?_
    rw [l20_, iI_add]
    refine p_cell hL (by omega) (fun c hc => ?_)
    rw [l9_, rem_c hc (by omega) (by omega), l1_, iI_add, iI_add]
    refine s_letJ (fun _ => True) (fun J hJ => s_if (fun _ => hJ _ trivial) (fun _ => hJ _ trivial)) (fun y _ => ?_)
    exact p_frees hW (by omega) (z1 (s_bI (hRi _ rfl)))
  rintro Ri x rfl
  unfold w_L_law_P2_271
  try dsimp only
  rw [if_pos (by decide)]
  rw [show (24 : Int32) = iI 24 from l24_]
  refine p_cell hL (by omega) (fun c hc => ?_)
  refine k_told5 hW ⟨fun z => ?_, ?_⟩
  · rw [l0_] at z
    have := (iI_eq (by omega) (by omega) (by omega) (by omega)).mp z
    omega
  try dsimp only
  rw [rem_c hc (by omega) (by omega)]
  have hm := Int.emod_nonneg (c : Int) (show A 0 4 ≠ 0 by omega)
  have hm2 := Int.emod_lt_of_pos (c : Int) (show 0 < A 0 4 by omega)
  obtain ⟨e, hee⟩ : ∃ e : Nat, (c : Int) % A 0 4 = e := ⟨((c : Int) % A 0 4).toNat, by omega⟩
  rw [hee] at hm2 ⊢
  have oe := hO.e hm2
  refine s_bI (k_entry0 hW hm2 ?_)
  refine p_best hWs hW a2 a5 hm2 (fun B M96 _ hh q1 q2 q3 q4 q5 q6 q7 q8 q9 => ?_)
  obtain ⟨G2, R2, hW2⟩ := q3.wd
  refine s_letJ (fun y => ∃ M', y = (iI 1, M') ∧ Cs M96 M' A (mvE A e (B - A 1 e)) hh n) (fun J hJ => ?_) ?_
  · refine s_letJ (fun _ => False) (fun J2 hJ2 => ?_) (fun x hx => hx.elim)
    refine z1 (k_told0 hW2 ?_)
    rw [if_neg (fun z => by have := (iI_lt (by omega) (by omega) (by omega) (by omega)).mp z; omega)]
    refine k_told1 hW2 ?_
    rw [if_neg (fun z => by have := (iI_lt (by omega) (by omega) (by omega) (by omega)).mp z; omega)]
    refine q7 _ (fun M' hC => ?_)
    rw [if_pos rfl]
    exact hJ _ ⟨M', rfl, hC⟩
  rintro y ⟨M100, rfl, hC⟩
  have hW3 := q8 M100 hC
  obtain ⟨G3, R3, hW3⟩ := hW3.wd
  try dsimp only
  refine s_letV (iI 1, M100) (fun J hJ => ?_) ?_
  · refine s_letJ (fun _ => False) (fun J2 hJ2 => ?_) (fun x hx => hx.elim)
    refine z1 (k_told0 hW3 ?_)
    refine s_letV M100 (fun J3 hJ3 => ?_) ?_
    · refine s_if (fun _ => hJ3) (fun c1 => k_told1 hW3 (s_if (fun _ => hJ3) (fun c2 => k_told9 hW3 ?_)))
      have c1 : ¬ A 1 e < A 0 0 := fun z => c1 ((iI_lt (by omega) (by omega) (by show -2147483648 ≤ A 0 0; omega) (by show A 0 0 ≤ 2147483647; omega)).mpr z)
      have c2 : ¬ A 0 1 < A 1 e := fun z => c2 ((iI_lt (by show -2147483648 ≤ A 0 1; omega) (by show A 0 1 ≤ 2147483647; omega) (by omega) (by omega)).mpr z)
      have h9 := q9 (by omega) (by omega)
      have e3 := HP_eq (r := A 0 3) hW3.2.1 hW3.2.2.1.2.1 hW3.2.2.1.2.2.1 hW3.2.2.1.2.2.2.1 hW3.2.2.1.2.2.2.2.1
      have hb1 : hidP A G R (A 0 3) ≤ 24 * (A 0 1 + 1 - A 0 0).toNat := hidS_le hO _
      rw [e3] at h9
      rw [if_neg (fun z => by
        have z : iI (hidP A G R (A 0 3) : Nat) < iI (hidP (mvE A e (B - A 1 e)) G3 R3 (A 0 3) : Nat) := z
        have := (iI_lt (by omega) (by omega) (by omega) (by omega)).mp z
        omega)]
      exact hJ3
    · exact p_weeks hW3 (z1 (p_bars hW3 (z1 hJ)))
  try dsimp only
  refine z1 ?_
  exact p_undo (Q := fun r _ => r = 1) q4 hO hG1 hG2 hG3 hG4 hm2 hC q3.2.2.2.2 (fun _ => rfl)
end LAW
