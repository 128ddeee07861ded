/-! the law's look at a day -/
abbrev c17 : Nat → Nat → Prop := fun c _ => c = 17
/-- the law's row of numbers holds f -/
def Nm (M : Mm) (f : Nat → Nat) : Prop := ∀ r, 1 ≤ r → r ≤ 12 → M 17 0 r = iI (f r)
section DAYW
variable {M : Mm} {A : Ab} {L : Nat → Nat → Int} {R : Nat → Int} {n : Nat} {D : Int} {Q : Int32 → Mm → Prop}
/-- the first loop's turn -/
theorem p_day1 (hW : Wd M A L R n) (d1 : A 0 0 ≤ D) (d2 : D ≤ A 0 1) {k : Nat} (hk : (k : Int) < A 0 4) {K Rr : Int32 × Int32 × Int32 × Int32 × Mm → Prop} (hR : Rr (iI (ned A L R D (k + 1)), iI (lgd A D (k + 1) : Nat), iI (shn A D D (k + 1) : Nat), iI ((k + 1 : Nat) : Int), M)) : w_L_day_L11 (iI D) Q K Rr (iI (ned A L R D k), iI (lgd A D k : Nat), iI (shn A D D k : Nat), iI k, M) := by
  have hO := hW.2.1
  have ob := hO.b
  have hL := hW.2.2.1.2.1
  have hLR := hW.2.2.1.2.2.1
  have hLb := hW.2.2.1.2.2.2.1
  have hRb := hW.2.2.1.2.2.2.2.1
  have hrb := rowD_b (A := A) (D := D) hLb hRb (e := k)
  have hrn := rowD_nn (D := D) hO hL hLR hLb d1 d2 hk
  have hnb := ned_b (A := A) (D := D) hLb hRb k
  have hlk : lgd A D k ≤ k := cntP_le _ _
  have hsk : shn A D D k ≤ k := cntP_le _ _
  have hst := ned_step (A := A) (L := L) (R := R) (D := D) (k := k) (fun c => rowv_nn hO hL hLR hLb d1 d2 hk c)
  unfold w_L_day_L11
  try dsimp only
  refine k_told5 hW ?_
  rw [if_neg (fun z => by have := (iI_le (by omega) (by omega) (by omega) (by omega)).mp z; omega)]
  refine k_rowOf hW hk d1 d2 ?_
  refine s_letV (iI (ned A L R D (k + 1))) (fun J hJ => ?_) ?_
  · rw [hst] at hJ
    rw [l1_, iI_add]
    refine s_if (fun q => ?_) (fun q => ?_)
    · rw [if_pos ((iI_lt (by omega) (by omega) (by omega) (by omega)).mp q)] at hJ
      exact hJ
    · rw [if_neg (fun z => q ((iI_lt (by omega) (by omega) (by omega) (by omega)).mpr z))] at hJ
      exact hJ
  try dsimp only
  refine s_letV (iI (if lng A k ∧ onD A D k then 1 else 0), M) (fun J hJ => ?_) ?_
  · refine s_letJ (fun x => x = M ∧ ¬ (lng A k ∧ onD A D k)) (fun J2 hJ2 => ?_) (fun x hx => ?_)
    · rw [l0_]
      refine s_if (fun q => ?_) (fun q => ?_)
      · have q := (iI_lt (by omega) (by omega) (by omega) (by omega)).mp q
        exact hJ2 _ ⟨rfl, fun z => by have := hrn.mpr z.2; omega⟩
      · have q : ¬ rowD A L R k D < 0 := fun z => q ((iI_lt (by omega) (by omega) (by omega) (by omega)).mpr z)
        have c := hrn.mp (by omega)
        refine k_entry4 hW hk ?_
        by_cases hl : lng A k
        · rw [if_pos hl, l1_, if_pos rfl]
          rw [if_pos ⟨hl, c⟩] at hJ
          exact hJ
        · rw [if_neg hl, l1_, if_neg (by decide)]
          exact hJ2 _ ⟨rfl, fun z => hl z.1⟩
    · obtain ⟨rfl, hx⟩ := hx
      rw [if_neg hx] at hJ
      exact hJ
  try dsimp only
  rw [iI_add]
  refine s_bI ?_
  refine s_letV (iI (if ¬ lng A k ∧ onD A D k then 1 else 0), M) (fun J hJ => ?_) ?_
  · refine s_letJ (fun x => x = M ∧ ¬ (¬ lng A k ∧ onD A D k)) (fun J2 hJ2 => ?_) (fun x hx => ?_)
    · rw [l0_]
      refine s_if (fun q => ?_) (fun q => ?_)
      · have q := (iI_lt (by omega) (by omega) (by omega) (by omega)).mp q
        exact hJ2 _ ⟨rfl, fun z => by have := hrn.mpr z.2; omega⟩
      · have q : ¬ rowD A L R k D < 0 := fun z => q ((iI_lt (by omega) (by omega) (by omega) (by omega)).mpr z)
        have c := hrn.mp (by omega)
        refine k_entry4 hW hk ?_
        by_cases hl : lng A k
        · rw [if_pos hl, if_neg (by decide)]
          exact hJ2 _ ⟨rfl, fun z => z.1 hl⟩
        · rw [if_neg hl, if_pos rfl]
          rw [if_pos ⟨hl, c⟩] at hJ
          exact hJ
    · obtain ⟨rfl, hx⟩ := hx
      rw [if_neg hx] at hJ
      exact hJ
  try dsimp only
  rw [iI_add]
  refine s_bI ?_
  have e1 : ((lgd A D k : Nat) : Int) + (if lng A k ∧ onD A D k then 1 else 0) = ((lgd A D (k + 1) : Nat) : Int) := by
    by_cases c : lng A k ∧ onD A D k
    · rw [if_pos c, show lgd A D (k + 1) = lgd A D k + 1 from cntP_t (decide_eq_true c)]
      rfl
    · rw [if_neg c, show lgd A D (k + 1) = lgd A D k from cntP_f (fun z => c (of_decide_eq_true z))]
      omega
  have e2 : ((shn A D D k : Nat) : Int) + (if ¬ lng A k ∧ onD A D k then 1 else 0) = ((shn A D D (k + 1) : Nat) : Int) := by
    by_cases c : ¬ lng A k ∧ onD A D k
    · rw [if_pos c, show shn A D D (k + 1) = shn A D D k + 1 from cntP_t (decide_eq_true c)]
      rfl
    · rw [if_neg c, show shn A D D (k + 1) = shn A D D k from cntP_f (fun z => c (of_decide_eq_true z))]
      omega
  rw [e1, e2]
  refine loop_up (fun f x => x = (iI f, M)) k ?_ ?_ (Nat.zero_le _) rfl
  · rintro Rf f x hf rfl hRf
    have hf1 : (f : Int) < A 0 4 := by omega
    have hfb := rowD_b (A := A) (D := D) hLb hRb (e := f)
    have hfn := rowD_nn (D := D) hO hL hLR hLb d1 d2 hf1
    unfold w_L_day_L99
    try dsimp only
    rw [if_neg (fun z => by have := (iI_le (by omega) (by omega) (by omega) (by omega)).mp z; omega), l0_, l1_, iI_add]
    refine s_if (fun q => s_bI (hRf _ rfl)) (fun q => ?_)
    have q : ¬ rowD A L R k D < 0 := fun z => q ((iI_lt (by omega) (by omega) (by omega) (by omega)).mpr z)
    have c := hrn.mp (by omega)
    refine k_rowOf hW hf1 d1 d2 ?_
    rw [if_neg (fun z => ?_)]
    · exact s_bI (hRf _ rfl)
    · have z := (iI_eq (by omega) (by omega) (by omega) (by omega)).mp z
      have cf := hfn.mp (by omega)
      have := rowv_inj hO hL hLR hLb d1 d2 hf1 hk cf c (by
        unfold rowD at z
        rw [if_pos cf, if_pos c] at z
        exact z)
      omega
  · rintro Rf x rfl
    unfold w_L_day_L99
    try dsimp only
    rw [if_pos ((iI_le (by omega) (by omega) (by omega) (by omega)).mpr (by omega)), l1_, iI_add]
    exact s_bI hR
/-- the counting loop -/
theorem p_day2 (hW : Wd M A L R n) (d1 : A 0 0 ≤ D) (d2 : D ≤ A 0 1) {k : Nat} (hk : (k : Int) < A 0 4) {f : Nat → Nat} (hf : ∀ r, f r ≤ 100000) (hN : Nm M (fun r => f r + hidN A L R D (mrk (ned A L R D (A 0 4).toNat) r) k)) {a b c d : Int32} {K : Int32 × Mm → Prop} (hK : ∀ M', sx c17 M M' → Nm M' (fun r => f r + hidN A L R D (mrk (ned A L R D (A 0 4).toNat) r) (k + 1)) → K (iI 13, M')) : ∃ m, loop (w_L_day_L168 (iI D) (iI (ned A L R D (A 0 4).toNat)) a b c d (iI k) (iI (rowD A L R k D)) K) m ((1 : Int32), M) := by
  have hO := hW.2.1
  have ob := hO.b
  have hL := hW.2.2.1.2.1
  have hLR := hW.2.2.1.2.2.1
  have hLb := hW.2.2.1.2.2.2.1
  have hRb := hW.2.2.1.2.2.2.2.1
  have hrb := rowD_b (A := A) (D := D) hLb hRb (e := k)
  have hnb := ned_b (A := A) (D := D) hLb hRb (A 0 4).toNat
  refine loop_up (fun i x => ∃ M1, x = (iI ((i : Int) + 1), M1) ∧ sx c17 M M1 ∧ Nm M1 (fun r => f r + hidN A L R D (mrk (ned A L R D (A 0 4).toNat) r) (if r ≤ i then k + 1 else k))) 12 ?_ ?_ (Nat.zero_le _) ⟨M, rfl, sx_rf, fun r h1 h2 => by
    rw [hN r h1 h2]
    dsimp only
    rw [if_neg (by omega)]⟩
  · rintro Ri i x hi ⟨M1, rfl, hs, hN1⟩ hRi
    have hmi := mark_iff (A := A) (L := L) (R := R) (D := D) (r := (i : Int) + 1) (by omega) hk (fun z => rowv_nn hO hL hLR hLb d1 d2 hk z)
    have h0 : hidN A L R D (mrk (ned A L R D (A 0 4).toNat) ((i : Int) + 1)) k ≤ k := cntP_le _ _
    have hv := hN1 (i + 1) (by omega) (by omega)
    dsimp only at hv
    rw [if_neg (by omega)] at hv
    have hfi := hf (i + 1)
    have ec : (((i + 1 : Nat)) : Int) = (i : Int) + 1 := rfl
    rw [ec] at hv
    unfold w_L_day_L168
    try dsimp only
    rw [if_neg (fun z => by rw [l12_] at z; have := (iI_lt (by omega) (by omega) (by omega) (by omega)).mp z; omega)]
    rw [← ec]
    refine s_ldN (by omega) (by decide) ?_
    rw [hv, ec]
    have fin : ∀ v : Nat, hidN A L R D (mrk (ned A L R D (A 0 4).toNat) ((i : Int) + 1)) (k + 1) = hidN A L R D (mrk (ned A L R D (A 0 4).toNat) ((i : Int) + 1)) k + v → (stA M1 17 0 13 (iI ((i : Int) + 1)) (iI ((f (i + 1) + hidN A L R D (mrk (ned A L R D (A 0 4).toNat) ((i : Int) + 1)) k : Nat) : Int) + iI (v : Int)) fun M63 => bI (iI ((i : Int) + 1) + (1 : Int32)) fun v64 => Ri (v64, M63)) := by
      intro v hv2
      rw [← ec]
      refine s_stN (by omega) (by decide) ?_
      rw [l1_, iI_add, iI_add]
      refine s_bI (hRi _ ⟨_, rfl, sx_st hs (by rfl), fun r h1 h2 => ?_⟩)
      by_cases hr : r = i + 1
      · subst hr
        try dsimp only
        rw [st_s, if_pos (Nat.le_refl _), ec, hv2]
        congr 1
        omega
      · rw [st_d (by omega), hN1 r h1 h2]
        try dsimp only
        by_cases hri : r ≤ i
        · rw [if_pos hri, if_pos (by omega)]
        · rw [if_neg hri, if_neg (by omega)]
    by_cases c : onD A D k ∧ mrk (ned A L R D (A 0 4).toNat) ((i : Int) + 1) ≤ rowv A L R D k
    · have hc := hmi.mpr c
      refine s_letV (iI 1) (fun J hJ => ?_) (fin 1 (hidN_t c))
      refine s_letJ (fun _ => False) (fun J2 hJ2 => ?_) (fun x hx => hx.elim)
      rw [l1_, iI_sub]
      rw [if_neg (fun z => by have := (iI_lt (by omega) (by omega) (by omega) (by omega)).mp z; omega), if_neg (fun z => by have := (iI_le (by omega) (by omega) (by omega) (by omega)).mp z; omega)]
      exact hJ
    · refine s_letV (iI 0) (fun J hJ => ?_) (fin 0 (hidN_f c))
      refine s_letV () (fun J2 hJ2 => ?_) hJ
      rw [l1_, iI_sub]
      refine s_if (fun _ => hJ2) (fun q => s_if (fun _ => hJ2) (fun q2 => ?_))
      have q : ¬ rowD A L R k D < (i : Int) + 1 - 1 := fun z => q ((iI_lt (by omega) (by omega) (by omega) (by omega)).mpr z)
      have q2 : ¬ ned A L R D (A 0 4).toNat ≤ (i : Int) + 1 := fun z => q2 ((iI_le (by omega) (by omega) (by omega) (by omega)).mpr z)
      exact absurd (hmi.mp ⟨by omega, by omega⟩) c
  · rintro Ri x ⟨M1, rfl, hs, hN1⟩
    unfold w_L_day_L168
    try dsimp only
    rw [l12_, if_pos ((iI_lt (by omega) (by omega) (by omega) (by omega)).mpr (by omega))]
    refine hK M1 hs (fun r h1 h2 => ?_)
    rw [hN1 r h1 h2]
    try dsimp only
    rw [if_pos h2]
theorem p_day (hW : Wd M A L R n) (d1 : A 0 0 ≤ D) (d2 : D ≤ A 0 1) {f : Nat → Nat} (hf : ∀ r, f r ≤ 100000) (hN : Nm M f) (h : ∀ M', sx c17 M M' → Nm M' (fun r => f r + hidD A L R D r) → Q (iI 1) M') : w_L_day M (iI D) Q := by
  have hO := hW.2.1
  have ob := hO.b
  have hL := hW.2.2.1.2.1
  have hLR := hW.2.2.1.2.2.1
  have hLb := hW.2.2.1.2.2.2.1
  have hRb := hW.2.2.1.2.2.2.2.1
  have hnb := ned_b (A := A) (D := D) hLb hRb (A 0 4).toNat
  have hml := mrk_b (N := ned A L R D (A 0 4).toNat) (r := A 0 3) (by omega) (by omega)
  unfold w_L_day
  refine loop_up (fun k x => x = (iI (ned A L R D k), iI (lgd A D k : Nat), iI (shn A D D k : Nat), iI k, M)) (A 0 4).toNat ?_ ?_ (Nat.zero_le _) rfl
  · rintro Rr k x hk rfl hRr
    exact p_day1 hW d1 d2 (by omega) (hRr _ rfl)
  rintro Rr x rfl
  have hlk : lgd A D (A 0 4).toNat ≤ (A 0 4).toNat := cntP_le _ _
  have hsk : shn A D D (A 0 4).toNat ≤ (A 0 4).toNat := cntP_le _ _
  unfold w_L_day_L11
  try dsimp only
  refine k_told5 hW ?_
  rw [if_pos ((iI_le (by omega) (by omega) (by omega) (by omega)).mpr (by omega))]
  refine loop_up (fun k x => ∃ M1, x = (iI (hidN A L R D (mrk (ned A L R D (A 0 4).toNat) (A 0 3)) k : Nat), iI (seeN A L R D (mrk (ned A L R D (A 0 4).toNat) (A 0 3)) k : Nat), iI k, M1) ∧ sx c17 M M1 ∧ Nm M1 (fun r => f r + hidN A L R D (mrk (ned A L R D (A 0 4).toNat) r) k)) (A 0 4).toNat ?_ ?_ (Nat.zero_le _) ⟨M, rfl, sx_rf, fun r h1 h2 => by rw [hN r h1 h2] <;> rfl⟩
  · rintro Rk k x hk ⟨M1, rfl, hs, hN1⟩ hRk
    have hW1 := hW.k17 hs
    have hk1 : (k : Int) < A 0 4 := by omega
    have hrb := rowD_b (A := A) (D := D) hLb hRb (e := k)
    have hrn := rowD_nn (D := D) hO hL hLR hLb d1 d2 hk1
    have hmi := mark_iff (A := A) (L := L) (R := R) (D := D) (r := A 0 3) (by omega) hk1 (fun z => rowv_nn hO hL hLR hLb d1 d2 hk1 z)
    have h0 : hidN A L R D (mrk (ned A L R D (A 0 4).toNat) (A 0 3)) k ≤ k := cntP_le _ _
    have h1 : seeN A L R D (mrk (ned A L R D (A 0 4).toNat) (A 0 3)) k ≤ k := cntP_le _ _
    unfold w_L_day_L146
    try dsimp only
    refine k_told5 hW1 ?_
    rw [if_neg (fun z => by have := (iI_le (by omega) (by omega) (by omega) (by omega)).mp z; omega)]
    refine k_rowOf hW1 hk1 d1 d2 ?_
    refine p_day2 hW1 d1 d2 hk1 hf hN1 (fun M2 hs2 hN2 => ?_)
    have hs3 : sx c17 M M2 := sx_mono (sx_tr hs hs2) (fun c i q => by omega)
    have hW2 := hW.k17 hs3
    try dsimp only
    refine k_told3 hW2 ?_
    by_cases c : onD A D k ∧ mrk (ned A L R D (A 0 4).toNat) (A 0 3) ≤ rowv A L R D k
    · have hc := hmi.mpr c
      have hg : hidN A L R D (mrk (ned A L R D (A 0 4).toNat) (A 0 3)) (k + 1) = _ := hidN_t c
      have hg2 : seeN A L R D (mrk (ned A L R D (A 0 4).toNat) (A 0 3)) (k + 1) = seeN A L R D (mrk (ned A L R D (A 0 4).toNat) (A 0 3)) k := cntP_f (fun z => by have := of_decide_eq_true z; omega)
      refine s_letV (iI 1, M2) (fun J hJ => ?_) ?_
      · refine s_letJ (fun _ => False) (fun J2 hJ2 => ?_) (fun x hx => hx.elim)
        rw [l1_, iI_sub, if_neg (fun z => by have := (iI_lt (by omega) (by omega) (by omega) (by omega)).mp z; omega)]
        refine k_told3 hW2 ?_
        rw [if_neg (fun z => by have := (iI_le (by omega) (by omega) (by omega) (by omega)).mp z; omega)]
        exact hJ
      try dsimp only
      refine s_letV (iI 1) (fun J hJ => z1 hJ) ?_
      try dsimp only
      rw [iI_add, l1_, iI_add]
      refine s_bI ?_
      have hgo : Rk (iI ((hidN A L R D (mrk (ned A L R D (A 0 4).toNat) (A 0 3)) k : Nat) + 1), iI (seeN A L R D (mrk (ned A L R D (A 0 4).toNat) (A 0 3)) k : Nat), iI ((k : Int) + 1), M2) := hRk _ ⟨M2, by rw [hg, hg2] <;> rfl, hs3, hN2⟩
      exact s_if (fun _ => s_bI hgo) (fun _ => z1 (s_bI hgo))
    · have hg : hidN A L R D (mrk (ned A L R D (A 0 4).toNat) (A 0 3)) (k + 1) = _ := hidN_f c
      refine s_letV (iI 0, M2) (fun J hJ => ?_) ?_
      · refine s_letV M2 (fun J2 hJ2 => ?_) hJ
        rw [l1_, iI_sub]
        refine s_if (fun _ => hJ2) (fun q => k_told3 hW2 (s_if (fun _ => hJ2) (fun q2 => ?_)))
        have q : ¬ rowD A L R k D < A 0 3 - 1 := fun z => q ((iI_lt (by omega) (by omega) (by omega) (by omega)).mpr z)
        have q2 : ¬ ned A L R D (A 0 4).toNat ≤ A 0 3 := fun z => q2 ((iI_le (by omega) (by omega) (by omega) (by omega)).mpr z)
        exact absurd (hmi.mp ⟨by omega, by omega⟩) c
      try dsimp only
      refine s_letV (iI 0) (fun J hJ => z0 hJ) ?_
      try dsimp only
      rw [iI_add, l1_, iI_add, Int.add_zero]
      refine s_bI ?_
      rw [l0_]
      refine s_if (fun q => ?_) (fun q => ?_)
      · have q := (iI_lt (by omega) (by omega) (by omega) (by omega)).mp q
        have hn : ¬ onD A D k := fun z => by have := hrn.mpr z; omega
        have hg2 : seeN A L R D (mrk (ned A L R D (A 0 4).toNat) (A 0 3)) (k + 1) = seeN A L R D (mrk (ned A L R D (A 0 4).toNat) (A 0 3)) k := cntP_f (fun z => hn (of_decide_eq_true z).1)
        exact s_bI (hRk _ ⟨M2, by rw [hg, hg2] <;> rfl, hs3, hN2⟩)
      · have q : ¬ rowD A L R k D < 0 := fun z => q ((iI_lt (by omega) (by omega) (by omega) (by omega)).mpr z)
        have cd := hrn.mp (by omega)
        have hg2 : seeN A L R D (mrk (ned A L R D (A 0 4).toNat) (A 0 3)) (k + 1) = seeN A L R D (mrk (ned A L R D (A 0 4).toNat) (A 0 3)) k + 1 := cntP_t (decide_eq_true ⟨cd, by omega⟩)
        have er : rowD A L R k D = rowv A L R D k := if_pos cd
        refine z0 ?_
        rw [iI_add]
        refine s_bI (k_shown hW2 d1 d2 (by omega) ?_)
        rw [er, vShown_at hO hL hLR hLb d1 d2 hk1 cd (by omega), if_pos rfl]
        exact s_bI (hRk _ ⟨M2, by rw [hg, hg2] <;> rfl, hs3, hN2⟩)
  rintro Rk x ⟨M1, rfl, hs, hN1⟩
  have hW1 := hW.k17 hs
  have h0 : hidN A L R D (mrk (ned A L R D (A 0 4).toNat) (A 0 3)) (A 0 4).toNat ≤ (A 0 4).toNat := cntP_le _ _
  have h1 : seeN A L R D (mrk (ned A L R D (A 0 4).toNat) (A 0 3)) (A 0 4).toNat ≤ (A 0 4).toNat := cntP_le _ _
  have hac := all_cnt (A := A) (L := L) (R := R) (D := D) (m := mrk (ned A L R D (A 0 4).toNat) (A 0 3)) (A 0 4).toNat
  unfold w_L_day_L146
  try dsimp only
  refine k_told5 hW1 ?_
  rw [if_pos ((iI_le (by omega) (by omega) (by omega) (by omega)).mpr (by omega))]
  have hib : ∀ r, inRow A L R D r = -9 ∨ 0 ≤ inRow A L R D r ∧ inRow A L R D r < (A 0 4).toNat := fun r => fst_b _
  have hvb : ∀ r, -100 ≤ vShown A L R D r ∧ vShown A L R D r ≤ 100 := by
    intro r
    have := hib r
    have hh : hidD A L R D (A 0 3) ≤ (A 0 4).toNat := cntP_le _ _
    unfold vShown
    split
    · omega
    · split <;> omega
  refine loop_up (fun r x => x = (iI (cntP (fun r : Nat => decide (0 ≤ vShown A L R D r)) r : Nat), iI r, M1)) 12 ?_ ?_ (Nat.zero_le _) rfl
  · rintro Rq r x hr rfl hRq
    have hcb : cntP (fun r : Nat => decide (0 ≤ vShown A L R D r)) r ≤ r := cntP_le _ _
    have hv := hvb r
    unfold w_L_day_L290
    try dsimp only
    rw [if_neg (fun z => by rw [l12_] at z; have := (iI_le (by omega) (by omega) (by omega) (by omega)).mp z; omega)]
    refine k_shown hW1 d1 d2 (by omega) ?_
    refine s_letV (iI (if 0 ≤ vShown A L R D r then 1 else 0)) (fun J hJ => ?_) ?_
    · rw [l0_]
      refine s_if (fun q => ?_) (fun q => ?_)
      · have q := (iI_lt (by omega) (by omega) (by omega) (by omega)).mp q
        rw [if_neg (by omega)] at hJ
        exact hJ
      · have q : ¬ vShown A L R D r < 0 := fun z => q ((iI_lt (by omega) (by omega) (by omega) (by omega)).mpr z)
        rw [if_pos (by omega)] at hJ
        exact hJ
    try dsimp only
    rw [iI_add, l1_, iI_add]
    have e1 : ((cntP (fun r : Nat => decide (0 ≤ vShown A L R D r)) r : Nat) : Int) + (if 0 ≤ vShown A L R D r then 1 else 0) = ((cntP (fun r : Nat => decide (0 ≤ vShown A L R D r)) (r + 1) : Nat) : Int) := by
      by_cases c : 0 ≤ vShown A L R D r
      · rw [if_pos c, cntP_t (decide_eq_true c)]
        rfl
      · rw [if_neg c, cntP_f (fun z => c (of_decide_eq_true z))]
        omega
    rw [e1]
    refine s_bI (k_told3 hW1 ?_)
    refine s_if (fun q => s_bI (hRq _ rfl)) (fun q => ?_)
    have q : ¬ (r : Int) < A 0 3 := fun z => q ((iI_lt (by omega) (by omega) (by omega) (by omega)).mpr z)
    refine k_shown hW1 d1 d2 (by omega) ?_
    rw [show vShown A L R D r = -9 from if_pos (by omega), lm9_, if_pos rfl]
    exact s_bI (hRq _ rfl)
  rintro Rq x rfl
  unfold w_L_day_L290
  try dsimp only
  rw [if_pos (by decide)]
  refine s_letV (iI 1, M1) (fun J hJ => ?_) ?_
  · refine s_letV M1 (fun J2 hJ2 => ?_) hJ
    rw [l0_]
    refine s_if (fun _ => hJ2) (fun q => ?_)
    have q : ¬ ((hidN A L R D (mrk (ned A L R D (A 0 4).toNat) (A 0 3)) (A 0 4).toNat : Nat) : Int) = 0 := fun z => q (by rw [z])
    refine k_told3 hW1 ?_
    rw [l1_, iI_sub]
    refine k_shown hW1 d1 d2 (by omega) ?_
    have hp := (hidD_pos (A := A) (L := L) (R := R) (D := D) (r := A 0 3)).mp (by show 0 < hidN A L R D (mrk (ned A L R D (A 0 4).toNat) (A 0 3)) (A 0 4).toNat; omega)
    rw [show vShown A L R D (A 0 3 - 1) = -10 - (hidD A L R D (A 0 3) : Nat) by
      unfold vShown
      rw [if_neg (by omega), if_pos ⟨hp.1, rfl⟩]]
    rw [lm10_, iI_sub, if_pos rfl]
    exact hJ2
  try dsimp only
  refine z1 ?_
  rw [shown_cnt hO hL hLR hLb d1 d2, if_pos rfl, iI_add, iI_add]
  rw [show ((seeN A L R D (mrk (ned A L R D (A 0 4).toNat) (A 0 3)) (A 0 4).toNat : Nat) : Int) + (hidN A L R D (mrk (ned A L R D (A 0 4).toNat) (A 0 3)) (A 0 4).toNat : Nat) = ((lgd A D (A 0 4).toNat : Nat) : Int) + (shn A D D (A 0 4).toNat : Nat) by omega, if_pos rfl]
  refine k_day2 hW1 d1 d2 ?_
  rw [if_pos rfl]
  refine k_day3 hW1 d1 d2 ?_
  rw [if_pos rfl]
  refine k_day4 hW1 d1 d2 ?_
  rw [if_pos rfl]
  refine k_day5 hW1 d1 d2 ?_
  rw [if_pos rfl, l1_]
  exact h M1 hs hN1
end DAYW
