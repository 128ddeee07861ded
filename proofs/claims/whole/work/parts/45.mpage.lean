theorem tkn_congr2 {A : Ab} {L : Nat → Nat → Int} {R R' : Nat → Int} {e : Nat} (h : ∀ o, sh A o → A 1 o = A 1 e → R' o = R o) (r : Int) : tkn A L R' e r ↔ tkn A L R e r := by
  unfold tkn
  constructor
  · rintro (q | ⟨o, h1, h2, h3, h4⟩)
    · exact Or.inl q
    · exact Or.inr ⟨o, h1, h2, h3, by rw [← h o h1 h2]; exact h4⟩
  · rintro (q | ⟨o, h1, h2, h3, h4⟩)
    · exact Or.inl q
    · exact Or.inr ⟨o, h1, h2, h3, by rw [h o h1 h2]; exact h4⟩
theorem RowAt_congr2 {A : Ab} {L : Nat → Nat → Int} {R R' : Nat → Int} {e : Nat} (h : ∀ o, sh A o → A 1 o = A 1 e → R' o = R o) (h2 : R' e = R e) : RowAt A L R' e ↔ RowAt A L R e := by
  unfold RowAt
  rw [h2, tkn_congr2 h]
  have : (∀ r, 0 ≤ r → r < R e → tkn A L R' e r) ↔ (∀ r, 0 ≤ r → r < R e → tkn A L R e r) := ⟨fun q r a b => (tkn_congr2 h r).mp (q r a b), fun q r a b => (tkn_congr2 h r).mpr (q r a b)⟩
  rw [this]
section MP
variable {M : Mm} {A : Ab} {L : Nat → Nat → Int} {R : Nat → Int}
theorem s_mweeks (hP : Pm M 0 A) (hW : Wm M A) (hO : Ok A) (h20 : ∀ j, j < 168 → M 20 0 j = iI (-9)) {K : Int32 × Mm → Prop} (hK : ∀ (x : Int32) (M' : Mm) (L : Nat → Nat → Int), LayL A L → Lbd L → Lmm M' L → sx (fun c i => c = 20 ∧ i = 0) M M' → K (x, M')) : ∃ n, loop (w_X5_lays_L90 (iI (nW A)) K) n (iI 0, M) := by
  have hn := nW_b hO
  refine loop_up (fun k x => ∃ (M' : Mm) (L : Nat → Nat → Int), x = (iI k, M') ∧ Lmm M' L ∧ Lbd L ∧ (∀ w e : Nat, w < k → bar A w e → LaneAt A L w e) ∧ (∀ w e : Nat, ¬ (w < k ∧ bar A w e) → L e w = -9) ∧ sx (fun c i => c = 20 ∧ i = 0) M M') (nW A).toNat ?_ ?_ (Nat.zero_le _) ⟨M, fun _ _ => -9, rfl, fun e w he hw => h20 _ (by omega), fun _ _ => ⟨Or.inl rfl, (by decide : (-9 : Int) < 24)⟩, fun w e hw => absurd hw (Nat.not_lt_zero _), fun _ _ _ => rfl, sx_rf⟩
  · rintro Rr w x hk ⟨M', L, rfl, g1, g2, g3, g4, g7⟩ hR
    have hwn : (w : Int) < nW A := by omega
    have hP' := hP.sx g7 (by omega)
    have hW' := hW.sx g7 (by omega)
    have hLb : Lb A L w := by
      intro e he hlt h0
      have h1 : bar A (w - 1) e := by
        have h2 := wS_mono hO (a := ((w - 1 : Nat) : Int)) (b := w) (by omega) (by omega) (by omega)
        refine ⟨he.1, he.2.1, ?_, by have := he.2.2.2; omega⟩
        unfold wL
        rw [show ((w - 1 : Nat) : Int) + 1 = w by omega]
        omega
      exact ⟨LaneAt_nn g2 (g3 (w - 1) e (by omega) h1), (g2 e (w - 1)).2⟩
    unfold w_X5_lays_L90
    dsimp only
    rw [if_neg (fun z => by have := (iI_le (by omega) (by omega) (by omega) (by omega)).mp z; omega)]
    refine s_X5_laysWeek hP' hW' hO hwn g1 g2 hLb (fun e => g4 w e (fun q => absurd q.1 (Nat.lt_irrefl _))) (fun M3 L3 f1 f2 f3 f4 f5 f7 => ?_)
    simp only [lm1_, lm2_, lm3_, lm9_, lm10_, lm999_, lm1000_, l0_, l1_, l2_, l3_, l4_, l5_, l6_, l7_, l8_, l9_, l10_, l11_, l12_, l13_, l23_, l24_, l30_, l31_, l33_, l35_, l41_, l42_, l45_, l48_, l57_, l58_, l59_, l60_, l64_, l96_, l99_, l100_, l101_, l126_, l168_, l808_, l909_, l999_, l1439_, iI_add, iI_sub, iI_mul, iI_neg]
    refine hR _ ⟨M3, L3, rfl, f1, f2, fun w' e hw' hb => ?_, fun w' e hn' => ?_, fun c i hci => ?_⟩
    · by_cases hww : w' = w
      · rw [hww] at hb ⊢
        exact f4 e hb
      · refine (LaneAt_congr (fun x h0 => f3 x (w' - 1) (by omega)) (fun o _ _ => f3 o w' hww) (f3 e w' hww)).mpr (g3 w' e (by omega) hb)
    · by_cases hww : w' = w
      · rw [hww] at hn' ⊢
        exact f5 e (fun q => hn' ⟨by omega, q⟩)
      · rw [f3 e w' hww]
        exact g4 w' e (fun q => hn' ⟨by omega, q.2⟩)
    · rw [f7 c i hci]
      exact g7 c i hci
  · rintro Rr x ⟨M', L, rfl, g1, g2, g3, g4, g7⟩
    unfold w_X5_lays_L90
    dsimp only
    rw [if_pos ((iI_le (by omega) (by omega) (by omega) (by omega)).mpr (by omega))]
    exact hK _ M' L (fun w e => ⟨fun q => g3 w e (by omega) q.2, fun q => g4 w e (fun z => q ⟨by omega, z.2⟩)⟩) g2 g1 g7
theorem s_mdays (hP : Pm M 0 A) (hW : Wm M A) (hO : Ok A) (hM : Lmm M L) (hLb : Lbd L) (h21 : ∀ j, j < 24 → M 21 0 j = iI (-9)) {K : Int32 × Mm → Prop} (hK : ∀ (x : Int32) (M' : Mm) (R : Nat → Int), LayR A L R → Rbd R → Rm M' R → sx (fun c i => c = 21 ∧ i = 0) M M' → K (x, M')) : ∃ n, loop (w_X5_lays_L113 K) n (iI (A 0 0), M) := by
  have ob := hO.b
  refine loop_up (fun k x => ∃ (M' : Mm) (R : Nat → Int), x = (iI (A 0 0 + k), M') ∧ Rm M' R ∧ Rbd R ∧ (∀ e : Nat, sh A e → A 1 e < A 0 0 + k → RowAt A L R e) ∧ (∀ e : Nat, ¬ (sh A e ∧ A 1 e < A 0 0 + k) → R e = -9) ∧ sx (fun c i => c = 21 ∧ i = 0) M M') (A 0 1 - A 0 0 + 1).toNat ?_ ?_ (Nat.zero_le _) ⟨M, fun _ => -9, by rw [show A 0 0 + ((0 : Nat) : Int) = A 0 0 by omega], fun e he => h21 e he, fun _ => ⟨Or.inl rfl, (by decide : (-9 : Int) < 24)⟩, fun e he h1 => absurd he.2.2.1 (by omega), fun _ _ => rfl, sx_rf⟩
  · rintro Rr k x hk ⟨M', R, rfl, g1, g2, g3, g4, g7⟩ hR
    have hP' := hP.sx g7 (by omega)
    have hW' := hW.sx g7 (by omega)
    have hM' := hM.sx g7 (by omega)
    unfold w_X5_lays_L113
    dsimp only
    refine s_pg hP' (j := 1) (by decide) rfl ?_
    rw [if_neg (fun z => by have := (iI_lt (by omega) (by omega) (by omega) (by omega)).mp z; omega)]
    refine s_X5_laysDay hP' hW' hO hM' hLb (by omega) (by omega) g1 g2 (fun e he => g4 e (fun q => by have := he.2.2; have := q.2; omega)) (fun M3 R3 f1 f2 f3 f4 f7 => ?_)
    simp only [lm1_, lm2_, lm3_, lm9_, lm10_, lm999_, lm1000_, l0_, l1_, l2_, l3_, l4_, l5_, l6_, l7_, l8_, l9_, l10_, l11_, l12_, l13_, l23_, l24_, l30_, l31_, l33_, l35_, l41_, l42_, l45_, l48_, l57_, l58_, l59_, l60_, l64_, l96_, l99_, l100_, l101_, l126_, l168_, l808_, l909_, l999_, l1439_, iI_add, iI_sub, iI_mul, iI_neg]
    refine hR _ ⟨M3, R3, by rw [show A 0 0 + ((k + 1 : Nat) : Int) = A 0 0 + k + 1 by omega], f1, f2, fun e he h1 => ?_, fun e hn' => ?_, fun c i hci => ?_⟩
    · by_cases hd : A 1 e = A 0 0 + k
      · exact f4 e ⟨he.1, he.2.1, hd⟩
      · refine (RowAt_congr2 (fun o _ ho => f3 o (fun q => hd (by have := q.2.2; omega))) (f3 e (fun q => hd q.2.2))).mpr (g3 e he (by omega))
    · rw [f3 e (fun q => hn' ⟨shd_sh (by omega) (by omega) q, by have := q.2.2; omega⟩)]
      exact g4 e (fun q => hn' ⟨q.1, by have := q.2; omega⟩)
    · rw [f7 c i hci]
      exact g7 c i hci
  · rintro Rr x ⟨M', R, rfl, g1, g2, g3, g4, g7⟩
    unfold w_X5_lays_L113
    dsimp only
    refine s_pg (hP.sx g7 (by omega)) (j := 1) (by decide) rfl ?_
    rw [if_pos ((iI_lt (by omega) (by omega) (by omega) (by omega)).mpr (by omega))]
    exact hK _ M' R (fun e => ⟨fun q => g3 e q (by have := q.2.2; omega), fun q => g4 e (fun z => q z.1)⟩) g2 g1 g7
theorem s_X5_lays {Q : Mm → Prop} (hP : Pm M 0 A) (hO : Ok A) (h : ∀ (M' : Mm) (L : Nat → Nat → Int) (R : Nat → Int), LayL A L → LayR A L R → Lbd L → Rbd R → Lmm M' L → Rm M' R → Wm M' A → sx (fun c i => (c = 20 ∨ c = 21 ∨ c = 22) ∧ i = 0) M M' → Q M') : w_X5_lays M Q := by
  have ob := hO.b
  have hn := nW_b hO
  unfold w_X5_lays
  refine s_X5_weeks hP hO ?_
  simp only [lm1_, lm2_, lm3_, lm9_, lm10_, lm999_, lm1000_, l0_, l1_, l2_, l3_, l4_, l5_, l6_, l7_, l8_, l9_, l10_, l11_, l12_, l13_, l23_, l24_, l30_, l31_, l33_, l35_, l41_, l42_, l45_, l48_, l57_, l58_, l59_, l60_, l64_, l96_, l99_, l100_, l101_, l126_, l168_, l808_, l909_, l999_, l1439_, iI_add, iI_sub, iI_mul, iI_neg]
  refine loop_up (fun k x => ∃ M' : Mm, x = (iI k, M') ∧ (∀ w : Nat, w < k → M' 22 0 w = iI (wS A w)) ∧ sx (fun c i => c = 22 ∧ i = 0) M M') (nW A).toNat ?_ ?_ (Nat.zero_le _) ⟨M, rfl, fun w hw => absurd hw (Nat.not_lt_zero _), sx_rf⟩
  · rintro Rr k x hk ⟨M', rfl, g1, g2⟩ hR
    have hP' := hP.sx g2 (by omega)
    unfold w_X5_lays_L7
    dsimp only
    rw [if_neg (fun z => by have := (iI_le (by omega) (by omega) (by omega) (by omega)).mp z; omega)]
    refine s_X5_weekFirst hP' hO (by omega) (by omega) (s_stN (by omega) (by decide) ?_)
    simp only [lm1_, lm2_, lm3_, lm9_, lm10_, lm999_, lm1000_, l0_, l1_, l2_, l3_, l4_, l5_, l6_, l7_, l8_, l9_, l10_, l11_, l12_, l13_, l23_, l24_, l30_, l31_, l33_, l35_, l41_, l42_, l45_, l48_, l57_, l58_, l59_, l60_, l64_, l96_, l99_, l100_, l101_, l126_, l168_, l808_, l909_, l999_, l1439_, iI_add, iI_sub, iI_mul, iI_neg]
    refine hR _ ⟨_, rfl, fun w hw => ?_, sx_st g2 ⟨rfl, rfl⟩⟩
    by_cases hwk : w = k
    · rw [hwk, st_s]
    · rw [st_d hwk]
      exact g1 w (by omega)
  rintro Rr x ⟨M1, rfl, g1, g2⟩
  have hP1 := hP.sx g2 (by omega)
  unfold w_X5_lays_L7
  dsimp only
  rw [if_pos ((iI_le (by omega) (by omega) (by omega) (by omega)).mpr (by omega))]
  refine s_pg hP1 (j := 1) (by decide) rfl (s_stA (by omega) (by omega) (by decide) ?_)
  simp only [lm1_, lm2_, lm3_, lm9_, lm10_, lm999_, lm1000_, l0_, l1_, l2_, l3_, l4_, l5_, l6_, l7_, l8_, l9_, l10_, l11_, l12_, l13_, l23_, l24_, l30_, l31_, l33_, l35_, l41_, l42_, l45_, l48_, l57_, l58_, l59_, l60_, l64_, l96_, l99_, l100_, l101_, l126_, l168_, l808_, l909_, l999_, l1439_, iI_add, iI_sub, iI_mul, iI_neg]
  have hW2 : Wm (st M1 22 0 (nW A).toNat (iI (A 0 1 + 1))) A := fun w hw => by
    by_cases hwn : (w : Int) = nW A
    · rw [show (nW A).toNat = w by omega, st_s, hwn, wS_n hO]
    · rw [st_d (by omega)]
      exact g1 w (by omega)
  have s2 := sx_st (v := iI (A 0 1 + 1)) (j := (nW A).toNat) g2 (show 22 = 22 ∧ 0 = 0 from ⟨rfl, rfl⟩)
  revert hW2 s2
  generalize st M1 22 0 (nW A).toNat (iI (A 0 1 + 1)) = M2
  intro hW2 s2
  refine loop_up (fun k x => ∃ M' : Mm, x = (iI k, M') ∧ (∀ w : Nat, w < k → M' 20 0 w = iI (-9)) ∧ sx (fun c i => c = 20 ∧ i = 0) M2 M') 168 ?_ ?_ (Nat.zero_le _) ⟨M2, rfl, fun w hw => absurd hw (Nat.not_lt_zero _), sx_rf⟩
  · rintro Rr k x hk ⟨M', rfl, g1, g2⟩ hR
    unfold w_X5_lays_L45
    dsimp only
    simp only [lm1_, lm2_, lm3_, lm9_, lm10_, lm999_, lm1000_, l0_, l1_, l2_, l3_, l4_, l5_, l6_, l7_, l8_, l9_, l10_, l11_, l12_, l13_, l23_, l24_, l30_, l31_, l33_, l35_, l41_, l42_, l45_, l48_, l57_, l58_, l59_, l60_, l64_, l96_, l99_, l100_, l101_, l126_, l168_, l808_, l909_, l999_, l1439_, iI_add, iI_sub, iI_mul, iI_neg]
    rw [if_neg (fun z => by have := (iI_le (by omega) (by omega) (by omega) (by omega)).mp z; omega)]
    refine s_stN (by omega) (by decide) ?_
    refine hR _ ⟨_, rfl, fun w hw => ?_, sx_st g2 ⟨rfl, rfl⟩⟩
    by_cases hwk : w = k
    · rw [hwk, st_s]
    · rw [st_d hwk]
      exact g1 w (by omega)
  rintro Rr x ⟨M3, rfl, g3, s3⟩
  unfold w_X5_lays_L45
  dsimp only
  simp only [lm1_, lm2_, lm3_, lm9_, lm10_, lm999_, lm1000_, l0_, l1_, l2_, l3_, l4_, l5_, l6_, l7_, l8_, l9_, l10_, l11_, l12_, l13_, l23_, l24_, l30_, l31_, l33_, l35_, l41_, l42_, l45_, l48_, l57_, l58_, l59_, l60_, l64_, l96_, l99_, l100_, l101_, l126_, l168_, l808_, l909_, l999_, l1439_, iI_add, iI_sub, iI_mul, iI_neg]
  rw [if_pos ((iI_le (by omega) (by omega) (by omega) (by omega)).mpr (by omega))]
  refine loop_up (fun k x => ∃ M' : Mm, x = (iI k, M') ∧ (∀ w : Nat, w < k → M' 21 0 w = iI (-9)) ∧ sx (fun c i => c = 21 ∧ i = 0) M3 M') 24 ?_ ?_ (Nat.zero_le _) ⟨M3, rfl, fun w hw => absurd hw (Nat.not_lt_zero _), sx_rf⟩
  · rintro Rr k x hk ⟨M', rfl, g1, g2⟩ hR
    unfold w_X5_lays_L68
    dsimp only
    simp only [lm1_, lm2_, lm3_, lm9_, lm10_, lm999_, lm1000_, l0_, l1_, l2_, l3_, l4_, l5_, l6_, l7_, l8_, l9_, l10_, l11_, l12_, l13_, l23_, l24_, l30_, l31_, l33_, l35_, l41_, l42_, l45_, l48_, l57_, l58_, l59_, l60_, l64_, l96_, l99_, l100_, l101_, l126_, l168_, l808_, l909_, l999_, l1439_, iI_add, iI_sub, iI_mul, iI_neg]
    rw [if_neg (fun z => by have := (iI_le (by omega) (by omega) (by omega) (by omega)).mp z; omega)]
    refine s_stN (by omega) (by decide) ?_
    refine hR _ ⟨_, rfl, fun w hw => ?_, sx_st g2 ⟨rfl, rfl⟩⟩
    by_cases hwk : w = k
    · rw [hwk, st_s]
    · rw [st_d hwk]
      exact g1 w (by omega)
  rintro Rr x ⟨M4, rfl, g4, s4⟩
  unfold w_X5_lays_L68
  dsimp only
  simp only [lm1_, lm2_, lm3_, lm9_, lm10_, lm999_, lm1000_, l0_, l1_, l2_, l3_, l4_, l5_, l6_, l7_, l8_, l9_, l10_, l11_, l12_, l13_, l23_, l24_, l30_, l31_, l33_, l35_, l41_, l42_, l45_, l48_, l57_, l58_, l59_, l60_, l64_, l96_, l99_, l100_, l101_, l126_, l168_, l808_, l909_, l999_, l1439_, iI_add, iI_sub, iI_mul, iI_neg]
  rw [if_pos ((iI_le (by omega) (by omega) (by omega) (by omega)).mpr (by omega))]
  have hP4 := ((hP.sx s2 (by omega)).sx s3 (by omega)).sx s4 (by omega)
  have hW4 := (hW2.sx s3 (by omega)).sx s4 (by omega)
  refine s_mweeks hP4 hW4 hO (fun j hj => by rw [s4 20 0 (by omega)]; exact g3 j hj) (fun x M5 L f1 f2 f3 f4 => ?_)
  dsimp only
  have hP5 := hP4.sx f4 (by omega)
  have hW5 := hW4.sx f4 (by omega)
  refine s_pg hP5 (j := 0) (by decide) rfl ?_
  refine s_mdays hP5 hW5 hO f3 f2 (fun j hj => by rw [f4 21 0 (by omega)]; exact g4 j hj) (fun x M6 R e1 e2 e3 e4 => ?_)
  dsimp only
  refine h M6 L R f1 e1 f2 e2 (f3.sx e4 (by omega)) e3 (hW5.sx e4 (by omega)) (fun c i hci => ?_)
  rw [e4 c i (by omega), f4 c i (by omega), s4 c i (by omega), s3 c i (by omega), s2 c i (by omega)]
end MP
