section MBI
variable {M : Mm} {A : Ab} {L : Nat → Nat → Int} {Q : Int32 → Mm → Prop}
theorem s_X5_barsIn (hP : Pm M 0 A) (hO : Ok A) (hM : Lmm M L) (hLb : Lbd L) {w : Nat} (hw : w < 7) (h : Q (iI (cntP (fun e => decide (L e w ≠ -9)) (A 0 4).toNat)) M) : w_X5_barsIn M (iI w) Q := by
  have ob := hO.b
  unfold w_X5_barsIn
  refine loop_up (fun k x => x = (iI (cntP (fun e => decide (L e w ≠ -9)) k), iI k, M)) (A 0 4).toNat ?_ ?_ (Nat.zero_le _) rfl
  · rintro Rr k x hk rfl hRr
    have hb := hLb k w
    unfold w_X5_barsIn_L4
    dsimp only
    refine s_pg hP (j := 4) (by decide) rfl ?_
    simp only [lm1_, lm2_, lm3_, lm9_, lm10_, lm999_, lm1000_, l0_, l1_, l2_, l3_, l4_, l5_, l6_, l7_, l8_, l9_, l10_, l11_, l12_, l13_, l23_, l24_, l30_, l31_, l33_, l35_, l41_, l42_, l45_, l48_, l57_, l58_, l59_, l60_, l64_, l96_, l99_, l100_, l101_, l126_, l168_, l808_, l909_, l999_, l1439_, iI_add, iI_sub, iI_mul, iI_neg]
    rw [if_neg (fun z => by have := (iI_le (by omega) (by omega) (by omega) (by omega)).mp z; omega)]
    refine s_lm hM (by omega) hw ?_
    refine s_if (fun q => ?_) (fun q => ?_)
    · have q := (iI_eq (by omega) (by omega) (by omega) (by omega)).mp q
      refine s_bI (s_bI (hRr _ ?_))
      rw [Int.add_zero, show cntP (fun e => decide (L e w ≠ -9)) (k + 1) = cntP (fun e => decide (L e w ≠ -9)) k from cntP_f (by rw [decide_eq_true_eq]; exact fun z => z q)]
      rfl
    · refine s_bI (s_bI (hRr _ ?_))
      rw [show cntP (fun e => decide (L e w ≠ -9)) (k + 1) = cntP (fun e => decide (L e w ≠ -9)) k + 1 from cntP_t (by rw [decide_eq_true_eq]; exact fun z => q (by rw [z]))]
      rfl
  · rintro Rr x rfl
    unfold w_X5_barsIn_L4
    dsimp only
    refine s_pg hP (j := 4) (by decide) rfl ?_
    simp only [lm1_, lm2_, lm3_, lm9_, lm10_, lm999_, lm1000_, l0_, l1_, l2_, l3_, l4_, l5_, l6_, l7_, l8_, l9_, l10_, l11_, l12_, l13_, l23_, l24_, l30_, l31_, l33_, l35_, l41_, l42_, l45_, l48_, l57_, l58_, l59_, l60_, l64_, l96_, l99_, l100_, l101_, l126_, l168_, l808_, l909_, l999_, l1439_, iI_add, iI_sub, iI_mul, iI_neg]
    rw [if_pos ((iI_le (by omega) (by omega) (by omega) (by omega)).mpr (by omega))]
    exact h
end MBI
