/-- on the page's day D -/
abbrev onD (A : Ab) (D : Int) (o : Nat) : Prop := A 1 o ≤ D ∧ D ≤ A 2 o
/-- the rows that the first k entries need on a day -/
def ned (A : Ab) (L : Nat → Nat → Int) (R : Nat → Int) (D : Int) : Nat → Int
  | 0 => 0
  | k + 1 => if onD A D k then max (ned A L R D k) (rowv A L R D k + 1) else ned A L R D k
theorem ned_s {A : Ab} {L : Nat → Nat → Int} {R : Nat → Int} {D : Int} {k : Nat} : ned A L R D (k + 1) = if onD A D k then max (ned A L R D k) (rowv A L R D k + 1) else ned A L R D k := rfl
section MN
variable {M : Mm} {A : Ab} {L : Nat → Nat → Int} {R : Nat → Int} {D : Int} {Q : Int32 → Mm → Prop}
theorem ned_b (hLb : Lbd L) (hRb : Rbd R) (k : Nat) : 0 ≤ ned A L R D k ∧ ned A L R D k ≤ 24 := by
  induction k with
  | zero => exact ⟨Int.le_refl _, (by decide : (0 : Int) ≤ 24)⟩
  | succ k ih =>
    have hb := rowv_b (A := A) (D := D) hLb hRb k
    rw [ned_s]
    split <;> omega
theorem s_X5_needed (hP : Pm M 0 A) (hW : Wm M A) (hO : Ok A) (hM : Lmm M L) (hR : Rm M R) (hLb : Lbd L) (hRb : Rbd R) (d1 : A 0 0 ≤ D) (d2 : D ≤ A 0 1) (h : Q (iI (ned A L R D (A 0 4).toNat)) M) : w_X5_needed M (iI D) Q := by
  have ob := hO.b
  unfold w_X5_needed
  refine loop_up (fun k x => x = (iI (ned A L R D k), iI k, M)) (A 0 4).toNat ?_ ?_ (Nat.zero_le _) rfl
  · rintro Rr k x hk rfl hRr
    have hk1 : (k : Int) < A 0 4 := by omega
    have hb := rowv_b (A := A) (D := D) hLb hRb k
    have hnb := ned_b (A := A) (D := D) hLb hRb k
    unfold w_X5_needed_L4
    dsimp only
    refine s_pg hP (j := 4) (by decide) rfl ?_
    simp only [lm1_, lm2_, lm3_, lm9_, lm10_, lm999_, lm1000_, l0_, l1_, l2_, l3_, l4_, l5_, l6_, l7_, l8_, l9_, l10_, l11_, l12_, l13_, l23_, l24_, l30_, l31_, l33_, l35_, l41_, l42_, l45_, l48_, l57_, l58_, l59_, l60_, l64_, l96_, l99_, l100_, l101_, l126_, l168_, l808_, l909_, l999_, l1439_, iI_add, iI_sub, iI_mul, iI_neg]
    rw [if_neg (fun z => by have := (iI_le (by omega) (by omega) (by omega) (by omega)).mp z; omega)]
    refine s_X5_isOn hP hO hk1 (by omega) (fun c => ?_) (fun c => ?_)
    · refine s_letV (iI (rowv A L R D k), M) (fun J hJ => z1 (s_X5_rowAt hP hW hO hM hR d1 d2 hk1 hJ)) ?_
      dsimp only
      refine s_if (fun q => ?_) (fun q => ?_)
      · have q := (iI_lt (by omega) (by omega) (by omega) (by omega)).mp q
        refine hRr _ ?_
        rw [show ned A L R D (k + 1) = ned A L R D k by rw [ned_s, if_pos c]; omega]
        rfl
      · have q : ¬ rowv A L R D k < ned A L R D k := fun z => q ((iI_lt (by omega) (by omega) (by omega) (by omega)).mpr z)
        simp only [lm1_, lm2_, lm3_, lm9_, lm10_, lm999_, lm1000_, l0_, l1_, l2_, l3_, l4_, l5_, l6_, l7_, l8_, l9_, l10_, l11_, l12_, l13_, l23_, l24_, l30_, l31_, l33_, l35_, l41_, l42_, l45_, l48_, l57_, l58_, l59_, l60_, l64_, l96_, l99_, l100_, l101_, l126_, l168_, l808_, l909_, l999_, l1439_, iI_add, iI_sub, iI_mul, iI_neg]
        refine hRr _ ?_
        rw [show ned A L R D (k + 1) = rowv A L R D k + 1 by rw [ned_s, if_pos c]; omega]
        rfl
    · refine s_letV (iI (-9), M) (fun J hJ => z0 hJ) ?_
      dsimp only
      rw [if_pos ((iI_lt (by omega) (by omega) (by omega) (by omega)).mpr (by omega))]
      refine hRr _ ?_
      rw [show ned A L R D (k + 1) = ned A L R D k by rw [ned_s, if_neg c]]
      rfl
  · rintro Rr x rfl
    unfold w_X5_needed_L4
    dsimp only
    refine s_pg hP (j := 4) (by decide) rfl ?_
    simp only [lm1_, lm2_, lm3_, lm9_, lm10_, lm999_, lm1000_, l0_, l1_, l2_, l3_, l4_, l5_, l6_, l7_, l8_, l9_, l10_, l11_, l12_, l13_, l23_, l24_, l30_, l31_, l33_, l35_, l41_, l42_, l45_, l48_, l57_, l58_, l59_, l60_, l64_, l96_, l99_, l100_, l101_, l126_, l168_, l808_, l909_, l999_, l1439_, iI_add, iI_sub, iI_mul, iI_neg]
    rw [if_pos ((iI_le (by omega) (by omega) (by omega) (by omega)).mpr (by omega))]
    exact h
end MN
