/-- the first row that isn't shown when r rows are there and N are needed -/
def mrk (N r : Int) : Int := if r < N then r - 1 else N
/-- how many entries of a day lie at row m or below it -/
def hidN (A : Ab) (L : Nat → Nat → Int) (R : Nat → Int) (D m : Int) (k : Nat) : Nat := cntP (fun o => decide (onD A D o ∧ m ≤ rowv A L R D o)) k
section MH
variable {M : Mm} {A : Ab} {L : Nat → Nat → Int} {R : Nat → Int} {D : Int} {Q : Int32 → Mm → Prop}
theorem s_X5_markOf (hP : Pm M 0 A) (hW : Wm M A) (hO : Ok A) (hM : Lmm M L) (hR : Rm M R) (hLb : Lbd L) (hRb : Rbd R) (d1 : A 0 0 ≤ D) (d2 : D ≤ A 0 1) {r : Int} (hr : i32 r) (h : Q (iI (mrk (ned A L R D (A 0 4).toNat) r)) M) : w_X5_markOf M (iI D) (iI r) Q := by
  have hnb := ned_b (A := A) (D := D) hLb hRb (A 0 4).toNat
  unfold w_X5_markOf
  refine s_X5_needed hP hW hO hM hR hLb hRb d1 d2 ?_
  simp only [lm1_, lm2_, lm3_, lm9_, lm10_, lm999_, lm1000_, l0_, l1_, l2_, l3_, l4_, l5_, l6_, l7_, l8_, l9_, l10_, l11_, l12_, l13_, l23_, l24_, l30_, l31_, l33_, l35_, l41_, l42_, l45_, l48_, l57_, l58_, l59_, l60_, l64_, l96_, l99_, l100_, l101_, l126_, l168_, l808_, l909_, l999_, l1439_, iI_add, iI_sub, iI_mul, iI_neg]
  refine s_if (fun q => ?_) (fun q => ?_)
  · have q := (iI_lt (by omega) (by omega) (by omega) (by omega)).mp q
    rw [mrk, if_pos q] at h
    exact h
  · have q : ¬ r < ned A L R D (A 0 4).toNat := fun z => q ((iI_lt (by omega) (by omega) (by omega) (by omega)).mpr z)
    rw [mrk, if_neg q] at h
    exact h
theorem s_X5_hiddenOn (hP : Pm M 0 A) (hW : Wm M A) (hO : Ok A) (hM : Lmm M L) (hR : Rm M R) (hLb : Lbd L) (hRb : Rbd R) (d1 : A 0 0 ≤ D) (d2 : D ≤ A 0 1) {r : Int} (hr : -2000000000 ≤ r ∧ r ≤ 2000000000) (h : Q (iI (hidN A L R D (mrk (ned A L R D (A 0 4).toNat) r) (A 0 4).toNat)) M) : w_X5_hiddenOn M (iI D) (iI r) Q := by
  have ob := hO.b
  have hnb := ned_b (A := A) (D := D) hLb hRb (A 0 4).toNat
  unfold w_X5_hiddenOn
  refine s_X5_markOf hP hW hO hM hR hLb hRb d1 d2 (by omega) ?_
  have hm : -2000000001 ≤ mrk (ned A L R D (A 0 4).toNat) r ∧ mrk (ned A L R D (A 0 4).toNat) r ≤ 2000000000 := by
    unfold mrk
    split <;> omega
  revert h hm
  generalize mrk (ned A L R D (A 0 4).toNat) r = m
  intro h hm
  refine loop_up (fun k x => x = (iI (hidN A L R D m k), iI k, M)) (A 0 4).toNat ?_ ?_ (Nat.zero_le _) rfl
  · rintro Rr k x hk rfl hRr
    have hk1 : (k : Int) < A 0 4 := by omega
    have hb := rowv_b (A := A) (D := D) hLb hRb k
    unfold w_X5_hiddenOn_L13
    dsimp only
    refine s_pg hP (j := 4) (by decide) rfl ?_
    simp only [lm1_, lm2_, lm3_, lm9_, lm10_, lm999_, lm1000_, l0_, l1_, l2_, l3_, l4_, l5_, l6_, l7_, l8_, l9_, l10_, l11_, l12_, l13_, l23_, l24_, l30_, l31_, l33_, l35_, l41_, l42_, l45_, l48_, l57_, l58_, l59_, l60_, l64_, l96_, l99_, l100_, l101_, l126_, l168_, l808_, l909_, l999_, l1439_, iI_add, iI_sub, iI_mul, iI_neg]
    rw [if_neg (fun z => by have := (iI_le (by omega) (by omega) (by omega) (by omega)).mp z; omega)]
    have hno : ¬ (onD A D k ∧ m ≤ rowv A L R D k) → Rr (iI (hidN A L R D m k : Int), iI ((k : Int) + 1), M) := fun z => hRr _ (by rw [show hidN A L R D m (k + 1) = hidN A L R D m k from cntP_f (by rw [decide_eq_true_eq]; exact z)]; rfl)
    refine s_X5_isOn hP hO hk1 (by omega) (fun c => z1 (s_X5_rowAt hP hW hO hM hR d1 d2 hk1 ?_)) (fun c => z0 ?_)
    · refine s_if (fun q => ?_) (fun q => ?_)
      · have q := (iI_lt (by omega) (by omega) (by omega) (by omega)).mp q
        refine s_bI (s_bI ?_)
        rw [Int.add_zero]
        exact hno (fun z => by omega)
      · have q : ¬ rowv A L R D k < m := fun z => q ((iI_lt (by omega) (by omega) (by omega) (by omega)).mpr z)
        refine s_bI (s_bI (hRr _ ?_))
        rw [show hidN A L R D m (k + 1) = hidN A L R D m k + 1 from cntP_t (by rw [decide_eq_true_eq]; exact ⟨c, by omega⟩)]
        rfl
    · refine s_bI (s_bI ?_)
      rw [Int.add_zero]
      exact hno (fun z => c z.1)
  · rintro Rr x rfl
    unfold w_X5_hiddenOn_L13
    dsimp only
    refine s_pg hP (j := 4) (by decide) rfl ?_
    simp only [lm1_, lm2_, lm3_, lm9_, lm10_, lm999_, lm1000_, l0_, l1_, l2_, l3_, l4_, l5_, l6_, l7_, l8_, l9_, l10_, l11_, l12_, l13_, l23_, l24_, l30_, l31_, l33_, l35_, l41_, l42_, l45_, l48_, l57_, l58_, l59_, l60_, l64_, l96_, l99_, l100_, l101_, l126_, l168_, l808_, l909_, l999_, l1439_, iI_add, iI_sub, iI_mul, iI_neg]
    rw [if_pos ((iI_le (by omega) (by omega) (by omega) (by omega)).mpr (by omega))]
    exact h
end MH
