/-- its rows, in the memory -/
def Rm (M : Mm) (R : Nat → Int) : Prop := ∀ e, e < 24 → M 21 0 e = iI (R e)
theorem Lmm.sx {P : Nat → Nat → Prop} {M M' : Mm} {L : Nat → Nat → Int} (h : Lmm M L) (hs : sx P M M') (hn : ¬ P 20 0) : Lmm M' L := by
  have := hs 20 0 hn
  unfold Lmm at h ⊢
  rw [this]
  exact h
theorem pigf {f : Nat → Int} {e : Nat} {P : Nat → Prop} (he : e < 24) (h : ∀ r : Nat, r < 24 → P r → ∃ x : Nat, x < 24 ∧ x ≠ e ∧ f x = (r : Int)) : ∃ r : Nat, r < 24 ∧ ¬ P r := by
  refine Classical.byContradiction fun hno => ?_
  have hall : ∀ r : Nat, r < 24 → ∃ x : Nat, x < 24 ∧ x ≠ e ∧ f x = (r : Int) := fun r hr => h r hr (Classical.byContradiction fun z => hno ⟨r, hr, z⟩)
  have hp := pig 24 25 (fun r => if h : r < 24 then Classical.choose (hall r h) else e) (fun i hi => by
    split
    · rename_i h
      exact (Classical.choose_spec (hall i h)).1
    · omega) (fun i j hi hj hij => by
    by_cases h1 : i < 24
    · rw [dif_pos h1] at hij
      have c1 := Classical.choose_spec (hall i h1)
      by_cases h2 : j < 24
      · rw [dif_pos h2] at hij
        have c2 := Classical.choose_spec (hall j h2)
        rw [← hij] at c2
        have := c1.2.2.symm.trans c2.2.2
        omega
      · rw [dif_neg h2] at hij
        exact absurd hij c1.2.1
    · rw [dif_neg h1] at hij
      by_cases h2 : j < 24
      · rw [dif_pos h2] at hij
        have c2 := Classical.choose_spec (hall j h2)
        exact absurd hij.symm c2.2.1
      · omega)
  omega
/-- the row of an entry on a day -/
def rowv (A : Ab) (L : Nat → Nat → Int) (R : Nat → Int) (D : Int) (o : Nat) : Int := if lng A o then L o (wk A D).toNat else R o
abbrev tk1 (A : Ab) (L : Nat → Nat → Int) (R : Nat → Int) (D r : Int) (o : Nat) : Prop := (A 1 o ≤ D ∧ D ≤ A 2 o) ∧ rowv A L R D o = r
def tkm (A : Ab) (L : Nat → Nat → Int) (R : Nat → Int) (D r : Int) : Prop := ∃ o : Nat, (o : Int) < A 0 4 ∧ tk1 A L R D r o
section MD
variable {M : Mm} {A : Ab} {L : Nat → Nat → Int} {R : Nat → Int} {D : Int}
theorem rowv_b (hb : Lbd L) (hR : Rbd R) (o : Nat) : (rowv A L R D o = -9 ∨ 0 ≤ rowv A L R D o) ∧ rowv A L R D o < 24 := by
  unfold rowv
  split
  · exact hb _ _
  · exact hR _
theorem s_X5_isShortOn {Q : Int32 → Mm → Prop} (hP : Pm M 0 A) (hO : Ok A) {e : Nat} (he : (e : Int) < A 0 4) (hD : i32 D) (h1 : ¬ lng A e ∧ A 1 e = D → Q (iI 1) M) (h0 : ¬ (¬ lng A e ∧ A 1 e = D) → Q (iI 0) M) : w_X5_isShortOn M (iI e) (iI D) Q := by
  have oe := hO.e he
  unfold w_X5_isShortOn
  simp only [lm1_, lm2_, lm3_, lm9_, lm10_, lm999_, lm1000_, l0_, l1_, l2_, l3_, l4_, l5_, l6_, l7_, l8_, l9_, l10_, l11_, l12_, l13_, l23_, l24_, l30_, l31_, l33_, l35_, l41_, l42_, l45_, l48_, l57_, l58_, l59_, l60_, l64_, l96_, l99_, l100_, l101_, l126_, l168_, l808_, l909_, l999_, l1439_, iI_add, iI_sub, iI_mul, iI_neg]
  refine s_X5_isLong hP hO he (fun c => z1 (h0 (fun z => z.1 c))) (fun c => z0 (s_X5_begins hP hO he ?_))
  simp (disch := omega) only [lm1_, lm2_, lm3_, lm9_, lm10_, lm999_, lm1000_, l0_, l1_, l2_, l3_, l4_, l5_, l6_, l7_, l8_, l9_, l10_, l11_, l12_, l13_, l23_, l24_, l30_, l31_, l33_, l35_, l41_, l42_, l45_, l48_, l57_, l58_, l59_, l60_, l64_, l96_, l99_, l100_, l101_, l126_, l168_, l808_, l909_, l999_, l1439_, iI_add, iI_sub, iI_mul, iI_neg, iI_rem, iI_lt, iI_le, iI_eq, vp_iI, cl_iI, Int.toNat_natCast]
  exact s_if (fun q => h1 ⟨c, q⟩) (fun q => h0 (fun z => q z.2))
theorem s_X5_rowAt {Q : Int32 → Mm → Prop} (hP : Pm M 0 A) (hW : Wm M A) (hO : Ok A) (hM : Lmm M L) (hR : Rm M R) (h1 : A 0 0 ≤ D) (h2 : D ≤ A 0 1) {e : Nat} (he : (e : Int) < A 0 4) (h : Q (iI (rowv A L R D e)) M) : w_X5_rowAt M (iI e) (iI D) Q := by
  have ob := hO.b
  have hn := nW_b hO
  have hb := wk_b hO h1 h2
  unfold w_X5_rowAt
  simp only [lm1_, lm2_, lm3_, lm9_, lm10_, lm999_, lm1000_, l0_, l1_, l2_, l3_, l4_, l5_, l6_, l7_, l8_, l9_, l10_, l11_, l12_, l13_, l23_, l24_, l30_, l31_, l33_, l35_, l41_, l42_, l45_, l48_, l57_, l58_, l59_, l60_, l64_, l96_, l99_, l100_, l101_, l126_, l168_, l808_, l909_, l999_, l1439_, iI_add, iI_sub, iI_mul, iI_neg]
  refine s_X5_isLong hP hO he (fun c => z1 (s_X5_weekAt hW hO h1 h2 ?_)) (fun c => z0 (s_ldN (by omega) (by decide) ?_))
  · rw [rowv, if_pos c] at h
    rw [← Int.toNat_of_nonneg hb.1]
    simp only [lm1_, lm2_, lm3_, lm9_, lm10_, lm999_, lm1000_, l0_, l1_, l2_, l3_, l4_, l5_, l6_, l7_, l8_, l9_, l10_, l11_, l12_, l13_, l23_, l24_, l30_, l31_, l33_, l35_, l41_, l42_, l45_, l48_, l57_, l58_, l59_, l60_, l64_, l96_, l99_, l100_, l101_, l126_, l168_, l808_, l909_, l999_, l1439_, iI_add, iI_sub, iI_mul, iI_neg]
    exact s_lm hM (by omega) (by omega) h
  · rw [rowv, if_neg c] at h
    rw [hR e (by omega)]
    exact h
theorem s_X5_isTaken {Q : Int32 → Mm → Prop} (hP : Pm M 0 A) (hW : Wm M A) (hO : Ok A) (hM : Lmm M L) (hR : Rm M R) (hLb : Lbd L) (hRb : Rbd R) (d1 : A 0 0 ≤ D) (d2 : D ≤ A 0 1) {r : Int} (hr : i32 r) (h1 : tkm A L R D r → Q (iI 1) M) (h0 : ¬ tkm A L R D r → Q (iI 0) M) : w_X5_isTaken M (iI D) (iI r) Q := by
  have ob := hO.b
  unfold w_X5_isTaken
  refine loop_up (fun k x => ∃ b : Int, x = (iI b, iI k, M) ∧ ((b = 0 ∧ ¬ ∃ o, o < k ∧ tk1 A L R D r o) ∨ (b = 1 ∧ ∃ o, o < k ∧ tk1 A L R D r o))) (A 0 4).toNat ?_ ?_ (Nat.zero_le _) ⟨0, rfl, Or.inl ⟨rfl, fun ⟨o, q, _⟩ => absurd q (Nat.not_lt_zero _)⟩⟩
  · rintro Rr k x hk ⟨b, rfl, hI⟩ hRr
    have hk1 : (k : Int) < A 0 4 := by omega
    have ok := hO.e hk1
    have hrb := rowv_b (A := A) (D := D) hLb hRb k
    unfold w_X5_isTaken_L5
    dsimp only
    refine s_pg hP (j := 4) (by decide) rfl ?_
    simp (disch := omega) only [lm1_, lm2_, lm3_, lm9_, lm10_, lm999_, lm1000_, l0_, l1_, l2_, l3_, l4_, l5_, l6_, l7_, l8_, l9_, l10_, l11_, l12_, l13_, l23_, l24_, l30_, l31_, l33_, l35_, l41_, l42_, l45_, l48_, l57_, l58_, l59_, l60_, l64_, l96_, l99_, l100_, l101_, l126_, l168_, l808_, l909_, l999_, l1439_, iI_add, iI_sub, iI_mul, iI_neg, iI_rem, iI_lt, iI_le, iI_eq, vp_iI, cl_iI, Int.toNat_natCast]
    rw [if_neg (by omega)]
    rcases hI with ⟨hb, hI⟩ | ⟨hb, hI⟩
    · have hno : ¬ tk1 A L R D r k → Rr (iI 0, iI ((k : Int) + 1), M) := by
        intro hf
        refine hRr _ ⟨0, rfl, Or.inl ⟨rfl, fun ⟨o, q1, q2⟩ => ?_⟩⟩
        by_cases hok : o = k
        · rw [hok] at q2
          exact hf q2
        · exact hI ⟨o, by omega, q2⟩
      rw [if_pos hb]
      refine (s_X5_isOn hP hO hk1 (by omega) (fun c => z1 (s_X5_rowAt hP hW hO hM hR d1 d2 hk1 ?_)) (fun c => z0 (hno (fun z => c z.1))))
      simp (disch := omega) only [lm1_, lm2_, lm3_, lm9_, lm10_, lm999_, lm1000_, l0_, l1_, l2_, l3_, l4_, l5_, l6_, l7_, l8_, l9_, l10_, l11_, l12_, l13_, l23_, l24_, l30_, l31_, l33_, l35_, l41_, l42_, l45_, l48_, l57_, l58_, l59_, l60_, l64_, l96_, l99_, l100_, l101_, l126_, l168_, l808_, l909_, l999_, l1439_, iI_add, iI_sub, iI_mul, iI_neg, iI_rem, iI_lt, iI_le, iI_eq, vp_iI, cl_iI, Int.toNat_natCast]
      exact s_if (fun q => hRr _ ⟨1, rfl, Or.inr ⟨rfl, k, by omega, c, q⟩⟩) (fun q => hno (fun z => q z.2))
    · rw [if_neg (by omega)]
      obtain ⟨o, q1, q2⟩ := hI
      exact (hRr _ ⟨1, rfl, Or.inr ⟨rfl, o, by omega, q2⟩⟩)
  · rintro Rr x ⟨b, rfl, hI⟩
    unfold w_X5_isTaken_L5
    dsimp only
    refine s_pg hP (j := 4) (by decide) rfl ?_
    simp (disch := omega) only [lm1_, lm2_, lm3_, lm9_, lm10_, lm999_, lm1000_, l0_, l1_, l2_, l3_, l4_, l5_, l6_, l7_, l8_, l9_, l10_, l11_, l12_, l13_, l23_, l24_, l30_, l31_, l33_, l35_, l41_, l42_, l45_, l48_, l57_, l58_, l59_, l60_, l64_, l96_, l99_, l100_, l101_, l126_, l168_, l808_, l909_, l999_, l1439_, iI_add, iI_sub, iI_mul, iI_neg, iI_rem, iI_lt, iI_le, iI_eq, vp_iI, cl_iI, Int.toNat_natCast]
    rw [if_pos (by omega)]
    rcases hI with ⟨hb, hI⟩ | ⟨hb, hI⟩
    · rw [hb]
      exact ⟨bz0, h0 (fun ⟨o, q1, q2⟩ => hI ⟨o, by omega, q2⟩)⟩
    · rw [hb]
      obtain ⟨o, q1, q2⟩ := hI
      exact ⟨bz1, h1 ⟨o, by omega, q2⟩⟩
end MD
