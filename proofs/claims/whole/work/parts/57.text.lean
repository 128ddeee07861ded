/-! what is typed: x j for j < k -/
def Tc (M : Mm) (x : Nat → Int) (k : Nat) : Prop := k ≤ 100 ∧ M 3 0 1 = iI k ∧ ∀ j, j < k → M 4 0 j = iI (x j)
def Tr (M : Mm) (x : Nat → Int) (k : Nat) : Prop := k ≤ 100 ∧ M 17 0 3 = iI k ∧ ∀ j, j < k → M 19 0 j = iI (x j)
/-- characters that can be typed -/
def Tb (x : Nat → Int) (k : Nat) : Prop := ∀ j, j < k → 33 ≤ x j ∧ x j ≤ 126
def tyx (x : Nat → Int) (k : Nat) (a : Int) : Nat → Int := fun j => if j = k then a else x j
theorem Tb.ty {x : Nat → Int} {k : Nat} (h : Tb x k) {a : Int} (ha : 33 ≤ a ∧ a ≤ 126) : Tb (tyx x k a) (k + 1) := fun j hj => by
  unfold tyx
  by_cases q : j = k
  · rw [if_pos q]; exact ha
  · rw [if_neg q]; exact h j (by omega)
section TXT
variable {M : Mm} {x : Nat → Int} {k : Nat} {Q : Int32 → Mm → Prop}
theorem s_X4_type (hT : Tc M x k) {a : Int} (ha : i32 a) (h1 : 33 ≤ a ∧ a ≤ 126 → k < 100 → ∀ M', Tc M' (tyx x k a) (k + 1) → sx (fun c i => (c = 3 ∨ c = 4) ∧ i = 0) M M' → Q (iI ((k : Int) + 1)) M') (h3 : 33 ≤ a ∧ a ≤ 126 → k = 100 → Q (iI (-3)) M) (h0 : ¬ (33 ≤ a ∧ a ≤ 126) → Q (iI (-1)) M) : w_X4_type M (iI a) Q := by
  obtain ⟨g1, g2, g3⟩ := hT
  unfold w_X4_type
  simp only [lm1_, lm2_, lm3_, lm9_, lm10_, lm999_, lm1000_, l0_, l1_, l2_, l3_, l4_, l5_, l6_, l7_, l8_, l9_, l10_, l11_, l12_, l13_, l23_, l24_, l30_, l31_, l33_, l35_, l41_, l42_, l45_, l48_, l57_, l58_, l59_, l60_, l64_, l96_, l99_, l100_, l101_, l126_, l168_, l808_, l909_, l999_, l1439_, iI_add, iI_sub, iI_mul, iI_neg]
  refine s_X4_isWithin ha (by omega) (by omega) (fun c1 => z1 ?_) (fun c1 => z0 (h0 c1))
  rw [g2]
  refine s_if (fun q => ?_) (fun q => ?_)
  · have q := (iI_lt (by omega) (by omega) (by omega) (by omega)).mp q
    unfold w_X3_append
    rw [g2]
    simp only [lm1_, lm2_, lm3_, lm9_, lm10_, lm999_, lm1000_, l0_, l1_, l2_, l3_, l4_, l5_, l6_, l7_, l8_, l9_, l10_, l11_, l12_, l13_, l23_, l24_, l30_, l31_, l33_, l35_, l41_, l42_, l45_, l48_, l57_, l58_, l59_, l60_, l64_, l96_, l99_, l100_, l101_, l126_, l168_, l808_, l909_, l999_, l1439_, iI_add, iI_sub, iI_mul, iI_neg]
    rw [if_neg (fun z => by have := (iI_le (by omega) (by omega) (by omega) (by omega)).mp z; omega)]
    refine s_stN (by omega) (by decide) ?_
    rw [show st M 4 0 k (iI a) 3 0 1 = iI k by rw [st_ne _ _ (by omega)]; exact g2]
    simp only [lm1_, lm2_, lm3_, lm9_, lm10_, lm999_, lm1000_, l0_, l1_, l2_, l3_, l4_, l5_, l6_, l7_, l8_, l9_, l10_, l11_, l12_, l13_, l23_, l24_, l30_, l31_, l33_, l35_, l41_, l42_, l45_, l48_, l57_, l58_, l59_, l60_, l64_, l96_, l99_, l100_, l101_, l126_, l168_, l808_, l909_, l999_, l1439_, iI_add, iI_sub, iI_mul, iI_neg]
    refine s_stF ?_
    rw [st_s]
    refine h1 c1 (by omega) _ ⟨by omega, by rw [st_s]; rfl, fun j hj => ?_⟩ (sx_st (sx_st sx_rf ⟨Or.inr rfl, rfl⟩) ⟨Or.inl rfl, rfl⟩)
    rw [st_ne _ _ (by omega), tyx]
    by_cases hjk : j = k
    · rw [if_pos hjk, hjk, st_s]
    · rw [if_neg hjk, st_d hjk]
      exact g3 j (by omega)
  · have q : ¬ (k : Int) < 100 := fun z => q ((iI_lt (by omega) (by omega) (by omega) (by omega)).mpr z)
    exact h3 c1 (by omega)
theorem s_X5_type (hT : Tr M x k) {a : Int} (ha : i32 a) (h1 : 33 ≤ a ∧ a ≤ 126 → k < 100 → ∀ M', Tr M' (tyx x k a) (k + 1) → sx (fun c i => (c = 17 ∨ c = 19) ∧ i = 0) M M' → (∀ j, j ≠ 3 → M' 17 0 j = M 17 0 j) → Q (iI ((k : Int) + 1)) M') (h3 : 33 ≤ a ∧ a ≤ 126 → k = 100 → Q (iI (-3)) M) (h0 : ¬ (33 ≤ a ∧ a ≤ 126) → Q (iI (-1)) M) : w_X5_type M (iI a) Q := by
  obtain ⟨g1, g2, g3⟩ := hT
  unfold w_X5_type
  simp only [lm1_, lm2_, lm3_, lm9_, lm10_, lm999_, lm1000_, l0_, l1_, l2_, l3_, l4_, l5_, l6_, l7_, l8_, l9_, l10_, l11_, l12_, l13_, l23_, l24_, l30_, l31_, l33_, l35_, l41_, l42_, l45_, l48_, l57_, l58_, l59_, l60_, l64_, l96_, l99_, l100_, l101_, l126_, l168_, l808_, l909_, l999_, l1439_, iI_add, iI_sub, iI_mul, iI_neg]
  refine s_X5_in ha (by omega) (by omega) (fun c1 => z1 ?_) (fun c1 => z0 (h0 c1))
  rw [g2]
  refine s_if (fun q => ?_) (fun q => ?_)
  · have q := (iI_eq (by omega) (by omega) (by omega) (by omega)).mp q
    exact h3 c1 (by omega)
  · have q : ¬ (k : Int) = 100 := fun z => q (by rw [z])
    refine s_stN (by omega) (by decide) ?_
    rw [show st M 19 0 k (iI a) 17 0 3 = iI k by rw [st_ne _ _ (by omega)]; exact g2]
    simp only [lm1_, lm2_, lm3_, lm9_, lm10_, lm999_, lm1000_, l0_, l1_, l2_, l3_, l4_, l5_, l6_, l7_, l8_, l9_, l10_, l11_, l12_, l13_, l23_, l24_, l30_, l31_, l33_, l35_, l41_, l42_, l45_, l48_, l57_, l58_, l59_, l60_, l64_, l96_, l99_, l100_, l101_, l126_, l168_, l808_, l909_, l999_, l1439_, iI_add, iI_sub, iI_mul, iI_neg]
    refine s_stF ?_
    rw [st_s]
    refine h1 c1 (by omega) _ ⟨by omega, by rw [st_s]; rfl, fun j hj => ?_⟩ (sx_st (sx_st sx_rf ⟨Or.inr rfl, rfl⟩) ⟨Or.inl rfl, rfl⟩) (fun j hj => by rw [st_d hj, st_ne _ _ (by omega)])
    rw [st_ne _ _ (by omega), tyx]
    by_cases hjk : j = k
    · rw [if_pos hjk, hjk, st_s]
    · rw [if_neg hjk, st_d hjk]
      exact g3 j (by omega)
theorem s_X4_clear (hT : Tc M x k) (h : ∀ M', Tc M' x 0 → sx (fun c i => c = 3 ∧ i = 0) M M' → Q (iI k) M') : w_X4_clear M Q := by
  unfold w_X4_clear
  rw [hT.2.1]
  simp only [lm1_, lm2_, lm3_, lm9_, lm10_, lm999_, lm1000_, l0_, l1_, l2_, l3_, l4_, l5_, l6_, l7_, l8_, l9_, l10_, l11_, l12_, l13_, l23_, l24_, l30_, l31_, l33_, l35_, l41_, l42_, l45_, l48_, l57_, l58_, l59_, l60_, l64_, l96_, l99_, l100_, l101_, l126_, l168_, l808_, l909_, l999_, l1439_, iI_add, iI_sub, iI_mul, iI_neg]
  exact s_bI (s_stF (h _ ⟨by omega, st_s, fun j hj => absurd hj (Nat.not_lt_zero _)⟩ (sx_st sx_rf ⟨rfl, rfl⟩)))
theorem s_X5_clear (hT : Tr M x k) (h : ∀ M', Tr M' x 0 → sx (fun c i => c = 17 ∧ i = 0) M M' → (∀ j, j ≠ 3 → M' 17 0 j = M 17 0 j) → Q (iI k) M') : w_X5_clear M Q := by
  unfold w_X5_clear
  rw [hT.2.1]
  simp only [lm1_, lm2_, lm3_, lm9_, lm10_, lm999_, lm1000_, l0_, l1_, l2_, l3_, l4_, l5_, l6_, l7_, l8_, l9_, l10_, l11_, l12_, l13_, l23_, l24_, l30_, l31_, l33_, l35_, l41_, l42_, l45_, l48_, l57_, l58_, l59_, l60_, l64_, l96_, l99_, l100_, l101_, l126_, l168_, l808_, l909_, l999_, l1439_, iI_add, iI_sub, iI_mul, iI_neg]
  exact s_bI (s_stF (h _ ⟨by omega, st_s, fun j hj => absurd hj (Nat.not_lt_zero _)⟩ (sx_st sx_rf ⟨rfl, rfl⟩) (fun j hj => st_d hj)))
end TXT
