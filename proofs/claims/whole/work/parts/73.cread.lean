/-! the class reads a text -/
abbrev tx : Nat → Nat → Prop := fun c i => c = 3 ∧ i = 0
/-- it reads at p -/
def Ta (M : Mm) (x : Nat → Int) (k p : Nat) : Prop := Tc M x k ∧ M 3 0 2 = iI p ∧ M 3 0 3 = iI (-1)
/-- it has found the fault f -/
def Tf (M : Mm) (x : Nat → Int) (k f : Nat) : Prop := Tc M x k ∧ M 3 0 3 = iI f
section CR
variable {M : Mm} {x : Nat → Int} {k p f : Nat} {Q : Int32 → Mm → Prop}
theorem Tc.at (h : Tc M x k) {j : Nat} (hj : j ≠ 1) {v : Int32} : Tc (st M 3 0 j v) x k := ⟨h.1, by rw [st_d (fun z => hj z.symm)]; exact h.2.1, fun i hi => by rw [st_ne _ _ (by omega)]; exact h.2.2 i hi⟩
theorem Ta.ad (h : Ta M x k p) {q : Nat} : Ta (st M 3 0 2 (iI q)) x k q := ⟨h.1.at (by decide), st_s, by rw [st_d (by decide)]; exact h.2.2⟩
theorem Ta.flt (h : Ta M x k p) {q : Nat} : Tf (st M 3 0 3 (iI q)) x k q := ⟨h.1.at (by decide), st_s⟩
theorem s_X3_isAtDigit (hT : Ta M x k p) (hb : Tb x k) (hp : p ≤ k) (h1 : dgt x k p → Q (iI 1) M) (h0 : ¬ dgt x k p → Q (iI 0) M) : w_X3_isAtDigit M Q := by
  obtain ⟨⟨g1, g2, g3⟩, g4, g5⟩ := hT
  unfold w_X3_isAtDigit
  rw [g5, g2, g4]
  simp only [lm1_, lm2_, lm3_, lm9_, lm10_, lm999_, lm1000_, l0_, l1_, l2_, l3_, l4_, l5_, l6_, l7_, l8_, l9_, l10_, l11_, l12_, l13_, l23_, l24_, l30_, l31_, l33_, l35_, l41_, l42_, l45_, l48_, l57_, l58_, l59_, l60_, l64_, l96_, l99_, l100_, l101_, l126_, l168_, l808_, l909_, l999_, l1439_, iI_add, iI_sub, iI_mul, iI_neg]
  refine s_if (fun _ => ?_) (fun q => (q (by trivial)).elim)
  refine s_if (fun q => ?_) (fun q => ?_)
  · have q := (iI_le (by omega) (by omega) (by omega) (by omega)).mp q
    exact h0 (fun z => by omega)
  · have q : ¬ (k : Int) ≤ p := fun z => q ((iI_le (by omega) (by omega) (by omega) (by omega)).mpr z)
    have hx := hb p (by omega)
    refine s_ldN (by omega) (by decide) ?_
    rw [g3 p (by omega)]
    refine s_if (fun q2 => ?_) (fun q2 => ?_)
    · have q2 := (iI_lt (by omega) (by omega) (by omega) (by omega)).mp q2
      exact h0 (fun z => by omega)
    · have q2 : ¬ x p < 48 := fun z => q2 ((iI_lt (by omega) (by omega) (by omega) (by omega)).mpr z)
      refine s_ldN (by omega) (by decide) ?_
      rw [g3 p (by omega)]
      refine s_if (fun q3 => ?_) (fun q3 => ?_)
      · have q3 := (iI_lt (by omega) (by omega) (by omega) (by omega)).mp q3
        exact h0 (fun z => by omega)
      · have q3 : ¬ 57 < x p := fun z => q3 ((iI_lt (by omega) (by omega) (by omega) (by omega)).mpr z)
        exact h1 (by omega)
theorem Tf.ne (hT : Tf M x k f) (hf : f ≤ 1000) : ¬ M 3 0 3 = iI (-1) := fun z => by
  rw [hT.2] at z
  have := (iI_eq (by omega) (by omega) (by omega) (by omega)).mp z
  omega
theorem s_X3_isAtDigit_f (hT : Tf M x k f) (hf : f ≤ 1000) (h0 : Q (iI 0) M) : w_X3_isAtDigit M Q := by
  unfold w_X3_isAtDigit
  simp only [lm1_, lm2_, lm3_, lm9_, lm10_, lm999_, lm1000_, l0_, l1_, l2_, l3_, l4_, l5_, l6_, l7_, l8_, l9_, l10_, l11_, l12_, l13_, l23_, l24_, l30_, l31_, l33_, l35_, l41_, l42_, l45_, l48_, l57_, l58_, l59_, l60_, l64_, l96_, l99_, l100_, l101_, l126_, l168_, l808_, l909_, l999_, l1439_, iI_add, iI_sub, iI_mul, iI_neg]
  rw [if_neg (hT.ne hf)]
  exact h0
theorem s_X3_refuseHere {Q : Mm → Prop} (hT : Ta M x k p) (h : ∀ M', Tf M' x k p → sx tx M M' → Q M') : w_X3_refuseHere M Q := by
  unfold w_X3_refuseHere
  rw [hT.2.2, hT.2.1]
  simp only [lm1_, lm2_, lm3_, lm9_, lm10_, lm999_, lm1000_, l0_, l1_, l2_, l3_, l4_, l5_, l6_, l7_, l8_, l9_, l10_, l11_, l12_, l13_, l23_, l24_, l30_, l31_, l33_, l35_, l41_, l42_, l45_, l48_, l57_, l58_, l59_, l60_, l64_, l96_, l99_, l100_, l101_, l126_, l168_, l808_, l909_, l999_, l1439_, iI_add, iI_sub, iI_mul, iI_neg]
  refine s_if (fun _ => s_stF (h _ hT.flt (sx_st sx_rf ⟨rfl, rfl⟩))) (fun q => (q (by trivial)).elim)
theorem s_X3_refuseHere_f {Q : Mm → Prop} (hT : Tf M x k f) (hf : f ≤ 1000) (h : Q M) : w_X3_refuseHere M Q := by
  unfold w_X3_refuseHere
  simp only [lm1_, lm2_, lm3_, lm9_, lm10_, lm999_, lm1000_, l0_, l1_, l2_, l3_, l4_, l5_, l6_, l7_, l8_, l9_, l10_, l11_, l12_, l13_, l23_, l24_, l30_, l31_, l33_, l35_, l41_, l42_, l45_, l48_, l57_, l58_, l59_, l60_, l64_, l96_, l99_, l100_, l101_, l126_, l168_, l808_, l909_, l999_, l1439_, iI_add, iI_sub, iI_mul, iI_neg]
  rw [if_neg (hT.ne hf)]
  exact h
theorem s_X3_readDigit (hT : Ta M x k p) (hb : Tb x k) (hp : p ≤ k) (h1 : dgt x k p → ∀ M', Ta M' x k (p + 1) → sx tx M M' → Q (iI (x p - 48)) M') (h0 : ¬ dgt x k p → ∀ M', Tf M' x k p → sx tx M M' → Q (iI 0) M') : w_X3_readDigit M Q := by
  have g1 := hT.1.1
  unfold w_X3_readDigit
  simp only [lm1_, lm2_, lm3_, lm9_, lm10_, lm999_, lm1000_, l0_, l1_, l2_, l3_, l4_, l5_, l6_, l7_, l8_, l9_, l10_, l11_, l12_, l13_, l23_, l24_, l30_, l31_, l33_, l35_, l41_, l42_, l45_, l48_, l57_, l58_, l59_, l60_, l64_, l96_, l99_, l100_, l101_, l126_, l168_, l808_, l909_, l999_, l1439_, iI_add, iI_sub, iI_mul, iI_neg]
  refine s_X3_isAtDigit hT hb hp (fun c => z1 ?_) (fun c => z0 (s_X3_refuseHere hT (h0 c)))
  rw [hT.2.1]
  simp only [lm1_, lm2_, lm3_, lm9_, lm10_, lm999_, lm1000_, l0_, l1_, l2_, l3_, l4_, l5_, l6_, l7_, l8_, l9_, l10_, l11_, l12_, l13_, l23_, l24_, l30_, l31_, l33_, l35_, l41_, l42_, l45_, l48_, l57_, l58_, l59_, l60_, l64_, l96_, l99_, l100_, l101_, l126_, l168_, l808_, l909_, l999_, l1439_, iI_add, iI_sub, iI_mul, iI_neg]
  rw [show (p : Int) + 1 = ((p + 1 : Nat) : Int) by omega]
  refine s_stF ?_
  have hA := hT.ad (q := p + 1)
  rw [hA.2.1]
  simp only [lm1_, lm2_, lm3_, lm9_, lm10_, lm999_, lm1000_, l0_, l1_, l2_, l3_, l4_, l5_, l6_, l7_, l8_, l9_, l10_, l11_, l12_, l13_, l23_, l24_, l30_, l31_, l33_, l35_, l41_, l42_, l45_, l48_, l57_, l58_, l59_, l60_, l64_, l96_, l99_, l100_, l101_, l126_, l168_, l808_, l909_, l999_, l1439_, iI_add, iI_sub, iI_mul, iI_neg]
  rw [show ((p + 1 : Nat) : Int) - 1 = (p : Int) by omega]
  refine s_ldN (by omega) (by decide) ?_
  rw [hA.1.2.2 p (by omega)]
  simp only [lm1_, lm2_, lm3_, lm9_, lm10_, lm999_, lm1000_, l0_, l1_, l2_, l3_, l4_, l5_, l6_, l7_, l8_, l9_, l10_, l11_, l12_, l13_, l23_, l24_, l30_, l31_, l33_, l35_, l41_, l42_, l45_, l48_, l57_, l58_, l59_, l60_, l64_, l96_, l99_, l100_, l101_, l126_, l168_, l808_, l909_, l999_, l1439_, iI_add, iI_sub, iI_mul, iI_neg]
  exact h1 c _ hA (sx_st sx_rf ⟨rfl, rfl⟩)
theorem s_X3_readDigit_f (hT : Tf M x k f) (hf : f ≤ 1000) (h0 : Q (iI 0) M) : w_X3_readDigit M Q := by
  unfold w_X3_readDigit
  simp only [lm1_, lm2_, lm3_, lm9_, lm10_, lm999_, lm1000_, l0_, l1_, l2_, l3_, l4_, l5_, l6_, l7_, l8_, l9_, l10_, l11_, l12_, l13_, l23_, l24_, l30_, l31_, l33_, l35_, l41_, l42_, l45_, l48_, l57_, l58_, l59_, l60_, l64_, l96_, l99_, l100_, l101_, l126_, l168_, l808_, l909_, l999_, l1439_, iI_add, iI_sub, iI_mul, iI_neg]
  exact s_X3_isAtDigit_f hT hf (z0 (s_X3_refuseHere_f hT hf h0))
theorem s_X3_passes (hT : Ta M x k p) (hb : Tb x k) (hp : p ≤ k) {c : Int} (hc : 0 ≤ c ∧ c ≤ 1000) (h1 : chr x k p c → ∀ M', Ta M' x k (p + 1) → sx tx M M' → Q (iI 1) M') (h0 : ¬ chr x k p c → Q (iI 0) M) : w_X3_passes M (iI c) Q := by
  obtain ⟨⟨g1, g2, g3⟩, g4, g5⟩ := id hT
  unfold w_X3_passes
  rw [g5, g2, g4]
  simp only [lm1_, lm2_, lm3_, lm9_, lm10_, lm999_, lm1000_, l0_, l1_, l2_, l3_, l4_, l5_, l6_, l7_, l8_, l9_, l10_, l11_, l12_, l13_, l23_, l24_, l30_, l31_, l33_, l35_, l41_, l42_, l45_, l48_, l57_, l58_, l59_, l60_, l64_, l96_, l99_, l100_, l101_, l126_, l168_, l808_, l909_, l999_, l1439_, iI_add, iI_sub, iI_mul, iI_neg]
  refine s_letJ (fun v => v = iI 1 ∧ chr x k p c ∨ v = iI 0 ∧ ¬ chr x k p c) (fun J hJ => ?_) ?_
  · refine s_letJ (fun _ => ¬ chr x k p c) (fun J2 hJ2 => ?_) (fun _ hm => hJ _ (Or.inr ⟨rfl, hm⟩))
    refine s_if (fun _ => ?_) (fun q => (q (by trivial)).elim)
    refine s_if (fun q => ?_) (fun q => ?_)
    · have q := (iI_le (by omega) (by omega) (by omega) (by omega)).mp q
      exact hJ2 _ (fun z => by omega)
    · have q : ¬ (k : Int) ≤ p := fun z => q ((iI_le (by omega) (by omega) (by omega) (by omega)).mpr z)
      have hx := hb p (by omega)
      refine s_ldN (by omega) (by decide) ?_
      rw [g3 p (by omega)]
      refine s_if (fun q2 => ?_) (fun q2 => ?_)
      · have q2 := (iI_eq (by omega) (by omega) (by omega) (by omega)).mp q2
        exact hJ _ (Or.inl ⟨rfl, by omega, q2⟩)
      · exact hJ2 _ (fun z => q2 (by rw [z.2]))
  · rintro v (⟨rfl, hc1⟩ | ⟨rfl, hc1⟩)
    · refine z1 (s_stF ?_)
      rw [show (p : Int) + 1 = ((p + 1 : Nat) : Int) by omega]
      exact ⟨bz1, h1 hc1 _ hT.ad (sx_st sx_rf ⟨rfl, rfl⟩)⟩
    · exact z0 ⟨bz0, h0 hc1⟩
theorem s_X3_passes_f (hT : Tf M x k f) (hf : f ≤ 1000) {c : Int32} (h0 : Q (iI 0) M) : w_X3_passes M c Q := by
  unfold w_X3_passes
  simp only [lm1_, lm2_, lm3_, lm9_, lm10_, lm999_, lm1000_, l0_, l1_, l2_, l3_, l4_, l5_, l6_, l7_, l8_, l9_, l10_, l11_, l12_, l13_, l23_, l24_, l30_, l31_, l33_, l35_, l41_, l42_, l45_, l48_, l57_, l58_, l59_, l60_, l64_, l96_, l99_, l100_, l101_, l126_, l168_, l808_, l909_, l999_, l1439_, iI_add, iI_sub, iI_mul, iI_neg]
  refine s_letV (iI 0) (fun J hJ => ?_) (z0 ⟨bz0, h0⟩)
  refine s_letV () (fun J2 hJ2 => ?_) hJ
  rw [if_neg (hT.ne hf)]
  exact hJ2
theorem s_X3_refuse0 {Q : Mm → Prop} (h : Q M) : w_X3_refuseLastDigitIf M (iI 0) Q := by
  unfold w_X3_refuseLastDigitIf
  exact z0 h
theorem s_X3_refuse1 {Q : Mm → Prop} (hT : Ta M x k p) (hp : 1 ≤ p) (h : ∀ M', Tf M' x k (p - 1) → sx tx M M' → Q M') : w_X3_refuseLastDigitIf M (iI 1) Q := by
  unfold w_X3_refuseLastDigitIf
  rw [hT.2.2, hT.2.1]
  simp only [lm1_, lm2_, lm3_, lm9_, lm10_, lm999_, lm1000_, l0_, l1_, l2_, l3_, l4_, l5_, l6_, l7_, l8_, l9_, l10_, l11_, l12_, l13_, l23_, l24_, l30_, l31_, l33_, l35_, l41_, l42_, l45_, l48_, l57_, l58_, l59_, l60_, l64_, l96_, l99_, l100_, l101_, l126_, l168_, l808_, l909_, l999_, l1439_, iI_add, iI_sub, iI_mul, iI_neg]
  refine z1 (s_if (fun _ => s_stF ?_) (fun q => (q (by trivial)).elim))
  rw [show (p : Int) - 1 = ((p - 1 : Nat) : Int) by omega]
  exact h _ hT.flt (sx_st sx_rf ⟨rfl, rfl⟩)
theorem s_X3_refuse_f {Q : Mm → Prop} (hT : Tf M x k f) (hf : f ≤ 1000) {v : Int32} (h : Q M) : w_X3_refuseLastDigitIf M v Q := by
  unfold w_X3_refuseLastDigitIf
  simp only [lm1_, lm2_, lm3_, lm9_, lm10_, lm999_, lm1000_, l0_, l1_, l2_, l3_, l4_, l5_, l6_, l7_, l8_, l9_, l10_, l11_, l12_, l13_, l23_, l24_, l30_, l31_, l33_, l35_, l41_, l42_, l45_, l48_, l57_, l58_, l59_, l60_, l64_, l96_, l99_, l100_, l101_, l126_, l168_, l808_, l909_, l999_, l1439_, iI_add, iI_sub, iI_mul, iI_neg]
  rw [if_neg (hT.ne hf)]
  split <;> exact h
theorem s_X3_require {Q : Mm → Prop} (hT : Ta M x k p) (hb : Tb x k) (hp : p ≤ k) {c : Int} (hc : 0 ≤ c ∧ c ≤ 1000) (h1 : chr x k p c → ∀ M', Ta M' x k (p + 1) → sx tx M M' → Q M') (h0 : ¬ chr x k p c → ∀ M', Tf M' x k p → sx tx M M' → Q M') : w_X3_require M (iI c) Q := by
  unfold w_X3_require
  simp only [lm1_, lm2_, lm3_, lm9_, lm10_, lm999_, lm1000_, l0_, l1_, l2_, l3_, l4_, l5_, l6_, l7_, l8_, l9_, l10_, l11_, l12_, l13_, l23_, l24_, l30_, l31_, l33_, l35_, l41_, l42_, l45_, l48_, l57_, l58_, l59_, l60_, l64_, l96_, l99_, l100_, l101_, l126_, l168_, l808_, l909_, l999_, l1439_, iI_add, iI_sub, iI_mul, iI_neg]
  exact s_X3_passes hT hb hp hc (fun q M' a1 a2 => z1 (h1 q M' a1 a2)) (fun q => z0 (s_X3_refuseHere hT (h0 q)))
theorem s_X3_require_f {Q : Mm → Prop} (hT : Tf M x k f) (hf : f ≤ 1000) {c : Int32} (h : Q M) : w_X3_require M c Q := by
  unfold w_X3_require
  simp only [lm1_, lm2_, lm3_, lm9_, lm10_, lm999_, lm1000_, l0_, l1_, l2_, l3_, l4_, l5_, l6_, l7_, l8_, l9_, l10_, l11_, l12_, l13_, l23_, l24_, l30_, l31_, l33_, l35_, l41_, l42_, l45_, l48_, l57_, l58_, l59_, l60_, l64_, l96_, l99_, l100_, l101_, l126_, l168_, l808_, l909_, l999_, l1439_, iI_add, iI_sub, iI_mul, iI_neg]
  exact s_X3_passes_f hT hf (z0 (s_X3_refuseHere_f hT hf h))
theorem tx_tr {M M' M'' : Mm} (h : sx tx M M') (h' : sx tx M' M'') : sx tx M M'' := fun c i hci => (h' c i hci).trans (h c i hci)
theorem s_X3_readTwo (hT : Ta M x k p) (hb : Tb x k) (hp : p ≤ k) {m : Int} (hm : 0 ≤ m ∧ m ≤ 1000) (h1 : ∀ v q, pTwo x k p m = .inr (v, q) → ∀ M', Ta M' x k q → sx tx M M' → Q (iI v) M') (h0 : ∀ f, pTwo x k p m = .inl f → ∀ v M', Tf M' x k f → sx tx M M' → Q v M') : w_X3_readTwoDigits M (iI m) Q := by
  have gk := hT.1.1
  unfold w_X3_readTwoDigits
  simp only [lm1_, lm2_, lm3_, lm9_, lm10_, lm999_, lm1000_, l0_, l1_, l2_, l3_, l4_, l5_, l6_, l7_, l8_, l9_, l10_, l11_, l12_, l13_, l23_, l24_, l30_, l31_, l33_, l35_, l41_, l42_, l45_, l48_, l57_, l58_, l59_, l60_, l64_, l96_, l99_, l100_, l101_, l126_, l168_, l808_, l909_, l999_, l1439_, iI_add, iI_sub, iI_mul, iI_neg]
  refine s_X3_readDigit hT hb hp (fun c1 M1 a1 a2 => ?_) (fun c1 M1 a1 a2 => ?_)
  · refine s_X3_readDigit a1 hb (by omega) (fun c2 M2 b1 b2 => ?_) (fun c2 M2 b1 b2 => ?_)
    · have e : 10 * (x p - 48) + (x (p + 1) - 48) = dv x p 2 := dv_2.symm
      have eb : 0 ≤ dv x p 2 ∧ dv x p 2 ≤ 99 := by rw [dv_2]; omega
      simp only [lm1_, lm2_, lm3_, lm9_, lm10_, lm999_, lm1000_, l0_, l1_, l2_, l3_, l4_, l5_, l6_, l7_, l8_, l9_, l10_, l11_, l12_, l13_, l23_, l24_, l30_, l31_, l33_, l35_, l41_, l42_, l45_, l48_, l57_, l58_, l59_, l60_, l64_, l96_, l99_, l100_, l101_, l126_, l168_, l808_, l909_, l999_, l1439_, iI_add, iI_sub, iI_mul, iI_neg]
      rw [e]
      refine s_bI ?_
      by_cases c : m < dv x p 2
      · have hp2 : pTwo x k p m = .inl (p + 1) := by
          unfold pTwo
          rw [if_neg (fun z => z c1), if_neg (fun z => z c2), if_pos c]
        refine s_letV (iI 1) (fun J hJ => ?_) (s_X3_refuse1 b1 (by omega) (fun M3 d1 d2 => h0 _ hp2 _ M3 d1 (tx_tr a2 (tx_tr b2 d2))))
        rw [if_neg (fun z => by have := (iI_le (by omega) (by omega) (by omega) (by omega)).mp z; omega)]
        exact hJ
      · have hp2 : pTwo x k p m = .inr (dv x p 2, p + 2) := by
          unfold pTwo
          rw [if_neg (fun z => z c1), if_neg (fun z => z c2), if_neg c]
        refine s_letV (iI 0) (fun J hJ => ?_) (s_X3_refuse0 (h1 _ _ hp2 M2 b1 (tx_tr a2 b2)))
        rw [if_pos ((iI_le (by omega) (by omega) (by omega) (by omega)).mpr (by omega))]
        exact hJ
    · have hp2 : pTwo x k p m = .inl (p + 1) := by
        unfold pTwo
        rw [if_neg (fun z => z c1), if_pos c2]
      refine s_bI ?_
      refine s_letJ (fun _ => True) (fun J hJ => ?_) (fun v _ => s_X3_refuse_f b1 (by omega) (h0 _ hp2 _ M2 b1 (tx_tr a2 b2)))
      exact s_if (fun _ => hJ _ trivial) (fun _ => hJ _ trivial)
  · have hp2 : pTwo x k p m = .inl p := if_pos c1
    refine s_X3_readDigit_f a1 (by omega) (s_bI ?_)
    refine s_letJ (fun _ => True) (fun J hJ => ?_) (fun v _ => s_X3_refuse_f a1 (by omega) (h0 _ hp2 _ M1 a1 a2))
    exact s_if (fun _ => hJ _ trivial) (fun _ => hJ _ trivial)
theorem s_X3_readTwo_f (hT : Tf M x k f) (hf : f ≤ 1000) {m : Int32} (h : ∀ v, Q v M) : w_X3_readTwoDigits M m Q := by
  unfold w_X3_readTwoDigits
  simp only [lm1_, lm2_, lm3_, lm9_, lm10_, lm999_, lm1000_, l0_, l1_, l2_, l3_, l4_, l5_, l6_, l7_, l8_, l9_, l10_, l11_, l12_, l13_, l23_, l24_, l30_, l31_, l33_, l35_, l41_, l42_, l45_, l48_, l57_, l58_, l59_, l60_, l64_, l96_, l99_, l100_, l101_, l126_, l168_, l808_, l909_, l999_, l1439_, iI_add, iI_sub, iI_mul, iI_neg]
  refine s_X3_readDigit_f hT hf (s_X3_readDigit_f hT hf (s_bI ?_))
  refine s_letJ (fun _ => True) (fun J hJ => ?_) (fun v _ => s_X3_refuse_f hT hf (h _))
  exact s_if (fun _ => hJ _ trivial) (fun _ => hJ _ trivial)
theorem s_X3_readTime (hT : Ta M x k p) (hb : Tb x k) (hp : p ≤ k) (h1 : ∀ v q, pTime x k p = .inr (v, q) → ∀ M', Ta M' x k q → sx tx M M' → Q (iI v) M') (h0 : ∀ f, pTime x k p = .inl f → ∀ v M', Tf M' x k f → sx tx M M' → Q v M') : w_X3_readTime M Q := by
  have gk := hT.1.1
  unfold w_X3_readTime
  simp only [lm1_, lm2_, lm3_, lm9_, lm10_, lm999_, lm1000_, l0_, l1_, l2_, l3_, l4_, l5_, l6_, l7_, l8_, l9_, l10_, l11_, l12_, l13_, l23_, l24_, l30_, l31_, l33_, l35_, l41_, l42_, l45_, l48_, l57_, l58_, l59_, l60_, l64_, l96_, l99_, l100_, l101_, l126_, l168_, l808_, l909_, l999_, l1439_, iI_add, iI_sub, iI_mul, iI_neg]
  refine s_X3_readTwo hT hb hp (by omega) (fun v q e1 M1 a1 a2 => ?_) (fun f e1 v M1 a1 a2 => ?_)
  · have b1 := pTwo_b e1
    refine s_X3_require a1 hb b1.2.2 (by omega) (fun c M2 d1 d2 => ?_) (fun c M2 d1 d2 => ?_)
    · refine s_X3_readTwo d1 hb (by omega) (by omega) (fun v2 q2 e2 M3 f1 f2 => ?_) (fun f e2 v2 M3 f1 f2 => ?_)
      · simp only [lm1_, lm2_, lm3_, lm9_, lm10_, lm999_, lm1000_, l0_, l1_, l2_, l3_, l4_, l5_, l6_, l7_, l8_, l9_, l10_, l11_, l12_, l13_, l23_, l24_, l30_, l31_, l33_, l35_, l41_, l42_, l45_, l48_, l57_, l58_, l59_, l60_, l64_, l96_, l99_, l100_, l101_, l126_, l168_, l808_, l909_, l999_, l1439_, iI_add, iI_sub, iI_mul, iI_neg]
        refine h1 _ _ ?_ M3 f1 (tx_tr a2 (tx_tr d2 f2))
        unfold pTime
        rw [e1]
        dsimp only
        rw [if_pos c, e2]
      · refine h0 _ ?_ _ M3 f1 (tx_tr a2 (tx_tr d2 f2))
        unfold pTime
        rw [e1]
        dsimp only
        rw [if_pos c, e2]
    · refine s_X3_readTwo_f d1 (by omega) (fun v2 => ?_)
      refine h0 _ ?_ _ M2 d1 (tx_tr a2 d2)
      unfold pTime
      rw [e1]
      dsimp only
      rw [if_neg c]
  · have b1 := pTwo_fb e1
    refine s_X3_require_f a1 (by omega) (s_X3_readTwo_f a1 (by omega) (fun v2 => ?_))
    refine h0 _ ?_ _ M1 a1 a2
    unfold pTime
    rw [e1]
theorem s_X3_readDay (hT : Ta M x k p) (hb : Tb x k) (hp : p ≤ k) (h1 : ∀ v q, pDay x k p = .inr (v, q) → ∀ M', Ta M' x k q → sx tx M M' → Q (iI v) M') (h0 : ∀ f, pDay x k p = .inl f → ∀ v M', Tf M' x k f → sx tx M M' → Q v M') : w_X3_readDay M Q := by
  have gk := hT.1.1
  unfold w_X3_readDay
  simp only [lm1_, lm2_, lm3_, lm9_, lm10_, lm999_, lm1000_, l0_, l1_, l2_, l3_, l4_, l5_, l6_, l7_, l8_, l9_, l10_, l11_, l12_, l13_, l23_, l24_, l30_, l31_, l33_, l35_, l41_, l42_, l45_, l48_, l57_, l58_, l59_, l60_, l64_, l96_, l99_, l100_, l101_, l126_, l168_, l808_, l909_, l999_, l1439_, iI_add, iI_sub, iI_mul, iI_neg]
  refine s_X3_readDigit hT hb hp (fun c1 M1 a1 a2 => ?_) (fun c1 M1 a1 a2 => ?_)
  · refine loop_up (fun i s => 1 ≤ i ∧ ∃ M', s = (iI (dv x p i), iI i, M') ∧ Ta M' x k (p + i) ∧ sx tx M M' ∧ ∀ j, j < i → dgt x k (p + j)) 3 ?_ ?_ (i := 1) (by omega) ⟨by omega, M1, by rw [dv_1]; rfl, a1, a2, fun j hj => by rw [show j = 0 by omega]; exact c1⟩
    · rintro R i s hi ⟨hi1, M', rfl, g1, g2, g3⟩ hR
      have hpi : p + i ≤ k := by
        have := (g3 (i - 1) (by omega)).1
        omega
      unfold w_X3_readDay_L7
      dsimp only
      simp only [lm1_, lm2_, lm3_, lm9_, lm10_, lm999_, lm1000_, l0_, l1_, l2_, l3_, l4_, l5_, l6_, l7_, l8_, l9_, l10_, l11_, l12_, l13_, l23_, l24_, l30_, l31_, l33_, l35_, l41_, l42_, l45_, l48_, l57_, l58_, l59_, l60_, l64_, l96_, l99_, l100_, l101_, l126_, l168_, l808_, l909_, l999_, l1439_, iI_add, iI_sub, iI_mul, iI_neg]
      rw [if_neg (fun z => by have := (iI_le (by omega) (by omega) (by omega) (by omega)).mp z; omega)]
      refine s_X3_isAtDigit g1 hb hpi (fun c => z1 ?_) (fun c => z0 ?_)
      · refine s_X3_readDigit g1 hb hpi (fun _ M2 b1 b2 => ?_) (fun c2 => absurd c c2)
        simp only [lm1_, lm2_, lm3_, lm9_, lm10_, lm999_, lm1000_, l0_, l1_, l2_, l3_, l4_, l5_, l6_, l7_, l8_, l9_, l10_, l11_, l12_, l13_, l23_, l24_, l30_, l31_, l33_, l35_, l41_, l42_, l45_, l48_, l57_, l58_, l59_, l60_, l64_, l96_, l99_, l100_, l101_, l126_, l168_, l808_, l909_, l999_, l1439_, iI_add, iI_sub, iI_mul, iI_neg]
        refine s_bI (s_bI (hR _ ⟨by omega, M2, rfl, b1, tx_tr g2 b2, fun j hj => ?_⟩))
        by_cases hji : j = i
        · rw [hji]; exact c
        · exact g3 j (by omega)
      · exact s_X3_isAtDigit g1 hb hpi (fun c2 => absurd c2 c) (fun _ => z0 (h1 _ _ (pDay_ok hi1 (by omega) g3 c) M' g1 g2))
    · rintro R s ⟨hi1, M', rfl, g1, g2, g3⟩
      have hpi : p + 3 ≤ k := by
        have := (g3 2 (by omega)).1
        omega
      unfold w_X3_readDay_L7
      dsimp only
      simp only [lm1_, lm2_, lm3_, lm9_, lm10_, lm999_, lm1000_, l0_, l1_, l2_, l3_, l4_, l5_, l6_, l7_, l8_, l9_, l10_, l11_, l12_, l13_, l23_, l24_, l30_, l31_, l33_, l35_, l41_, l42_, l45_, l48_, l57_, l58_, l59_, l60_, l64_, l96_, l99_, l100_, l101_, l126_, l168_, l808_, l909_, l999_, l1439_, iI_add, iI_sub, iI_mul, iI_neg]
      rw [if_pos ((iI_le (by omega) (by omega) (by omega) (by omega)).mpr (by omega))]
      refine s_X3_isAtDigit g1 hb hpi (fun c => z1 ?_) (fun c => z0 (h1 _ _ (pDay_ok hi1 (by omega) g3 c) M' g1 g2))
      rw [g1.2.1]
      refine s_stF (h0 _ (pDay_f3 (fun j hj => ?_)) _ _ g1.flt (sx_st g2 ⟨rfl, rfl⟩))
      by_cases hj3 : j = 3
      · rw [hj3]; exact c
      · exact g3 j (by omega)
  · have e1 := pDay_f0 c1
    refine loop_up (fun i s => s = (iI 0, iI i, M1)) 2 ?_ ?_ (i := 1) (by omega) rfl
    · rintro R i s hi rfl hR
      unfold w_X3_readDay_L7
      dsimp only
      simp only [lm1_, lm2_, lm3_, lm9_, lm10_, lm999_, lm1000_, l0_, l1_, l2_, l3_, l4_, l5_, l6_, l7_, l8_, l9_, l10_, l11_, l12_, l13_, l23_, l24_, l30_, l31_, l33_, l35_, l41_, l42_, l45_, l48_, l57_, l58_, l59_, l60_, l64_, l96_, l99_, l100_, l101_, l126_, l168_, l808_, l909_, l999_, l1439_, iI_add, iI_sub, iI_mul, iI_neg]
      rw [if_neg (fun z => by have := (iI_le (by omega) (by omega) (by omega) (by omega)).mp z; omega)]
      exact s_X3_isAtDigit_f a1 (by omega) (z0 (s_X3_isAtDigit_f a1 (by omega) (z0 (h0 _ e1 _ M1 a1 a2))))
    · rintro R s rfl
      unfold w_X3_readDay_L7
      dsimp only
      simp only [lm1_, lm2_, lm3_, lm9_, lm10_, lm999_, lm1000_, l0_, l1_, l2_, l3_, l4_, l5_, l6_, l7_, l8_, l9_, l10_, l11_, l12_, l13_, l23_, l24_, l30_, l31_, l33_, l35_, l41_, l42_, l45_, l48_, l57_, l58_, l59_, l60_, l64_, l96_, l99_, l100_, l101_, l126_, l168_, l808_, l909_, l999_, l1439_, iI_add, iI_sub, iI_mul, iI_neg]
      rw [if_neg (fun z => by have := (iI_le (by omega) (by omega) (by omega) (by omega)).mp z; omega)]
      exact s_X3_isAtDigit_f a1 (by omega) (z0 (s_X3_isAtDigit_f a1 (by omega) (z0 (h0 _ e1 _ M1 a1 a2))))
end CR
