section CAD
variable {M : Mm} {A : Ab} {h : Nat → Ab} {n : Nat} {Q : Int32 → Mm → Prop}
theorem s_X4_add (hP : Pl M 0 A) (hO : Ok A) (hp : Ps M h n) {a b t r : Int} (ha : i32 a) (hb : i32 b) (ht : i32 t) (hr : i32 r) (h1 : (0 ≤ a ∧ a ≤ b ∧ b ≤ 999) ∧ tmo t ∧ 0 ≤ r ∧ r ≤ 9 → A 0 4 < 24 → ∀ M', Cs M M' A (addE A a b t r) h n → Q (iI (A 0 4)) M') (h3 : (0 ≤ a ∧ a ≤ b ∧ b ≤ 999) ∧ tmo t ∧ 0 ≤ r ∧ r ≤ 9 → A 0 4 = 24 → Q (iI (-3)) M) (h0 : ¬ ((0 ≤ a ∧ a ≤ b ∧ b ≤ 999) ∧ tmo t ∧ 0 ≤ r ∧ r ≤ 9) → Q (iI (-1)) M) : w_X4_add M (iI a) (iI b) (iI t) (iI r) Q := by
  have ob := hO.b
  unfold w_X4_add
  simp only [lm1_, lm2_, lm3_, lm9_, lm10_, lm999_, lm1000_, l0_, l1_, l2_, l3_, l4_, l5_, l6_, l7_, l8_, l9_, l10_, l11_, l12_, l13_, l23_, l24_, l30_, l31_, l33_, l35_, l41_, l42_, l45_, l48_, l57_, l58_, l59_, l60_, l64_, l96_, l99_, l100_, l101_, l126_, l168_, l808_, l909_, l900_, l20_, l1440_, l2003_, l15486209_, l2147483647_, l999_, l1439_, iI_add, iI_sub, iI_mul, iI_neg]
  refine s_X4_isDay ha (fun c1 => z1 (s_X4_isDay hb (fun c2 => z1 ?_) (fun c2 => z0 (h0 (fun z => c2 (by have := z.1; omega)))))) (fun c1 => z0 (h0 (fun z => c1 (by have := z.1; omega))))
  refine s_if (fun q => ?_) (fun q => ?_)
  · have q := (iI_lt (by omega) (by omega) (by omega) (by omega)).mp q
    exact h0 (fun z => by have := z.1; omega)
  have q : ¬ b < a := fun z => q ((iI_lt (by omega) (by omega) (by omega) (by omega)).mpr z)
  refine s_X4_isTime ht (fun c3 => z1 (s_X4_isRank hr (fun c4 => z1 ?_) (fun c4 => z0 (h0 (fun z => c4 z.2.2))))) (fun c3 => z0 (h0 (fun z => c3 z.2.1)))
  have ok : (0 ≤ a ∧ a ≤ b ∧ b ≤ 999) ∧ tmo t ∧ 0 ≤ r ∧ r ≤ 9 := ⟨⟨c1.1, by omega, c2.2⟩, c3, c4⟩
  rw [hP.1 4 (by decide)]
  refine s_if (fun q2 => ?_) (fun q2 => ?_)
  · have hc : A 0 4 < 24 := (iI_lt (by omega) (by omega) (by omega) (by omega)).mp q2
    refine s_X1_record hp hP hO (by decide) (fun M1 k1 k2 => s_X2_append (rec_pl hP k2) hO hc (fun M2 p1 p2 => ?_))
    refine s_lays2 k1 k2 p2 p1 (hO.add hc c1.1 (by omega) c2.2 (c3.elim Or.inl (fun z => Or.inr z.1)) (by omega) c4.1 c4.2) (fun M' k3 _ => ?_)
    rw [k3.1.1 4 (by decide), show addE A a b t r 0 4 = A 0 4 + 1 by simp [addE]]
    simp only [lm1_, lm2_, lm3_, lm9_, lm10_, lm999_, lm1000_, l0_, l1_, l2_, l3_, l4_, l5_, l6_, l7_, l8_, l9_, l10_, l11_, l12_, l13_, l23_, l24_, l30_, l31_, l33_, l35_, l41_, l42_, l45_, l48_, l57_, l58_, l59_, l60_, l64_, l96_, l99_, l100_, l101_, l126_, l168_, l808_, l909_, l900_, l20_, l1440_, l2003_, l15486209_, l2147483647_, l999_, l1439_, iI_add, iI_sub, iI_mul, iI_neg]
    rw [show A 0 4 + 1 - 1 = A 0 4 by omega]
    exact h1 ok hc M' k3
  · have hc : ¬ A 0 4 < 24 := fun z => q2 ((iI_lt (by omega) (by omega) (by omega) (by omega)).mpr z)
    exact h3 ok (by omega)
theorem s_X4_undo0 (hp : Ps M h 0) (hQ : Q (iI (-2)) M) : w_X4_undo M Q := by
  obtain ⟨o, g1, g2, g3, g4, g5⟩ := hp
  unfold w_X4_undo
  rw [g4]
  simp only [lm1_, lm2_, lm3_, lm9_, lm10_, lm999_, lm1000_, l0_, l1_, l2_, l3_, l4_, l5_, l6_, l7_, l8_, l9_, l10_, l11_, l12_, l13_, l23_, l24_, l30_, l31_, l33_, l35_, l41_, l42_, l45_, l48_, l57_, l58_, l59_, l60_, l64_, l96_, l99_, l100_, l101_, l126_, l168_, l808_, l909_, l900_, l20_, l1440_, l2003_, l15486209_, l2147483647_, l999_, l1439_, iI_add, iI_sub, iI_mul, iI_neg]
  rw [if_neg (by decide)]
  exact hQ
theorem s_X4_undo (hp : Ps M h (n + 1)) (hQ : ∀ M', Pl M' 0 (h n) → Ps M' h n → (∃ L R, Laid M' 0 (h n) L R) → sx kc M M' → Q (iI n) M') : w_X4_undo M Q := by
  have hn : n + 1 ≤ 8 := hp.choose_spec.2.1
  have g4 : M 1 0 2 = iI ((n + 1 : Nat) : Int) := hp.choose_spec.2.2.2.1
  have hO : Ok (h n) := (hp.choose_spec.2.2.2.2 n (by omega)).2
  unfold w_X4_undo
  rw [g4]
  simp only [lm1_, lm2_, lm3_, lm9_, lm10_, lm999_, lm1000_, l0_, l1_, l2_, l3_, l4_, l5_, l6_, l7_, l8_, l9_, l10_, l11_, l12_, l13_, l23_, l24_, l30_, l31_, l33_, l35_, l41_, l42_, l45_, l48_, l57_, l58_, l59_, l60_, l64_, l96_, l99_, l100_, l101_, l126_, l168_, l808_, l909_, l900_, l20_, l1440_, l2003_, l15486209_, l2147483647_, l999_, l1439_, iI_add, iI_sub, iI_mul, iI_neg]
  rw [if_pos ((iI_lt (by omega) (by omega) (by omega) (by omega)).mpr (by omega))]
  refine s_X1_restore hp (fun M1 k1 k2 k3 k4 => s_X0_lay k2 hO (fun M' L R hL hsx => ?_))
  rw [hsx 1 0 (by unfold pgc; omega), k4]
  refine hQ M' (k2.sx hsx ⟨by unfold pgc; omega, by unfold pgc; omega, by unfold pgc; omega, by unfold pgc; omega, by unfold pgc; omega⟩) (k1.sx hsx (by unfold pgc; omega) (fun i hi => ⟨by unfold pgc; omega, by unfold pgc; omega, by unfold pgc; omega, by unfold pgc; omega, by unfold pgc; omega⟩)) ⟨L, R, hL⟩ (fun c i hci => ?_)
  rw [hsx c i (fun z => hci (Or.inr (Or.inr z))), k3 c i (fun z => hci (z.elim Or.inl (fun y => Or.inr (Or.inl y.1))))]
end CAD
