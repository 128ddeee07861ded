section CMV
variable {M : Mm} {A : Ab} {h : Nat → Ab} {n : Nat} {Q : Int32 → Mm → Prop}
theorem rec_pl {M1 : Mm} (hP : Pl M 0 A) (k2 : sx psc M M1) : Pl M1 0 A := hP.sx k2 ⟨by unfold psc; omega, by unfold psc; omega, by unfold psc; omega, by unfold psc; omega, by unfold psc; omega⟩
abbrev pl0 : Nat → Nat → Prop := fun c i => (c = 11 ∨ c = 13 ∨ c = 14 ∨ c = 15 ∨ c = 16) ∧ i = 0
theorem s_lays2 {M1 M2 : Mm} {A' : Ab} {Q : Mm → Prop} (k1 : Ps M1 (recH h n A) (recN n)) (k2 : sx psc M M1) (s2 : sx pl0 M1 M2) (hP : Pl M2 0 A') (hO : Ok A') (hQ : ∀ M', Cs M M' A A' h n → M' 5 0 1 = iI (nW A') → Q M') : w_X0_lay 0 M2 Q := by
  refine s_lays (M := M) (A := A) (h := h) (n := n) hP hO (k1.sx s2 (by omega) (fun i hi => ⟨by omega, by omega, by omega, by omega, by omega⟩)) (fun c i hci => ?_) hQ
  rw [s2 c i (fun z => hci (Or.inr (Or.inl z.1))), kc_psc k2 c i hci]
theorem s_X4_move (hP : Pl M 0 A) (hO : Ok A) (hp : Ps M h n) {a d : Int} (ha : i32 a) (hd : i32 d) (h1 : ∀ e : Nat, a = e → (e : Int) < A 0 4 → -999 ≤ d ∧ d ≤ 999 → 0 ≤ A 1 e + d → A 2 e + d ≤ 999 → ∀ M', Cs M M' A (mvE A e d) h n → Q (iI (A 1 e + d)) M') (h2 : ∀ e : Nat, a = e → (e : Int) < A 0 4 → -999 ≤ d ∧ d ≤ 999 → ¬ (0 ≤ A 1 e + d ∧ A 2 e + d ≤ 999) → Q (iI (-2)) M) (h0 : ¬ ((0 ≤ a ∧ a < A 0 4) ∧ -999 ≤ d ∧ d ≤ 999) → Q (iI (-1)) M) : w_X4_move M (iI a) (iI d) Q := by
  have ob := hO.b
  unfold w_X4_move
  simp only [lm1_, lm2_, lm3_, lm9_, lm10_, lm999_, lm1000_, l0_, l1_, l2_, l3_, l4_, l5_, l6_, l7_, l8_, l9_, l10_, l11_, l12_, l13_, l23_, l24_, l30_, l31_, l33_, l35_, l41_, l42_, l45_, l48_, l57_, l58_, l59_, l60_, l64_, l96_, l99_, l100_, l101_, l126_, l168_, l808_, l909_, l900_, l20_, l1440_, l2003_, l15486209_, l2147483647_, l999_, l1439_, iI_add, iI_sub, iI_mul, iI_neg]
  refine s_X4_isEntry hP hO ha (fun c1 => z1 (s_X4_isWithin hd (by omega) (by omega) (fun c2 => z1 ?_) (fun c2 => z0 (h0 (fun z => c2 z.2))))) (fun c1 => z0 (h0 (fun z => c1 z.1)))
  obtain ⟨e, rfl⟩ : ∃ e : Nat, a = e := ⟨a.toNat, by omega⟩
  have he := c1.2
  have oe := hO.e he
  obtain ⟨p1, p2, p3, p4⟩ := hP.2 e he
  refine s_ldN (by omega) (by decide) ?_
  rw [p1]
  refine s_bI (s_ldN (by omega) (by decide) ?_)
  rw [p2]
  refine s_bI ?_
  simp only [lm1_, lm2_, lm3_, lm9_, lm10_, lm999_, lm1000_, l0_, l1_, l2_, l3_, l4_, l5_, l6_, l7_, l8_, l9_, l10_, l11_, l12_, l13_, l23_, l24_, l30_, l31_, l33_, l35_, l41_, l42_, l45_, l48_, l57_, l58_, l59_, l60_, l64_, l96_, l99_, l100_, l101_, l126_, l168_, l808_, l909_, l900_, l20_, l1440_, l2003_, l15486209_, l2147483647_, l999_, l1439_, iI_add, iI_sub, iI_mul, iI_neg]
  refine s_X4_isDay (by omega) (fun c3 => z1 (s_X4_isDay (by omega) (fun c4 => z1 ?_) (fun c4 => z0 (h2 e rfl he c2 (by omega))))) (fun c3 => z0 (h2 e rfl he c2 (by omega)))
  refine s_X1_record hp hP hO (by decide) (fun M1 k1 k2 => s_stN (by omega) (by decide) (s_stN (by omega) (by decide) ?_))
  exact s_lays2 k1 k2 (sx_st (sx_st sx_rf ⟨Or.inr (Or.inl rfl), rfl⟩) ⟨Or.inr (Or.inr (Or.inl rfl)), rfl⟩) (((rec_pl hP k2).ue (c := 1) (by omega)).ue (c := 2) (by omega)) (hO.mv (by omega) (by omega)) (fun M' k3 _ => h1 e rfl he c2 (by omega) (by omega) M' k3)
end CMV
