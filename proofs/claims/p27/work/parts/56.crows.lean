/-- the rows are no business of the laying -/
theorem Laid_rows {M : Mm} {p : Nat} {A : Ab} {L : Nat → Nat → Int} {R : Nat → Int} {r : Int} (h : Laid M p A L R) : Laid M p (upA A 0 3 r) L R := h
theorem Laid.sx {P : Nat → Nat → Prop} {M M' : Mm} {p : Nat} {A : Ab} {L : Nat → Nat → Int} {R : Nat → Int} (h : Laid M p A L R) (hs : sx P M M') (h1 : ∀ c i, pgc p c i → ¬ P c i) : Laid M' p A L R := by
  obtain ⟨g1, g2, g3, g4, g5, g6, g7, g8⟩ := h
  have e5 : M' 5 p = M 5 p := hs 5 p (h1 5 p (Or.inl ⟨by omega, rfl⟩))
  have e6 : M' 6 p = M 6 p := hs 6 p (h1 6 p (Or.inl ⟨by omega, rfl⟩))
  have e8 : M' 8 p = M 8 p := hs 8 p (h1 8 p (Or.inl ⟨by omega, rfl⟩))
  have e9 : M' 9 p = M 9 p := hs 9 p (h1 9 p (Or.inl ⟨by omega, rfl⟩))
  refine ⟨⟨by rw [e5]; exact g1.1, fun w hw => by rw [e6]; exact g1.2 w hw⟩, g2, g3, g4, g5, fun e w he hw => ?_, fun e he => by rw [e8]; exact g7 e he, fun k hk => by rw [e9]; exact g8 k hk⟩
  rw [hs 12 (24 * p + e) (h1 12 _ (Or.inr ⟨rfl, by omega, by omega⟩))]
  exact g6 e w he hw
section CRW
variable {M : Mm} {A : Ab} {h : Nat → Ab} {n : Nat} {Q : Int32 → Mm → Prop}
theorem s_X4_setRows (hP : Pl M 0 A) (hO : Ok A) (hp : Ps M h n) (hL : ∃ L R, Laid M 0 A L R) {a : Int} (ha : i32 a) (h1 : (1 ≤ a ∧ a ≤ 12) → ∀ M', Cs M M' A (upA A 0 3 a) h n → Q (iI (A 0 3)) M') (h0 : ¬ (1 ≤ a ∧ a ≤ 12) → Q (iI (-1)) M) : w_X4_setRows M (iI a) Q := by
  unfold w_X4_setRows
  simp only [lm1_, lm2_, lm3_, lm9_, lm10_, lm999_, lm1000_, l0_, l1_, l2_, l3_, l4_, l5_, l6_, l7_, l8_, l9_, l10_, l11_, l12_, l13_, l23_, l24_, l30_, l31_, l33_, l35_, l41_, l42_, l45_, l48_, l57_, l58_, l59_, l60_, l64_, l96_, l99_, l100_, l101_, l126_, l168_, l808_, l909_, l900_, l20_, l1440_, l2003_, l15486209_, l2147483647_, l999_, l1439_, iI_add, iI_sub, iI_mul, iI_neg]
  refine s_X4_isWithin ha (by omega) (by omega) (fun c1 => z1 ?_) (fun c1 => z0 (h0 c1))
  refine s_X1_record hp hP hO (by decide) (fun M1 k1 k2 => ?_)
  have hP1 := rec_pl hP k2
  rw [hP1.1 3 (by decide)]
  refine s_bI (s_stF ?_)
  obtain ⟨L, R, hL⟩ := hL
  have s2 : sx pl0 M1 (st M1 11 0 3 (iI a)) := sx_st sx_rf ⟨Or.inl rfl, rfl⟩
  refine h1 c1 _ ⟨hP1.u0 (by decide), k1.sx s2 (by omega) (fun i hi => ⟨by omega, by omega, by omega, by omega, by omega⟩), ⟨L, R, Laid_rows ((hL.sx k2 (fun c i q => ?_)).sx s2 (fun c i q => ?_))⟩, sx_st (kc_psc k2) (Or.inr (Or.inl (Or.inl rfl)))⟩
  · unfold pgc at q
    unfold psc
    omega
  · unfold pgc at q
    omega
end CRW
