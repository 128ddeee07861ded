/-! the class: the same calls -/
def kc : Nat → Nat → Prop := fun c i => c = 1 ∨ (c = 11 ∨ c = 13 ∨ c = 14 ∨ c = 15 ∨ c = 16) ∨ pgc 0 c i
/-- one step that is remembered, in the class -/
def Cs (M M' : Mm) (A A' : Ab) (h : Nat → Ab) (n : Nat) : Prop := Pl M' 0 A' ∧ Ps M' (recH h n A) (recN n) ∧ (∃ L R, Laid M' 0 A' L R) ∧ sx kc M M'
theorem kc_psc {M M' : Mm} (h : sx psc M M') : sx kc M M' := sx_mono h (fun c i q => q.elim Or.inl (fun z => Or.inr (Or.inl z.1)))
section CSET
variable {M : Mm} {A : Ab} {h : Nat → Ab} {n : Nat} {Q : Int32 → Mm → Prop}
theorem s_X4_isWithin {a b c : Int} (ha : i32 a) (hb : i32 b) (hc : i32 c) (h1 : b ≤ a ∧ a ≤ c → Q (iI 1) M) (h0 : ¬ (b ≤ a ∧ a ≤ c) → Q (iI 0) M) : w_X4_isWithin M (iI a) (iI b) (iI c) Q := by
  unfold w_X4_isWithin
  simp (disch := omega) only [lm1_, lm2_, lm3_, lm9_, lm10_, lm999_, lm1000_, l0_, l1_, l2_, l3_, l4_, l5_, l6_, l7_, l8_, l9_, l10_, l11_, l12_, l13_, l23_, l24_, l30_, l31_, l33_, l35_, l41_, l42_, l45_, l48_, l57_, l58_, l59_, l60_, l64_, l96_, l99_, l100_, l101_, l126_, l168_, l808_, l909_, l900_, l20_, l1440_, l2003_, l15486209_, l2147483647_, l999_, l1439_, iI_add, iI_sub, iI_mul, iI_neg, iI_rem, iI_lt, iI_le, iI_eq, vp_iI, cl_iI, Int.toNat_natCast]
  exact s_if (fun q => h0 (by omega)) (fun q => s_if (fun q2 => h0 (by omega)) (fun q2 => h1 (by omega)))
theorem s_X4_isDay {a : Int} (ha : i32 a) (h1 : 0 ≤ a ∧ a ≤ 999 → Q (iI 1) M) (h0 : ¬ (0 ≤ a ∧ a ≤ 999) → Q (iI 0) M) : w_X4_isDay M (iI a) Q := by
  unfold w_X4_isDay
  simp only [lm1_, lm2_, lm3_, lm9_, lm10_, lm999_, lm1000_, l0_, l1_, l2_, l3_, l4_, l5_, l6_, l7_, l8_, l9_, l10_, l11_, l12_, l13_, l23_, l24_, l30_, l31_, l33_, l35_, l41_, l42_, l45_, l48_, l57_, l58_, l59_, l60_, l64_, l96_, l99_, l100_, l101_, l126_, l168_, l808_, l909_, l900_, l20_, l1440_, l2003_, l15486209_, l2147483647_, l999_, l1439_, iI_add, iI_sub, iI_mul, iI_neg]
  exact s_X4_isWithin ha (by omega) (by omega) h1 h0
theorem s_X4_isRank {a : Int} (ha : i32 a) (h1 : 0 ≤ a ∧ a ≤ 9 → Q (iI 1) M) (h0 : ¬ (0 ≤ a ∧ a ≤ 9) → Q (iI 0) M) : w_X4_isRank M (iI a) Q := by
  unfold w_X4_isRank
  simp only [lm1_, lm2_, lm3_, lm9_, lm10_, lm999_, lm1000_, l0_, l1_, l2_, l3_, l4_, l5_, l6_, l7_, l8_, l9_, l10_, l11_, l12_, l13_, l23_, l24_, l30_, l31_, l33_, l35_, l41_, l42_, l45_, l48_, l57_, l58_, l59_, l60_, l64_, l96_, l99_, l100_, l101_, l126_, l168_, l808_, l909_, l900_, l20_, l1440_, l2003_, l15486209_, l2147483647_, l999_, l1439_, iI_add, iI_sub, iI_mul, iI_neg]
  exact s_X4_isWithin ha (by omega) (by omega) h1 h0
theorem s_X4_isTime {t : Int} (ht : i32 t) (h1 : tmo t → Q (iI 1) M) (h0 : ¬ tmo t → Q (iI 0) M) : w_X4_isTime M (iI t) Q := by
  unfold w_X4_isTime
  simp (disch := omega) only [lm1_, lm2_, lm3_, lm9_, lm10_, lm999_, lm1000_, l0_, l1_, l2_, l3_, l4_, l5_, l6_, l7_, l8_, l9_, l10_, l11_, l12_, l13_, l23_, l24_, l30_, l31_, l33_, l35_, l41_, l42_, l45_, l48_, l57_, l58_, l59_, l60_, l64_, l96_, l99_, l100_, l101_, l126_, l168_, l808_, l909_, l900_, l20_, l1440_, l2003_, l15486209_, l2147483647_, l999_, l1439_, iI_add, iI_sub, iI_mul, iI_neg, iI_rem, iI_lt, iI_le, iI_eq, vp_iI, cl_iI, Int.toNat_natCast]
  refine s_if (fun q => h1 (Or.inl q)) (fun q => s_X4_isWithin ht (by omega) (by omega) (fun c => z1 (h1 (Or.inr c))) (fun c => z0 (h0 (fun z => z.elim q c))))
theorem s_X4_isEntry (hP : Pl M 0 A) (hO : Ok A) {a : Int} (ha : i32 a) (h1 : 0 ≤ a ∧ a < A 0 4 → Q (iI 1) M) (h0 : ¬ (0 ≤ a ∧ a < A 0 4) → Q (iI 0) M) : w_X4_isEntry M (iI a) Q := by
  have ob := hO.b
  unfold w_X4_isEntry
  rw [hP.1 4 (by decide)]
  simp only [lm1_, lm2_, lm3_, lm9_, lm10_, lm999_, lm1000_, l0_, l1_, l2_, l3_, l4_, l5_, l6_, l7_, l8_, l9_, l10_, l11_, l12_, l13_, l23_, l24_, l30_, l31_, l33_, l35_, l41_, l42_, l45_, l48_, l57_, l58_, l59_, l60_, l64_, l96_, l99_, l100_, l101_, l126_, l168_, l808_, l909_, l900_, l20_, l1440_, l2003_, l15486209_, l2147483647_, l999_, l1439_, iI_add, iI_sub, iI_mul, iI_neg]
  exact s_X4_isWithin ha (by omega) (by omega) (fun q => h1 (by omega)) (fun q => h0 (by omega))
theorem s_lays {M1 : Mm} {A' : Ab} {Q : Mm → Prop} (hP : Pl M1 0 A') (hO : Ok A') (hp : Ps M1 (recH h n A) (recN n)) (hs : sx kc M M1) (hQ : ∀ M', Cs M M' A A' h n → M' 5 0 1 = iI (nW A') → Q M') : w_X0_lay 0 M1 Q := by
  refine s_X0_lay hP hO (fun M' L R hL hsx => hQ M' ⟨?_, ?_, ⟨L, R, hL⟩, fun c i hci => ?_⟩ hL.1.1)
  · exact hP.sx hsx ⟨by unfold pgc; omega, by unfold pgc; omega, by unfold pgc; omega, by unfold pgc; omega, by unfold pgc; omega⟩
  · refine hp.sx hsx (by unfold pgc; omega) (fun i hi => ⟨by unfold pgc; omega, by unfold pgc; omega, by unfold pgc; omega, by unfold pgc; omega, by unfold pgc; omega⟩)
  · rw [hsx c i (fun z => hci (Or.inr (Or.inr z))), hs c i hci]
theorem s_X4_setPage (hP : Pl M 0 A) (hO : Ok A) (hp : Ps M h n) {a b : Int} (ha : i32 a) (hb : i32 b) (h1 : (0 ≤ a ∧ a ≤ b ∧ b ≤ 999 ∧ b ≤ a + 41) → ∀ M', Cs M M' A (upA (upA A 0 0 a) 0 1 b) h n → Q (iI (nW (upA (upA A 0 0 a) 0 1 b))) M') (h0 : ¬ (0 ≤ a ∧ a ≤ b ∧ b ≤ 999 ∧ b ≤ a + 41) → Q (iI (-1)) M) : w_X4_setPage M (iI a) (iI b) Q := by
  unfold w_X4_setPage
  simp only [lm1_, lm2_, lm3_, lm9_, lm10_, lm999_, lm1000_, l0_, l1_, l2_, l3_, l4_, l5_, l6_, l7_, l8_, l9_, l10_, l11_, l12_, l13_, l23_, l24_, l30_, l31_, l33_, l35_, l41_, l42_, l45_, l48_, l57_, l58_, l59_, l60_, l64_, l96_, l99_, l100_, l101_, l126_, l168_, l808_, l909_, l900_, l20_, l1440_, l2003_, l15486209_, l2147483647_, l999_, l1439_, iI_add, iI_sub, iI_mul, iI_neg]
  refine s_X4_isDay ha (fun c1 => z1 (s_X4_isDay hb (fun c2 => z1 ?_) (fun c2 => z0 (h0 (by omega))))) (fun c1 => z0 (h0 (by omega)))
  simp (disch := omega) only [lm1_, lm2_, lm3_, lm9_, lm10_, lm999_, lm1000_, l0_, l1_, l2_, l3_, l4_, l5_, l6_, l7_, l8_, l9_, l10_, l11_, l12_, l13_, l23_, l24_, l30_, l31_, l33_, l35_, l41_, l42_, l45_, l48_, l57_, l58_, l59_, l60_, l64_, l96_, l99_, l100_, l101_, l126_, l168_, l808_, l909_, l900_, l20_, l1440_, l2003_, l15486209_, l2147483647_, l999_, l1439_, iI_add, iI_sub, iI_mul, iI_neg, iI_rem, iI_lt, iI_le, iI_eq, vp_iI, cl_iI, Int.toNat_natCast]
  refine s_if (fun q => h0 (by omega)) (fun q => s_if (fun q2 => ?_) (fun q2 => h0 (by omega)))
  refine s_X1_record hp hP hO (by decide) (fun M1 k1 k2 => ?_)
  have hP1 : Pl M1 0 A := hP.sx k2 ⟨by unfold psc; omega, by unfold psc; omega, by unfold psc; omega, by unfold psc; omega, by unfold psc; omega⟩
  have s2 : sx (fun c i => c = 11 ∧ i = 0) M1 (st (st M1 11 0 0 (iI a)) 11 0 1 (iI b)) := sx_st (sx_st sx_rf ⟨rfl, rfl⟩) ⟨rfl, rfl⟩
  refine s_stF (s_stF (s_lays (M := M) (A := A) (h := h) (n := n) ((hP1.u0 (by decide)).u0 (by decide)) (hO.pg (by omega)) (k1.sx s2 (by omega) (fun i hi => ⟨by omega, by omega, by omega, by omega, by omega⟩)) (sx_st (sx_st (kc_psc k2) (Or.inr (Or.inl (Or.inl rfl)))) (Or.inr (Or.inl (Or.inl rfl)))) (fun M' k3 k4 => ?_)))
  rw [k4]
  exact h1 (by omega) M' k3
theorem s_X4_setWeek (hP : Pl M 0 A) (hO : Ok A) (hp : Ps M h n) {a : Int} (ha : i32 a) (h1 : (0 ≤ a ∧ a ≤ 6) → ∀ M', Cs M M' A (upA A 0 2 a) h n → Q (iI (nW (upA A 0 2 a))) M') (h0 : ¬ (0 ≤ a ∧ a ≤ 6) → Q (iI (-1)) M) : w_X4_setWeek M (iI a) Q := by
  unfold w_X4_setWeek
  simp only [lm1_, lm2_, lm3_, lm9_, lm10_, lm999_, lm1000_, l0_, l1_, l2_, l3_, l4_, l5_, l6_, l7_, l8_, l9_, l10_, l11_, l12_, l13_, l23_, l24_, l30_, l31_, l33_, l35_, l41_, l42_, l45_, l48_, l57_, l58_, l59_, l60_, l64_, l96_, l99_, l100_, l101_, l126_, l168_, l808_, l909_, l900_, l20_, l1440_, l2003_, l15486209_, l2147483647_, l999_, l1439_, iI_add, iI_sub, iI_mul, iI_neg]
  refine s_X4_isWithin ha (by omega) (by omega) (fun c1 => z1 ?_) (fun c1 => z0 (h0 c1))
  refine s_X1_record hp hP hO (by decide) (fun M1 k1 k2 => ?_)
  have hP1 : Pl M1 0 A := hP.sx k2 ⟨by unfold psc; omega, by unfold psc; omega, by unfold psc; omega, by unfold psc; omega, by unfold psc; omega⟩
  have s2 : sx (fun c i => c = 11 ∧ i = 0) M1 (st M1 11 0 2 (iI a)) := sx_st sx_rf ⟨rfl, rfl⟩
  refine s_stF (s_lays (M := M) (A := A) (h := h) (n := n) (hP1.u0 (by decide)) (hO.wd c1) (k1.sx s2 (by omega) (fun i hi => ⟨by omega, by omega, by omega, by omega, by omega⟩)) (sx_st (kc_psc k2) (Or.inr (Or.inl (Or.inl rfl)))) (fun M' k3 k4 => ?_))
  rw [k4]
  exact h1 c1 M' k3
end CSET
