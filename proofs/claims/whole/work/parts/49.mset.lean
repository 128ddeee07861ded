abbrev kr : Nat → Nat → Prop := fun c i => (c = 17 ∨ c = 18) ∧ i = 0
/-- one step that is remembered, in the reference -/
def Rs (M M' : Mm) (A A' : Ab) (h : Nat → Ab) (n : Nat) : Prop := Pm M' 0 A' ∧ Hm M' (recH h n A) (recN n) ∧ sx kr M M' ∧ ∀ j, j ≠ 1 → M' 17 0 j = M 17 0 j
theorem Ok.ents {A A' : Ab} (hO : Ok A) (h0 : ∀ k, A' 0 k = A 0 k) (he : ∀ e : Nat, (e : Int) < A 0 4 → 0 ≤ A' 1 e ∧ A' 1 e ≤ A' 2 e ∧ A' 2 e ≤ 999 ∧ -9 ≤ A' 3 e ∧ A' 3 e ≤ 1439 ∧ (A' 3 e = -9 ∨ 0 ≤ A' 3 e) ∧ 0 ≤ A' 4 e ∧ A' 4 e ≤ 9) : Ok A' := by
  unfold Ok
  rw [h0, h0, h0, h0, h0]
  have ob := hO.b
  exact ⟨ob.1, ob.2.1, ob.2.2.1, ob.2.2.2.1, ob.2.2.2.2.1, ob.2.2.2.2.2.1, ob.2.2.2.2.2.2.1, ob.2.2.2.2.2.2.2.1, ob.2.2.2.2.2.2.2.2.1, ob.2.2.2.2.2.2.2.2.2, he⟩
theorem Ok.pg {A : Ab} (hO : Ok A) {a b : Int} (h : 0 ≤ a ∧ a ≤ b ∧ b ≤ 999 ∧ b ≤ a + 41) : Ok (upA (upA A 0 0 a) 0 1 b) := by
  have ob := hO.b
  exact ⟨h.1, h.2.1, h.2.2.1, h.2.2.2, ob.2.2.2.2.1, ob.2.2.2.2.2.1, ob.2.2.2.2.2.2.1, ob.2.2.2.2.2.2.2.1, ob.2.2.2.2.2.2.2.2.1, ob.2.2.2.2.2.2.2.2.2, fun e he => hO.e he⟩
theorem Ok.wd {A : Ab} (hO : Ok A) {a : Int} (h : 0 ≤ a ∧ a ≤ 6) : Ok (upA A 0 2 a) := by
  have ob := hO.b
  exact ⟨ob.1, ob.2.1, ob.2.2.1, ob.2.2.2.1, h.1, h.2, ob.2.2.2.2.2.2.1, ob.2.2.2.2.2.2.2.1, ob.2.2.2.2.2.2.2.2.1, ob.2.2.2.2.2.2.2.2.2, fun e he => hO.e he⟩
theorem Ok.rws {A : Ab} (hO : Ok A) {a : Int} (h : 1 ≤ a ∧ a ≤ 12) : Ok (upA A 0 3 a) := by
  have ob := hO.b
  exact ⟨ob.1, ob.2.1, ob.2.2.1, ob.2.2.2.1, ob.2.2.2.2.1, ob.2.2.2.2.2.1, h.1, h.2, ob.2.2.2.2.2.2.2.2.1, ob.2.2.2.2.2.2.2.2.2, fun e he => hO.e he⟩
section MS
variable {M : Mm} {A : Ab} {h : Nat → Ab} {n : Nat} {Q : Int32 → Mm → Prop}
theorem s_X5_setPage (hP : Pm M 0 A) (hO : Ok A) (hh : Hm M h n) {a b : Int} (ha : i32 a) (hb : i32 b) (h1 : (0 ≤ a ∧ a ≤ b ∧ b ≤ 999 ∧ b ≤ a + 41) → ∀ M', Rs M M' A (upA (upA A 0 0 a) 0 1 b) h n → Q (iI (nW (upA (upA A 0 0 a) 0 1 b))) M') (h0 : ¬ (0 ≤ a ∧ a ≤ b ∧ b ≤ 999 ∧ b ≤ a + 41) → Q (iI (-1)) M) : w_X5_setPage M (iI a) (iI b) Q := by
  unfold w_X5_setPage
  simp only [lm1_, lm2_, lm3_, lm9_, lm10_, lm999_, lm1000_, l0_, l1_, l2_, l3_, l4_, l5_, l6_, l7_, l8_, l9_, l10_, l11_, l12_, l13_, l23_, l24_, l30_, l31_, l33_, l35_, l41_, l42_, l45_, l48_, l57_, l58_, l59_, l60_, l64_, l96_, l99_, l100_, l101_, l126_, l168_, l808_, l909_, l999_, l1439_, iI_add, iI_sub, iI_mul, iI_neg]
  refine s_X5_isDay ha (fun c1 => z1 (s_X5_isDay hb (fun c2 => z1 ?_) (fun c2 => z0 (h0 (by omega))))) (fun c1 => z0 (h0 (by omega)))
  simp (disch := omega) only [lm1_, lm2_, lm3_, lm9_, lm10_, lm999_, lm1000_, l0_, l1_, l2_, l3_, l4_, l5_, l6_, l7_, l8_, l9_, l10_, l11_, l12_, l13_, l23_, l24_, l30_, l31_, l33_, l35_, l41_, l42_, l45_, l48_, l57_, l58_, l59_, l60_, l64_, l96_, l99_, l100_, l101_, l126_, l168_, l808_, l909_, l999_, l1439_, iI_add, iI_sub, iI_mul, iI_neg, iI_rem, iI_lt, iI_le, iI_eq, vp_iI, cl_iI, Int.toNat_natCast]
  refine s_if (fun q => h0 (by omega)) (fun q => s_if (fun q2 => ?_) (fun q2 => h0 (by omega)))
  refine s_X5_records hP hO hh (fun M1 k1 k2 k3 k4 => ?_)
  refine s_stA (j := 0) (by omega) (by omega) (by decide) (s_stA (j := 1) (by omega) (by omega) (by decide) ?_)
  have e1 : Pm (st (st M1 18 0 0 (iI a)) 18 0 1 (iI b)) 0 (upA (upA A 0 0 a) 0 1 b) := (k1.u0 (by decide)).u0 (by decide)
  refine s_X5_weeks e1 (hO.pg (by omega)) (h1 (by omega) _ ⟨e1, (k2.st (by decide)).st (by decide), sx_st (sx_st k3 ⟨Or.inr rfl, rfl⟩) ⟨Or.inr rfl, rfl⟩, fun j hj => ?_⟩)
  rw [st_ne _ _ (by omega), st_ne _ _ (by omega), k4 j hj]
theorem s_X5_setWeek (hP : Pm M 0 A) (hO : Ok A) (hh : Hm M h n) {a : Int} (ha : i32 a) (h1 : (0 ≤ a ∧ a ≤ 6) → ∀ M', Rs M M' A (upA A 0 2 a) h n → Q (iI (nW (upA A 0 2 a))) M') (h0 : ¬ (0 ≤ a ∧ a ≤ 6) → Q (iI (-1)) M) : w_X5_setWeek M (iI a) Q := by
  unfold w_X5_setWeek
  simp only [lm1_, lm2_, lm3_, lm9_, lm10_, lm999_, lm1000_, l0_, l1_, l2_, l3_, l4_, l5_, l6_, l7_, l8_, l9_, l10_, l11_, l12_, l13_, l23_, l24_, l30_, l31_, l33_, l35_, l41_, l42_, l45_, l48_, l57_, l58_, l59_, l60_, l64_, l96_, l99_, l100_, l101_, l126_, l168_, l808_, l909_, l999_, l1439_, iI_add, iI_sub, iI_mul, iI_neg]
  refine s_X5_in ha (by omega) (by omega) (fun c1 => z1 ?_) (fun c1 => z0 (h0 (by omega)))
  refine s_X5_records hP hO hh (fun M1 k1 k2 k3 k4 => ?_)
  refine s_stA (j := 2) (by omega) (by omega) (by decide) ?_
  have e1 : Pm (st M1 18 0 2 (iI a)) 0 (upA A 0 2 a) := k1.u0 (by decide)
  refine s_X5_weeks e1 (hO.wd (by omega)) (h1 (by omega) _ ⟨e1, k2.st (by decide), sx_st k3 ⟨Or.inr rfl, rfl⟩, fun j hj => ?_⟩)
  rw [st_ne _ _ (by omega), k4 j hj]
theorem s_X5_setRows (hP : Pm M 0 A) (hO : Ok A) (hh : Hm M h n) {a : Int} (ha : i32 a) (h1 : (1 ≤ a ∧ a ≤ 12) → ∀ M', Rs M M' A (upA A 0 3 a) h n → Q (iI (A 0 3)) M') (h0 : ¬ (1 ≤ a ∧ a ≤ 12) → Q (iI (-1)) M) : w_X5_setRows M (iI a) Q := by
  unfold w_X5_setRows
  simp only [lm1_, lm2_, lm3_, lm9_, lm10_, lm999_, lm1000_, l0_, l1_, l2_, l3_, l4_, l5_, l6_, l7_, l8_, l9_, l10_, l11_, l12_, l13_, l23_, l24_, l30_, l31_, l33_, l35_, l41_, l42_, l45_, l48_, l57_, l58_, l59_, l60_, l64_, l96_, l99_, l100_, l101_, l126_, l168_, l808_, l909_, l999_, l1439_, iI_add, iI_sub, iI_mul, iI_neg]
  refine s_X5_in ha (by omega) (by omega) (fun c1 => z1 ?_) (fun c1 => z0 (h0 (by omega)))
  refine s_X5_records hP hO hh (fun M1 k1 k2 k3 k4 => ?_)
  refine s_pg k1 (j := 3) (by decide) rfl ?_
  refine s_stA (j := 3) (by omega) (by omega) (by decide) ?_
  have e1 : Pm (st M1 18 0 3 (iI a)) 0 (upA A 0 3 a) := k1.u0 (by decide)
  refine h1 (by omega) _ ⟨e1, k2.st (by decide), sx_st k3 ⟨Or.inr rfl, rfl⟩, fun j hj => ?_⟩
  rw [st_ne _ _ (by omega), k4 j hj]
theorem s_X5_undo0 (hh : Hm M h 0) (hQ : Q (iI (-2)) M) : w_X5_undo M Q := by
  unfold w_X5_undo
  rw [hh.2.1]
  exact z0 hQ
theorem s_X5_undo (hP : Pm M 0 A) (hh : Hm M h (n + 1)) (hQ : ∀ M', Pm M' 0 (h n) → Hm M' h n → sx kr M M' → (∀ j, j ≠ 1 → M' 17 0 j = M 17 0 j) → Q (iI n) M') : w_X5_undo M Q := by
  obtain ⟨g1, g2, g3⟩ := hh
  unfold w_X5_undo
  rw [g2]
  simp only [lm1_, lm2_, lm3_, lm9_, lm10_, lm999_, lm1000_, l0_, l1_, l2_, l3_, l4_, l5_, l6_, l7_, l8_, l9_, l10_, l11_, l12_, l13_, l23_, l24_, l30_, l31_, l33_, l35_, l41_, l42_, l45_, l48_, l57_, l58_, l59_, l60_, l64_, l96_, l99_, l100_, l101_, l126_, l168_, l808_, l909_, l999_, l1439_, iI_add, iI_sub, iI_mul, iI_neg]
  rw [if_neg (fun z => by have := (iI_eq (by omega) (by omega) (by omega) (by omega)).mp z; omega)]
  refine loop_up (fun k x => ∃ M' : Mm, x = (iI k, M') ∧ (∀ j, M' 18 0 j = if j < k then M 18 0 (101 * (n + 1) + j) else M 18 0 j) ∧ sx (fun c i => c = 18 ∧ i = 0) M M') 101 ?_ ?_ (Nat.zero_le _) ⟨M, rfl, fun j => by rw [if_neg (by omega)], sx_rf⟩
  · rintro R k x hk ⟨M', rfl, f1, f2⟩ hR
    unfold w_X5_undo_L12
    dsimp only
    rw [f2 17 0 (by omega), g2]
    simp only [lm1_, lm2_, lm3_, lm9_, lm10_, lm999_, lm1000_, l0_, l1_, l2_, l3_, l4_, l5_, l6_, l7_, l8_, l9_, l10_, l11_, l12_, l13_, l23_, l24_, l30_, l31_, l33_, l35_, l41_, l42_, l45_, l48_, l57_, l58_, l59_, l60_, l64_, l96_, l99_, l100_, l101_, l126_, l168_, l808_, l909_, l999_, l1439_, iI_add, iI_sub, iI_mul, iI_neg]
    rw [if_neg (fun z => by have := (iI_le (by omega) (by omega) (by omega) (by omega)).mp z; omega)]
    refine s_ldA (by omega) (by omega) (by decide) (s_stN (by omega) (by decide) ?_)
    refine hR _ ⟨_, rfl, fun j => ?_, sx_st f2 ⟨rfl, rfl⟩⟩
    by_cases hj : j = k
    · rw [hj, st_s, if_pos (by omega), f1, if_neg (by omega), show (101 * (((n + 1 : Nat) : Int)) + k).toNat = 101 * (n + 1) + k by omega]
    · rw [st_d hj, f1 j]
      by_cases c : j < k
      · rw [if_pos c, if_pos (by omega)]
      · rw [if_neg c, if_neg (by omega)]
  · rintro R x ⟨M', rfl, f1, f2⟩
    unfold w_X5_undo_L12
    dsimp only
    simp only [lm1_, lm2_, lm3_, lm9_, lm10_, lm999_, lm1000_, l0_, l1_, l2_, l3_, l4_, l5_, l6_, l7_, l8_, l9_, l10_, l11_, l12_, l13_, l23_, l24_, l30_, l31_, l33_, l35_, l41_, l42_, l45_, l48_, l57_, l58_, l59_, l60_, l64_, l96_, l99_, l100_, l101_, l126_, l168_, l808_, l909_, l999_, l1439_, iI_add, iI_sub, iI_mul, iI_neg]
    rw [if_pos ((iI_le (by omega) (by omega) (by omega) (by omega)).mpr (by omega))]
    rw [f2 17 0 (by omega), g2]
    simp only [lm1_, lm2_, lm3_, lm9_, lm10_, lm999_, lm1000_, l0_, l1_, l2_, l3_, l4_, l5_, l6_, l7_, l8_, l9_, l10_, l11_, l12_, l13_, l23_, l24_, l30_, l31_, l33_, l35_, l41_, l42_, l45_, l48_, l57_, l58_, l59_, l60_, l64_, l96_, l99_, l100_, l101_, l126_, l168_, l808_, l909_, l999_, l1439_, iI_add, iI_sub, iI_mul, iI_neg]
    refine s_stF ?_
    rw [st_s, show (((n + 1 : Nat) : Int) - 1) = n by omega]
    obtain ⟨a1, a2⟩ := g3 n (by omega)
    refine hQ _ (a1.shift a2 (fun i hi => ?_)) ⟨by omega, st_s, fun j hj => ?_⟩ (sx_st (sx_mono f2 (fun c i q => ⟨Or.inr q.1, q.2⟩)) ⟨Or.inl rfl, rfl⟩) (fun j hj => by rw [st_d hj, f2 17 0 (by omega)])
    · rw [st_ne _ _ (by omega), Nat.zero_add, f1, if_pos hi]
    · obtain ⟨b1, b2⟩ := g3 j (by omega)
      exact ⟨b1.shift b2 (fun i hi => by rw [st_ne _ _ (by omega), f1, if_neg (by omega)]), b2⟩
end MS
