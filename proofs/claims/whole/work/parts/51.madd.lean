section MAD
variable {M : Mm} {A : Ab} {h : Nat → Ab} {n : Nat} {Q : Int32 → Mm → Prop}
theorem Pm.add (hP : Pm M 0 A) (hO : Ok A) {k : Nat} (hk : A 0 4 = k) {a b t r : Int} : Pm (st (st (st (st (st M 18 0 (5 + 4 * k) (iI a)) 18 0 (5 + 4 * k + 1) (iI b)) 18 0 (5 + 4 * k + 2) (iI t)) 18 0 (5 + 4 * k + 3) (iI r)) 18 0 4 (iI ((k : Int) + 1))) 0 (addE A a b t r) := by
  refine ⟨fun j hj => ?_, fun e he => ?_⟩
  · rw [Nat.zero_add]
    by_cases h4 : j = 4
    · rw [h4, st_s]
      simp [addE, hk]
    · rw [st_d h4, st_d (by omega), st_d (by omega), st_d (by omega), st_d (by omega), hP.z hj]
      simp [addE, h4]
  · have he2 : (e : Int) < k + 1 := by
      have : addE A a b t r 0 4 = A 0 4 + 1 := by simp [addE]
      omega
    simp only [Nat.zero_add]
    by_cases hek : e = k
    · subst hek
      refine ⟨?_, ?_, ?_, ?_⟩
      · rw [st_d (by omega), st_d (by omega), st_d (by omega), st_d (by omega), st_s]; simp [addE, hk]
      · rw [st_d (by omega), st_d (by omega), st_d (by omega), st_s]; simp [addE, hk]
      · rw [st_d (by omega), st_d (by omega), st_s]; simp [addE, hk]
      · rw [st_d (by omega), st_s]; simp [addE, hk]
    · have h3 : ¬ (e : Int) = k := by omega
      have h9 := hP.y (e := e) (by omega)
      rw [st_d (by omega), st_d (by omega), st_d (by omega), st_d (by omega), st_d (by omega)]
      rw [st_d (by omega), st_d (by omega), st_d (by omega), st_d (by omega), st_d (by omega)]
      rw [st_d (by omega), st_d (by omega), st_d (by omega), st_d (by omega), st_d (by omega)]
      rw [st_d (by omega), st_d (by omega), st_d (by omega), st_d (by omega), st_d (by omega)]
      simp only [addE, hk, if_neg h3]
      simp
      exact h9
theorem s_X5_add (hP : Pm M 0 A) (hO : Ok A) (hh : Hm M h n) {a b t r : Int} (ha : i32 a) (hb : i32 b) (ht : i32 t) (hr : i32 r) (h1 : (0 ≤ a ∧ a ≤ b ∧ b ≤ 999) ∧ tmo t ∧ 0 ≤ r ∧ r ≤ 9 → A 0 4 < 24 → ∀ M', Rs M M' A (addE A a b t r) h n → Q (iI (A 0 4)) M') (h3 : (0 ≤ a ∧ a ≤ b ∧ b ≤ 999) ∧ tmo t ∧ 0 ≤ r ∧ r ≤ 9 → A 0 4 = 24 → Q (iI (-3)) M) (h0 : ¬ ((0 ≤ a ∧ a ≤ b ∧ b ≤ 999) ∧ tmo t ∧ 0 ≤ r ∧ r ≤ 9) → Q (iI (-1)) M) : w_X5_add M (iI a) (iI b) (iI t) (iI r) Q := by
  have ob := hO.b
  unfold w_X5_add
  simp only [lm1_, lm2_, lm3_, lm9_, lm10_, lm999_, lm1000_, l0_, l1_, l2_, l3_, l4_, l5_, l6_, l7_, l8_, l9_, l10_, l11_, l12_, l13_, l23_, l24_, l30_, l31_, l33_, l35_, l41_, l42_, l45_, l48_, l57_, l58_, l59_, l60_, l64_, l96_, l99_, l100_, l101_, l126_, l168_, l808_, l909_, l999_, l1439_, iI_add, iI_sub, iI_mul, iI_neg]
  refine s_X5_isDay ha (fun c1 => z1 (s_X5_in hb (by omega) (by omega) (fun c2 => z1 (s_X5_isTime ht (fun c3 => z1 (s_X5_in hr (by omega) (by omega) (fun c4 => z1 ?_) (fun c4 => z0 (h0 (fun z => c4 z.2.2))))) (fun c3 => z0 (h0 (fun z => c3 z.2.1))))) (fun c2 => z0 (h0 (fun z => c2 ⟨z.1.2.1, z.1.2.2⟩))))) (fun c1 => z0 (h0 (fun z => c1 (by have := z.1; omega))))
  have ok : (0 ≤ a ∧ a ≤ b ∧ b ≤ 999) ∧ tmo t ∧ 0 ≤ r ∧ r ≤ 9 := ⟨⟨c1.1, c2⟩, c3, c4⟩
  refine s_pg hP (j := 4) (by decide) rfl ?_
  refine s_if (fun q => ?_) (fun q => ?_)
  · exact h3 ok ((iI_eq (by omega) (by omega) (by omega) (by omega)).mp q)
  · have hc : A 0 4 < 24 := by
      have : ¬ A 0 4 = 24 := fun z => q (by rw [z])
      omega
    obtain ⟨k, hk⟩ : ∃ k : Nat, A 0 4 = k := ⟨(A 0 4).toNat, by omega⟩
    refine s_X5_records hP hO hh (fun M1 k1 k2 k3 k4 => ?_)
    refine s_pg k1 (j := 4) (by decide) rfl ?_
    have h1 := h1 ok hc
    rw [hk] at h1
    rw [show iI (A 0 4) = iI k by rw [hk]]
    simp only [lm1_, lm2_, lm3_, lm9_, lm10_, lm999_, lm1000_, l0_, l1_, l2_, l3_, l4_, l5_, l6_, l7_, l8_, l9_, l10_, l11_, l12_, l13_, l23_, l24_, l30_, l31_, l33_, l35_, l41_, l42_, l45_, l48_, l57_, l58_, l59_, l60_, l64_, l96_, l99_, l100_, l101_, l126_, l168_, l808_, l909_, l999_, l1439_, iI_add, iI_sub, iI_mul, iI_neg]
    refine s_stA (by omega) (by omega) (by decide) (s_stA (by omega) (by omega) (by decide) (s_stA (by omega) (by omega) (by decide) (s_stA (by omega) (by omega) (by decide) ?_)))
    rw [show (5 + 4 * (k : Int)).toNat = 5 + 4 * k by omega, show (5 + 4 * (k : Int) + 1).toNat = 5 + 4 * k + 1 by omega, show (5 + 4 * (k : Int) + 2).toNat = 5 + 4 * k + 2 by omega, show (5 + 4 * (k : Int) + 3).toNat = 5 + 4 * k + 3 by omega]
    have q4 := k1.z (j := 4) (by decide)
    refine s_ldA (j := 4) (by omega) (by omega) (by decide) ?_
    rw [show Int.toNat 4 = 4 from rfl, st_d (by omega), st_d (by omega), st_d (by omega), st_d (by omega), q4, hk]
    simp only [lm1_, lm2_, lm3_, lm9_, lm10_, lm999_, lm1000_, l0_, l1_, l2_, l3_, l4_, l5_, l6_, l7_, l8_, l9_, l10_, l11_, l12_, l13_, l23_, l24_, l30_, l31_, l33_, l35_, l41_, l42_, l45_, l48_, l57_, l58_, l59_, l60_, l64_, l96_, l99_, l100_, l101_, l126_, l168_, l808_, l909_, l999_, l1439_, iI_add, iI_sub, iI_mul, iI_neg]
    refine s_stA (j := 4) (by omega) (by omega) (by decide) ?_
    refine h1 _ ⟨k1.add hO hk, ((((k2.st (by omega)).st (by omega)).st (by omega)).st (by omega)).st (by decide), sx_st (sx_st (sx_st (sx_st (sx_st k3 ⟨Or.inr rfl, rfl⟩) ⟨Or.inr rfl, rfl⟩) ⟨Or.inr rfl, rfl⟩) ⟨Or.inr rfl, rfl⟩) ⟨Or.inr rfl, rfl⟩, fun j hj => ?_⟩
    rw [st_ne _ _ (by omega), st_ne _ _ (by omega), st_ne _ _ (by omega), st_ne _ _ (by omega), st_ne _ _ (by omega), k4 j hj]
end MAD
