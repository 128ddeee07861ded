section MDR
variable {M : Mm} {A : Ab} {h : Nat → Ab} {n : Nat} {Q : Int32 → Mm → Prop}
theorem s_X5_drop (hP : Pm M 0 A) (hO : Ok A) (hh : Hm M h n) {a : Int} (ha : i32 a) (h1 : ∀ e : Nat, a = e → (e : Int) < A 0 4 → ∀ M', Rs M M' A (dropE A e) h n → Q (iI (A 0 4 - 1)) M') (h0 : ¬ (0 ≤ a ∧ a < A 0 4) → Q (iI (-1)) M) : w_X5_drop M (iI a) Q := by
  have ob := hO.b
  unfold w_X5_drop
  simp only [lm1_, lm2_, lm3_, lm9_, lm10_, lm999_, lm1000_, l0_, l1_, l2_, l3_, l4_, l5_, l6_, l7_, l8_, l9_, l10_, l11_, l12_, l13_, l23_, l24_, l30_, l31_, l33_, l35_, l41_, l42_, l45_, l48_, l57_, l58_, l59_, l60_, l64_, l96_, l99_, l100_, l101_, l126_, l168_, l808_, l909_, l999_, l1439_, iI_add, iI_sub, iI_mul, iI_neg]
  refine s_X5_isEntry hP hO ha (fun c1 => z1 ?_) (fun c1 => z0 (h0 c1))
  obtain ⟨e, rfl⟩ : ∃ e : Nat, a = e := ⟨a.toNat, by omega⟩
  have he := c1.2
  obtain ⟨k0, hk0⟩ : ∃ k : Nat, A 0 4 = k := ⟨(A 0 4).toNat, by omega⟩
  have h1 := h1 e rfl he
  rw [hk0] at h1
  refine s_X5_records hP hO hh (fun M1 k1 k2 k3 k4 => ?_)
  refine s_pg k1 (j := 4) (by decide) rfl ?_
  rw [show iI (A 0 4) = iI k0 by rw [hk0]]
  simp only [lm1_, lm2_, lm3_, lm9_, lm10_, lm999_, lm1000_, l0_, l1_, l2_, l3_, l4_, l5_, l6_, l7_, l8_, l9_, l10_, l11_, l12_, l13_, l23_, l24_, l30_, l31_, l33_, l35_, l41_, l42_, l45_, l48_, l57_, l58_, l59_, l60_, l64_, l96_, l99_, l100_, l101_, l126_, l168_, l808_, l909_, l999_, l1439_, iI_add, iI_sub, iI_mul, iI_neg]
  refine s_stA (j := 4) (by omega) (by omega) (by decide) ?_
  rw [show Int.toNat 4 = 4 from rfl]
  refine s_bI ?_
  have hlt : ∀ j, 101 ≤ j → st M1 18 0 4 (iI ((k0 : Int) - 1)) 18 0 j = M1 18 0 j := fun j hj => st_d (by omega)
  refine loop_up (fun k x => 5 + 4 * e ≤ k ∧ ∃ M' : Mm, x = (iI k, M') ∧ (∀ j, j ≠ 4 → M' 18 0 j = if 5 + 4 * e ≤ j ∧ j < k then M1 18 0 (j + 4) else M1 18 0 j) ∧ M' 18 0 4 = iI ((k0 : Int) - 1) ∧ sx (fun c i => c = 18 ∧ i = 0) M1 M') (5 + 4 * (k0 - 1)) ?_ ?_ (i := 5 + 4 * e) (by omega) ⟨Nat.le_refl _, _, by rw [show ((5 + 4 * e : Nat) : Int) = 5 + 4 * (e : Int) by omega], fun j hj => by rw [st_d hj, if_neg (by omega)], st_s, sx_st sx_rf ⟨rfl, rfl⟩⟩
  · rintro R k x hk ⟨hek, M', rfl, f1, f4, f2⟩ hR
    unfold w_X5_drop_L30
    dsimp only
    simp only [lm1_, lm2_, lm3_, lm9_, lm10_, lm999_, lm1000_, l0_, l1_, l2_, l3_, l4_, l5_, l6_, l7_, l8_, l9_, l10_, l11_, l12_, l13_, l23_, l24_, l30_, l31_, l33_, l35_, l41_, l42_, l45_, l48_, l57_, l58_, l59_, l60_, l64_, l96_, l99_, l100_, l101_, l126_, l168_, l808_, l909_, l999_, l1439_, iI_add, iI_sub, iI_mul, iI_neg]
    refine s_ldA (j := 4) (by omega) (by omega) (by decide) ?_
    rw [show Int.toNat 4 = 4 from rfl, f4]
    simp only [lm1_, lm2_, lm3_, lm9_, lm10_, lm999_, lm1000_, l0_, l1_, l2_, l3_, l4_, l5_, l6_, l7_, l8_, l9_, l10_, l11_, l12_, l13_, l23_, l24_, l30_, l31_, l33_, l35_, l41_, l42_, l45_, l48_, l57_, l58_, l59_, l60_, l64_, l96_, l99_, l100_, l101_, l126_, l168_, l808_, l909_, l999_, l1439_, iI_add, iI_sub, iI_mul, iI_neg]
    rw [if_neg (fun z => by have := (iI_le (by omega) (by omega) (by omega) (by omega)).mp z; omega)]
    refine s_ldA (by omega) (by omega) (by decide) (s_stN (by omega) (by decide) ?_)
    refine hR _ ⟨by omega, _, rfl, fun j hj4 => ?_, by rw [st_d (by omega), f4], sx_st f2 ⟨rfl, rfl⟩⟩
    by_cases hj : j = k
    · rw [hj, st_s, if_pos (by omega), show ((k : Int) + 4).toNat = k + 4 by omega, f1 _ (by omega), if_neg (by omega)]
    · rw [st_d hj, f1 j hj4]
      by_cases c : 5 + 4 * e ≤ j ∧ j < k
      · rw [if_pos c, if_pos (by omega)]
      · rw [if_neg c, if_neg (by omega)]
  · rintro R x ⟨_, M', rfl, f1, f4, f2⟩
    unfold w_X5_drop_L30
    dsimp only
    simp only [lm1_, lm2_, lm3_, lm9_, lm10_, lm999_, lm1000_, l0_, l1_, l2_, l3_, l4_, l5_, l6_, l7_, l8_, l9_, l10_, l11_, l12_, l13_, l23_, l24_, l30_, l31_, l33_, l35_, l41_, l42_, l45_, l48_, l57_, l58_, l59_, l60_, l64_, l96_, l99_, l100_, l101_, l126_, l168_, l808_, l909_, l999_, l1439_, iI_add, iI_sub, iI_mul, iI_neg]
    refine s_ldA (j := 4) (by omega) (by omega) (by decide) ?_
    rw [show Int.toNat 4 = 4 from rfl, f4]
    simp only [lm1_, lm2_, lm3_, lm9_, lm10_, lm999_, lm1000_, l0_, l1_, l2_, l3_, l4_, l5_, l6_, l7_, l8_, l9_, l10_, l11_, l12_, l13_, l23_, l24_, l30_, l31_, l33_, l35_, l41_, l42_, l45_, l48_, l57_, l58_, l59_, l60_, l64_, l96_, l99_, l100_, l101_, l126_, l168_, l808_, l909_, l999_, l1439_, iI_add, iI_sub, iI_mul, iI_neg]
    rw [if_pos ((iI_le (by omega) (by omega) (by omega) (by omega)).mpr (by omega))]
    refine s_ldA (j := 4) (by omega) (by omega) (by decide) ?_
    rw [show Int.toNat 4 = 4 from rfl, f4]
    refine h1 M' ⟨⟨fun j hj => ?_, fun o ho => ?_⟩, ⟨k2.1, by rw [f2 17 0 (by omega)]; exact k2.2.1, fun j hj => ?_⟩, fun c i hci => by rw [f2 c i (by omega), k3 c i hci], fun j hj => by rw [f2 17 0 (by omega), k4 j hj]⟩
    · rw [Nat.zero_add]
      by_cases h4 : j = 4
      · rw [h4, f4]
        simp [dropE, hk0]
      · rw [f1 j h4, if_neg (by omega), k1.z hj]
        simp [dropE, h4]
    · have ho2 : (o : Int) < A 0 4 - 1 := by simpa [dropE] using ho
      simp only [Nat.zero_add]
      by_cases hoe : o < e
      · have p1 := k1.y (e := o) (by omega)
        rw [f1 _ (by omega), f1 _ (by omega), f1 _ (by omega), f1 _ (by omega), if_neg (by omega), if_neg (by omega), if_neg (by omega), if_neg (by omega)]
        simp [dropE, hoe, p1]
      · have p2 := k1.y (e := o + 1) (by omega)
        rw [f1 _ (by omega), f1 _ (by omega), f1 _ (by omega), f1 _ (by omega), if_pos (by omega), if_pos (by omega), if_pos (by omega), if_pos (by omega)]
        rw [show 5 + 4 * o + 4 = 5 + 4 * (o + 1) by omega, show 5 + 4 * o + 1 + 4 = 5 + 4 * (o + 1) + 1 by omega, show 5 + 4 * o + 2 + 4 = 5 + 4 * (o + 1) + 2 by omega, show 5 + 4 * o + 3 + 4 = 5 + 4 * (o + 1) + 3 by omega]
        simp [dropE, hoe, p2]
    · obtain ⟨b1, b2⟩ := k2.2.2 j hj
      exact ⟨b1.shift b2 (fun i hi => by rw [f1 _ (by omega), if_neg (by omega)]), b2⟩
end MDR
