def dk (A : Ab) (e : Nat) : Nat := (A 1 e - A 0 0).toNat
section STK
variable {M : Mm} {p : Nat} {A : Ab} {B : Nat → Nat → Prop}
theorem s_X0_stack {Q : Mm → Prop} (hP : Pl M p A) (hO : Ok A) (hT : TK M p B) {e : Nat} (he : sh A e) (hfree : ∃ r, r < 24 ∧ ¬ B (dk A e) r)
    (h : ∀ (M' : Mm) (r : Nat), r < 24 → ¬ B (dk A e) r → (∀ q, q < r → B (dk A e) q) → M' 8 p e = iI r → (∀ e', e' ≠ e → M' 8 p e' = M 8 p e') → TK M' p (fun k r' => B k r' ∨ (k = dk A e ∧ r' = r)) → sx (fun c i => (c = 8 ∨ c = 9) ∧ i = p) M M' → Q M') : w_X0_stack p M (iI e) Q := by
  have ob := hO.b
  have he1 := he.1
  have oe := hO.e he1
  obtain ⟨pe1, pe2, pe3, pe4⟩ := hP.2 e he1
  have hd : A 1 e - A 0 0 = dk A e := by unfold dk; have := he.2.2; omega
  have hd2 : dk A e < 42 := by unfold dk; have := he.2.2; omega
  unfold w_X0_stack
  refine s_ldN (by omega) (by decide) ?_
  rw [pe1, hP.1 0 (by decide), iI_sub, hd]
  obtain ⟨T, f1, f2, f3⟩ := hT (dk A e) hd2
  refine s_bI (s_ldN (by omega) (by decide) ?_)
  rw [f1]
  refine s_X0_smallestFree (by omega) (fun r g1 g2 g3 => ?_)
  obtain ⟨r0, z1, z2⟩ := hfree
  have hr0 : r ≤ r0 := Nat.le_of_not_lt (fun z => z2 ((f3 r0).mp (g2 r0 z)))
  refine s_stN (by omega) (by decide) (s_ldN (by omega) (by decide) ?_)
  rw [st_ne _ _ (by omega), f1, bit_set (by omega), bit_or (by omega) (by have := pw_24 r (by omega); omega)]
  refine s_stN (by omega) (by decide) ?_
  have hT1 : TK (st M 8 p e (iI r)) p B := hT.congr (fun k _ => by rw [st_ne _ _ (by omega)]) (fun _ _ _ => Iff.rfl)
  refine h _ r (by omega) (fun z => ?_) (fun q hq => (f3 q).mp (g2 q hq)) ?_ (fun e' he' => ?_) (hT1.set hd2 (by omega) (by rw [st_ne _ _ (by omega)]; exact f1) f2) (sx_st (sx_st sx_rf ⟨Or.inl rfl, rfl⟩) ⟨Or.inr rfl, rfl⟩)
  · have := (f3 r).mpr z
    rw [g3 (by omega)] at this
    cases this
  · rw [st_ne _ _ (by omega), st_s]
  · rw [st_ne _ _ (by omega), st_d he']
/-- the cells of page p -/
def pgc (p : Nat) : Nat → Nat → Prop := fun c i => (c = 5 ∨ c = 6 ∨ c = 8 ∨ c = 9 ∨ c = 10) ∧ i = p ∨ c = 12 ∧ 24 * p ≤ i ∧ i < 24 * p + 24
theorem s_X0_wipe {Q : Mm → Prop} (h : ∀ M', (∀ k, k < 42 → M' 9 p k = iI 0) → (∀ e, e < 24 → M' 8 p e = iI (-9)) → (∀ e w, e < 24 → w < 7 → M' 12 (24 * p + e) w = iI (-9)) → sx (fun c i => (c = 8 ∨ c = 9) ∧ i = p ∨ c = 12 ∧ 24 * p ≤ i ∧ i < 24 * p + 24) M M' → Q M') : w_X0_wipe p M Q := by
  unfold w_X0_wipe
  refine loop_up (fun k x => ∃ M', x = (iI k, M') ∧ (∀ j, j < k → M' 9 p j = iI 0) ∧ sx (fun c i => c = 9 ∧ i = p) M M') 42 ?_ ?_ (Nat.zero_le _) ⟨M, rfl, fun j hj => absurd hj (Nat.not_lt_zero _), sx_rf⟩
  · rintro R k x hk ⟨M', rfl, g1, g2⟩ hR
    unfold w_X0_wipe_L2
    dsimp only
    simp (disch := omega) only [lm1_, lm2_, lm3_, lm9_, lm10_, lm999_, lm1000_, l0_, l1_, l2_, l3_, l4_, l5_, l6_, l7_, l8_, l9_, l10_, l11_, l12_, l13_, l23_, l24_, l30_, l31_, l33_, l35_, l41_, l42_, l45_, l48_, l57_, l58_, l59_, l60_, l64_, l96_, l99_, l100_, l101_, l126_, l168_, l808_, l909_, l900_, l20_, l1440_, l2003_, l15486209_, l2147483647_, l999_, l1439_, iI_add, iI_sub, iI_mul, iI_neg, iI_rem, iI_lt, iI_le, iI_eq, vp_iI, cl_iI, Int.toNat_natCast]
    rw [if_neg (by omega)]
    refine s_stN (by omega) (by decide) (hR _ ⟨_, rfl, fun j hj => ?_, sx_st g2 ⟨rfl, rfl⟩⟩)
    by_cases hjk : j = k
    · rw [hjk, st_s]
    · rw [st_d hjk]
      exact g1 j (by omega)
  · rintro R x ⟨M1, rfl, g1, g2⟩
    unfold w_X0_wipe_L2
    dsimp only
    simp (disch := omega) only [lm1_, lm2_, lm3_, lm9_, lm10_, lm999_, lm1000_, l0_, l1_, l2_, l3_, l4_, l5_, l6_, l7_, l8_, l9_, l10_, l11_, l12_, l13_, l23_, l24_, l30_, l31_, l33_, l35_, l41_, l42_, l45_, l48_, l57_, l58_, l59_, l60_, l64_, l96_, l99_, l100_, l101_, l126_, l168_, l808_, l909_, l900_, l20_, l1440_, l2003_, l15486209_, l2147483647_, l999_, l1439_, iI_add, iI_sub, iI_mul, iI_neg, iI_rem, iI_lt, iI_le, iI_eq, vp_iI, cl_iI, Int.toNat_natCast]
    rw [if_pos (by omega)]
    refine loop_up (fun k x => ∃ M', x = (iI k, M') ∧ (∀ j, j < k → M' 8 p j = iI (-9)) ∧ (∀ e w, e < k → w < 7 → M' 12 (24 * p + e) w = iI (-9)) ∧ sx (fun c i => c = 8 ∧ i = p ∨ c = 12 ∧ 24 * p ≤ i ∧ i < 24 * p + 24) M1 M') 24 ?_ ?_ (Nat.zero_le _) ⟨M1, rfl, fun j hj => absurd hj (Nat.not_lt_zero _), fun j _ hj => absurd hj (Nat.not_lt_zero _), sx_rf⟩
    · rintro R k x hk ⟨M', rfl, f1, f2, f3⟩ hR
      unfold w_X0_wipe_L23
      dsimp only
      simp (disch := omega) only [lm1_, lm2_, lm3_, lm9_, lm10_, lm999_, lm1000_, l0_, l1_, l2_, l3_, l4_, l5_, l6_, l7_, l8_, l9_, l10_, l11_, l12_, l13_, l23_, l24_, l30_, l31_, l33_, l35_, l41_, l42_, l45_, l48_, l57_, l58_, l59_, l60_, l64_, l96_, l99_, l100_, l101_, l126_, l168_, l808_, l909_, l900_, l20_, l1440_, l2003_, l15486209_, l2147483647_, l999_, l1439_, iI_add, iI_sub, iI_mul, iI_neg, iI_rem, iI_lt, iI_le, iI_eq, vp_iI, cl_iI, Int.toNat_natCast]
      rw [if_neg (by omega)]
      refine s_stN (by omega) (by decide) ?_
      refine loop_up (fun q x => ∃ M2, x = (iI q, M2) ∧ (∀ w, w < q → M2 12 (24 * p + k) w = iI (-9)) ∧ sx (fun c i => c = 12 ∧ i = 24 * p + k) (st M' 8 p k (iI (-9))) M2) 7 ?_ ?_ (Nat.zero_le _) ⟨_, rfl, fun j hj => absurd hj (Nat.not_lt_zero _), sx_rf⟩
      · rintro R2 q x hq ⟨M2, rfl, d1, d2⟩ hR2
        unfold w_X0_wipe_L39
        dsimp only
        simp (disch := omega) only [lm1_, lm2_, lm3_, lm9_, lm10_, lm999_, lm1000_, l0_, l1_, l2_, l3_, l4_, l5_, l6_, l7_, l8_, l9_, l10_, l11_, l12_, l13_, l23_, l24_, l30_, l31_, l33_, l35_, l41_, l42_, l45_, l48_, l57_, l58_, l59_, l60_, l64_, l96_, l99_, l100_, l101_, l126_, l168_, l808_, l909_, l900_, l20_, l1440_, l2003_, l15486209_, l2147483647_, l999_, l1439_, iI_add, iI_sub, iI_mul, iI_neg, iI_rem, iI_lt, iI_le, iI_eq, vp_iI, cl_iI, Int.toNat_natCast]
        rw [if_neg (by omega)]
        refine s_ldRN (by omega) (by decide) (s_stN (by omega) (by decide) (hR2 _ ⟨_, rfl, fun w hw => ?_, sx_st d2 ⟨rfl, rfl⟩⟩))
        by_cases hwq : w = q
        · rw [hwq, st_s]
        · rw [st_d hwq]
          exact d1 w (by omega)
      · rintro R2 x ⟨M2, rfl, d1, d2⟩
        unfold w_X0_wipe_L39
        dsimp only
        simp (disch := omega) only [lm1_, lm2_, lm3_, lm9_, lm10_, lm999_, lm1000_, l0_, l1_, l2_, l3_, l4_, l5_, l6_, l7_, l8_, l9_, l10_, l11_, l12_, l13_, l23_, l24_, l30_, l31_, l33_, l35_, l41_, l42_, l45_, l48_, l57_, l58_, l59_, l60_, l64_, l96_, l99_, l100_, l101_, l126_, l168_, l808_, l909_, l900_, l20_, l1440_, l2003_, l15486209_, l2147483647_, l999_, l1439_, iI_add, iI_sub, iI_mul, iI_neg, iI_rem, iI_lt, iI_le, iI_eq, vp_iI, cl_iI, Int.toNat_natCast]
        rw [if_pos (by omega)]
        refine hR _ ⟨_, rfl, fun j hj => ?_, fun e w he hw => ?_, ?_⟩
        · rw [d2 8 p (by omega)]
          by_cases hjk : j = k
          · rw [hjk, st_s]
          · rw [st_d hjk]
            exact f1 j (by omega)
        · by_cases hek : e = k
          · rw [hek]
            exact d1 w hw
          · rw [d2 12 _ (by omega), st_ne _ _ (by omega)]
            exact f2 e w (by omega) hw
        · intro c i hn
          rw [d2 c i (by omega), st_ne _ _ (by omega)]
          exact f3 c i hn
    · rintro R x ⟨M', rfl, f1, f2, f3⟩
      unfold w_X0_wipe_L23
      dsimp only
      simp (disch := omega) only [lm1_, lm2_, lm3_, lm9_, lm10_, lm999_, lm1000_, l0_, l1_, l2_, l3_, l4_, l5_, l6_, l7_, l8_, l9_, l10_, l11_, l12_, l13_, l23_, l24_, l30_, l31_, l33_, l35_, l41_, l42_, l45_, l48_, l57_, l58_, l59_, l60_, l64_, l96_, l99_, l100_, l101_, l126_, l168_, l808_, l909_, l900_, l20_, l1440_, l2003_, l15486209_, l2147483647_, l999_, l1439_, iI_add, iI_sub, iI_mul, iI_neg, iI_rem, iI_lt, iI_le, iI_eq, vp_iI, cl_iI, Int.toNat_natCast]
      rw [if_pos (by omega)]
      refine h M' (fun k hk => ?_) f1 f2 (fun c i hn => ?_)
      · rw [f3 9 p (by omega)]
        exact g1 k hk
      · rw [f3 c i (by omega), g2 c i (by omega)]
end STK
