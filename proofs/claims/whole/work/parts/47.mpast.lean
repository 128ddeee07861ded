/-- what the reference remembers -/
def Hm (M : Mm) (h : Nat → Ab) (n : Nat) : Prop := n ≤ 8 ∧ M 17 0 1 = iI n ∧ ∀ j, j < n → Pm M (101 * (j + 1)) (h j) ∧ Ok (h j)
theorem Pm.shift {M M' : Mm} {s s' : Nat} {A : Ab} (h : Pm M s A) (hO : Ok A) (hc : ∀ j, j < 101 → M' 18 0 (s' + j) = M 18 0 (s + j)) : Pm M' s' A := by
  have ob := hO.b
  refine ⟨fun j hj => ?_, fun e he => ?_⟩
  · rw [hc j (by omega)]
    exact h.1 j hj
  · rw [hc _ (by omega), hc _ (by omega), hc _ (by omega), hc _ (by omega)]
    exact h.2 e he
section RP
variable {M : Mm} {A : Ab} {h : Nat → Ab} {n : Nat}
theorem s_mrec2 (hP : Pm M 0 A) (hO : Ok A) (hh : Hm M h n) (hn : n < 8) {K : Int32 × Mm → Prop} (hK : ∀ (x : Int32) (M' : Mm), Pm M' 0 A → Hm M' (fun j => if j = n then A else h j) (n + 1) → sx (fun c i => c = 18 ∧ i = 0) (st M 17 0 1 (iI ((n : Int) + 1))) M' → K (x, M')) : ∃ k, loop (w_X5_records_L62 K) k (iI 0, st M 17 0 1 (iI ((n : Int) + 1))) := by
  obtain ⟨g1, g2, g3⟩ := hh
  generalize hM1 : st M 17 0 1 (iI ((n : Int) + 1)) = M1
  have e17 : M1 17 0 1 = iI ((n : Int) + 1) := by rw [← hM1, st_s]
  have e18 : M1 18 0 = M 18 0 := by rw [← hM1]; exact st_ne _ _ (by omega)
  refine loop_up (fun k x => ∃ M' : Mm, x = (iI k, M') ∧ (∀ j, M' 18 0 j = if 101 * (n + 1) ≤ j ∧ j < 101 * (n + 1) + k then M 18 0 (j - 101 * (n + 1)) else M 18 0 j) ∧ sx (fun c i => c = 18 ∧ i = 0) M1 M') 101 ?_ ?_ (Nat.zero_le _) ⟨M1, rfl, fun j => by rw [if_neg (by omega), e18], sx_rf⟩
  · rintro R k x hk ⟨M', rfl, f1, f2⟩ hR
    unfold w_X5_records_L62
    dsimp only
    rw [f2 17 0 (by omega), e17]
    simp only [lm1_, lm2_, lm3_, lm9_, lm10_, lm999_, lm1000_, l0_, l1_, l2_, l3_, l4_, l5_, l6_, l7_, l8_, l9_, l10_, l11_, l12_, l13_, l23_, l24_, l30_, l31_, l33_, l35_, l41_, l42_, l45_, l48_, l57_, l58_, l59_, l60_, l64_, l96_, l99_, l100_, l101_, l126_, l168_, l808_, l909_, l999_, l1439_, iI_add, iI_sub, iI_mul, iI_neg]
    rw [if_neg (fun z => by have := (iI_le (by omega) (by omega) (by omega) (by omega)).mp z; omega)]
    refine s_ldN (by omega) (by decide) (s_stA (by omega) (by omega) (by decide) ?_)
    refine hR _ ⟨_, rfl, fun j => ?_, sx_st f2 ⟨rfl, rfl⟩⟩
    by_cases hj : j = 101 * (n + 1) + k
    · rw [if_pos (by omega), show (101 * ((n : Int) + 1) + k).toNat = j by omega, st_s, f1 k, if_neg (by omega), show j - 101 * (n + 1) = k by omega]
    · rw [st_d (by omega), f1 j]
      by_cases c : 101 * (n + 1) ≤ j ∧ j < 101 * (n + 1) + k
      · rw [if_pos c, if_pos (by omega)]
      · rw [if_neg c, if_neg (by omega)]
  · rintro R x ⟨M', rfl, f1, f2⟩
    unfold w_X5_records_L62
    dsimp only
    simp only [lm1_, lm2_, lm3_, lm9_, lm10_, lm999_, lm1000_, l0_, l1_, l2_, l3_, l4_, l5_, l6_, l7_, l8_, l9_, l10_, l11_, l12_, l13_, l23_, l24_, l30_, l31_, l33_, l35_, l41_, l42_, l45_, l48_, l57_, l58_, l59_, l60_, l64_, l96_, l99_, l100_, l101_, l126_, l168_, l808_, l909_, l999_, l1439_, iI_add, iI_sub, iI_mul, iI_neg]
    rw [if_pos ((iI_le (by omega) (by omega) (by omega) (by omega)).mpr (by omega))]
    refine hK _ M' (hP.shift hO (fun j hj => by rw [Nat.zero_add, f1, if_neg (by omega)])) ⟨by omega, by rw [f2 17 0 (by omega), e17]; rfl, fun j hj => ?_⟩ (by rw [hM1]; exact f2)
    by_cases hjn : j = n
    · rw [hjn]
      dsimp only
      rw [if_pos rfl]
      exact ⟨hP.shift hO (fun i hi => by rw [f1, if_pos (by omega), show 101 * (n + 1) + i - 101 * (n + 1) = 0 + i by omega]), hO⟩
    · dsimp only
      rw [if_neg hjn]
      obtain ⟨a1, a2⟩ := g3 j (by omega)
      exact ⟨a1.shift a2 (fun i hi => by rw [f1, if_neg (by omega)]), a2⟩
theorem s_X5_records {Q : Mm → Prop} (hP : Pm M 0 A) (hO : Ok A) (hh : Hm M h n) (hQ : ∀ M', Pm M' 0 A → Hm M' (recH h n A) (recN n) → sx (fun c i => (c = 17 ∨ c = 18) ∧ i = 0) M M' → (∀ j, j ≠ 1 → M' 17 0 j = M 17 0 j) → Q M') : w_X5_records M Q := by
  have hn8 := hh.1
  have hn := hh.2.1
  unfold w_X5_records
  rw [hn]
  by_cases h8 : n = 8
  · subst h8
    refine s_letJ (fun m => Pm m 0 A ∧ Hm m (fun j => h (j + 1)) 7 ∧ sx (fun c i => (c = 17 ∨ c = 18) ∧ i = 0) M m ∧ ∀ j, j ≠ 1 → m 17 0 j = M 17 0 j) (fun J hJ => ?_) (fun m hm => ?_)
    · simp only [lm1_, lm2_, lm3_, lm9_, lm10_, lm999_, lm1000_, l0_, l1_, l2_, l3_, l4_, l5_, l6_, l7_, l8_, l9_, l10_, l11_, l12_, l13_, l23_, l24_, l30_, l31_, l33_, l35_, l41_, l42_, l45_, l48_, l57_, l58_, l59_, l60_, l64_, l96_, l99_, l100_, l101_, l126_, l168_, l808_, l909_, l999_, l1439_, iI_add, iI_sub, iI_mul, iI_neg]
      rw [if_pos (show iI ((8 : Nat) : Int) = iI 8 from rfl)]
      refine loop_up (fun k x => 101 ≤ k ∧ ∃ M' : Mm, x = (iI k, M') ∧ (∀ j, M' 18 0 j = if 101 ≤ j ∧ j < k then M 18 0 (j + 101) else M 18 0 j) ∧ sx (fun c i => c = 18 ∧ i = 0) M M') 808 ?_ ?_ (i := 101) (by omega) ⟨Nat.le_refl _, M, rfl, fun j => by rw [if_neg (by omega)], sx_rf⟩
      · rintro R k x hk ⟨hk1, M', rfl, f1, f2⟩ hR
        unfold w_X5_records_L12
        dsimp only
        simp only [lm1_, lm2_, lm3_, lm9_, lm10_, lm999_, lm1000_, l0_, l1_, l2_, l3_, l4_, l5_, l6_, l7_, l8_, l9_, l10_, l11_, l12_, l13_, l23_, l24_, l30_, l31_, l33_, l35_, l41_, l42_, l45_, l48_, l57_, l58_, l59_, l60_, l64_, l96_, l99_, l100_, l101_, l126_, l168_, l808_, l909_, l999_, l1439_, iI_add, iI_sub, iI_mul, iI_neg]
        rw [if_neg (fun z => by have := (iI_le (by omega) (by omega) (by omega) (by omega)).mp z; omega)]
        refine s_ldA (by omega) (by omega) (by decide) (s_stN (by omega) (by decide) ?_)
        refine hR _ ⟨by omega, _, rfl, fun j => ?_, sx_st f2 ⟨rfl, rfl⟩⟩
        by_cases hj : j = k
        · rw [hj, st_s, if_pos (by omega), show ((k : Int) + 101).toNat = k + 101 by omega, f1, if_neg (by omega)]
        · rw [st_d hj, f1 j]
          by_cases c : 101 ≤ j ∧ j < k
          · rw [if_pos c, if_pos (by omega)]
          · rw [if_neg c, if_neg (by omega)]
      · rintro R x ⟨_, M', rfl, f1, f2⟩
        unfold w_X5_records_L12
        dsimp only
        simp only [lm1_, lm2_, lm3_, lm9_, lm10_, lm999_, lm1000_, l0_, l1_, l2_, l3_, l4_, l5_, l6_, l7_, l8_, l9_, l10_, l11_, l12_, l13_, l23_, l24_, l30_, l31_, l33_, l35_, l41_, l42_, l45_, l48_, l57_, l58_, l59_, l60_, l64_, l96_, l99_, l100_, l101_, l126_, l168_, l808_, l909_, l999_, l1439_, iI_add, iI_sub, iI_mul, iI_neg]
        rw [if_pos ((iI_le (by omega) (by omega) (by omega) (by omega)).mpr (by omega))]
        rw [f2 17 0 (by omega), hn]
        simp only [lm1_, lm2_, lm3_, lm9_, lm10_, lm999_, lm1000_, l0_, l1_, l2_, l3_, l4_, l5_, l6_, l7_, l8_, l9_, l10_, l11_, l12_, l13_, l23_, l24_, l30_, l31_, l33_, l35_, l41_, l42_, l45_, l48_, l57_, l58_, l59_, l60_, l64_, l96_, l99_, l100_, l101_, l126_, l168_, l808_, l909_, l999_, l1439_, iI_add, iI_sub, iI_mul, iI_neg]
        refine s_stF (hJ _ ⟨?_, ⟨by omega, by rw [st_s]; rfl, fun j hj => ?_⟩, ?_, fun j hj => ?_⟩)
        · refine hP.shift hO (fun j hj => ?_)
          rw [st_ne _ _ (by omega), Nat.zero_add, f1, if_neg (by omega)]
        · obtain ⟨a1, a2⟩ := hh.2.2 (j + 1) (by omega)
          refine ⟨a1.shift a2 (fun i hi => ?_), a2⟩
          rw [st_ne _ _ (by omega), f1, if_pos (by omega), show 101 * (j + 1) + i + 101 = 101 * (j + 1 + 1) + i by omega]
        · exact sx_st (sx_mono f2 (fun c i q => ⟨Or.inr q.1, q.2⟩)) ⟨Or.inl rfl, rfl⟩
        · rw [st_d hj, f2 17 0 (by omega)]
    · obtain ⟨m1, m2, m3, m4⟩ := hm
      rw [m2.2.1]
      simp only [lm1_, lm2_, lm3_, lm9_, lm10_, lm999_, lm1000_, l0_, l1_, l2_, l3_, l4_, l5_, l6_, l7_, l8_, l9_, l10_, l11_, l12_, l13_, l23_, l24_, l30_, l31_, l33_, l35_, l41_, l42_, l45_, l48_, l57_, l58_, l59_, l60_, l64_, l96_, l99_, l100_, l101_, l126_, l168_, l808_, l909_, l999_, l1439_, iI_add, iI_sub, iI_mul, iI_neg]
      refine s_stF (s_mrec2 m1 hO m2 (by omega) (fun x M' k1 k2 k3 => ?_))
      have s7 : sx (fun c i => c = 17 ∧ i = 0) m (st m 17 0 1 (iI (((7 : Nat) : Int) + 1))) := sx_st sx_rf ⟨rfl, rfl⟩
      refine hQ M' k1 ?_ (fun c i hci => by rw [k3 c i (by omega), s7 c i (by omega), m3 c i hci]) (fun j hj => by rw [k3 17 0 (by omega), st_d hj, m4 j hj])
      exact k2
  · refine s_letV M (fun J hJ => ?_) ?_
    · simp only [lm1_, lm2_, lm3_, lm9_, lm10_, lm999_, lm1000_, l0_, l1_, l2_, l3_, l4_, l5_, l6_, l7_, l8_, l9_, l10_, l11_, l12_, l13_, l23_, l24_, l30_, l31_, l33_, l35_, l41_, l42_, l45_, l48_, l57_, l58_, l59_, l60_, l64_, l96_, l99_, l100_, l101_, l126_, l168_, l808_, l909_, l999_, l1439_, iI_add, iI_sub, iI_mul, iI_neg]
      rw [if_neg (fun z => by have := (iI_eq (by omega) (by omega) (by omega) (by omega)).mp z; omega)]
      exact hJ
    · rw [hn]
      simp only [lm1_, lm2_, lm3_, lm9_, lm10_, lm999_, lm1000_, l0_, l1_, l2_, l3_, l4_, l5_, l6_, l7_, l8_, l9_, l10_, l11_, l12_, l13_, l23_, l24_, l30_, l31_, l33_, l35_, l41_, l42_, l45_, l48_, l57_, l58_, l59_, l60_, l64_, l96_, l99_, l100_, l101_, l126_, l168_, l808_, l909_, l999_, l1439_, iI_add, iI_sub, iI_mul, iI_neg]
      refine s_stF (s_mrec2 hP hO hh (by omega) (fun x M' k1 k2 k3 => ?_))
      have s7 : sx (fun c i => c = 17 ∧ i = 0) M (st M 17 0 1 (iI ((n : Int) + 1))) := sx_st sx_rf ⟨rfl, rfl⟩
      refine hQ M' k1 ?_ (fun c i hci => by rw [k3 c i (by omega), s7 c i (by omega)]) (fun j hj => by rw [k3 17 0 (by omega), st_d hj])
      have hlt : n < 8 := by omega
      rw [recH, if_pos hlt, recN, if_pos hlt]
      exact k2
end RP
