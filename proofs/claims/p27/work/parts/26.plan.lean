/-- nothing else has changed -/
def sx (P : Nat → Nat → Prop) (M M' : Mm) : Prop := ∀ c i, ¬ P c i → M' c i = M c i
theorem sx_rf {P : Nat → Nat → Prop} {M : Mm} : sx P M M := fun _ _ _ => rfl
theorem sx_st {P : Nat → Nat → Prop} {M M' : Mm} {c i j : Nat} {v : Int32} (h : sx P M M') (hp : P c i) : sx P M (st M' c i j v) := fun c' i' hn => by
  rw [st_ne _ _ (fun q => hn (by rw [q.1, q.2]; exact hp))]
  exact h c' i' hn
theorem sx_tr {P P' : Nat → Nat → Prop} {M M' M'' : Mm} (h : sx P M M') (h' : sx P' M' M'') : sx (fun c i => P c i ∨ P' c i) M M'' := fun c i hn => by
  rw [h' c i (fun q => hn (Or.inr q)), h c i (fun q => hn (Or.inl q))]
theorem sx_mono {P P' : Nat → Nat → Prop} {M M' : Mm} (h : sx P M M') (hp : ∀ c i, P c i → P' c i) : sx P' M M' := fun c i hn => h c i (fun q => hn (hp c i q))
theorem st_s {M : Mm} {c i j : Nat} {v : Int32} : st M c i j v c i j = v := by simp [st]
theorem st_d {M : Mm} {c i j j' : Nat} {v : Int32} (h : j' ≠ j) : st M c i j v c i j' = M c i j' := by simp [st, h]
/-- the cells of plan i -/
def plc (i : Nat) : Nat → Nat → Prop := fun c i' => (c = 11 ∨ c = 13 ∨ c = 14 ∨ c = 15 ∨ c = 16) ∧ i' = i
theorem Pl.sx {P : Nat → Nat → Prop} {M M' : Mm} {i : Nat} {A : Ab} (h : Pl M i A) (hs : sx P M M') (hn : ¬ P 11 i ∧ ¬ P 13 i ∧ ¬ P 14 i ∧ ¬ P 15 i ∧ ¬ P 16 i) : Pl M' i A := by
  refine ⟨fun j hj => ?_, fun e he => ?_⟩
  · rw [hs 11 i hn.1]; exact h.1 j hj
  · rw [hs 13 i hn.2.1, hs 14 i hn.2.2.1, hs 15 i hn.2.2.2.1, hs 16 i hn.2.2.2.2]; exact h.2 e he
theorem s_stF {M : Mm} {c i j : Nat} {x : Int32} {K : Mm → Prop} (h : K (st M c i j x)) : stF M c i j x K := h
theorem s_X2_copy {M : Mm} {i j : Nat} {A : Ab} {Q : Mm → Prop} (hP : Pl M j A) (hO : Ok A) (hij : i ≠ j) (h : ∀ M', Pl M' i A → sx (plc i) M M' → Q M') : w_X2_copy i j M Q := by
  have ob := hO.b
  unfold w_X2_copy
  refine s_stF (s_stF (s_stF (s_stF (s_stF ?_))))
  generalize hM1 : st (st (st (st (st M 11 i 0 (M 11 j 0)) 11 i 1 _) 11 i 2 _) 11 i 3 _) 11 i 4 _ = M1
  have hji : j ≠ i := fun q => hij q.symm
  have f1 : ∀ k, k < 5 → M1 11 i k = M 11 j k := by
    intro k hk
    rw [← hM1]
    rcases (show k = 0 ∨ k = 1 ∨ k = 2 ∨ k = 3 ∨ k = 4 by omega) with rfl | rfl | rfl | rfl | rfl <;> simp [st, hji]
  have f2 : sx (plc i) M M1 := by
    rw [← hM1]
    exact sx_st (sx_st (sx_st (sx_st (sx_st sx_rf ⟨Or.inl rfl, rfl⟩) ⟨Or.inl rfl, rfl⟩) ⟨Or.inl rfl, rfl⟩) ⟨Or.inl rfl, rfl⟩) ⟨Or.inl rfl, rfl⟩
  clear hM1
  refine loop_up (fun k x => ∃ M', x = (iI k, M') ∧ sx (plc i) M M' ∧ (∀ q, q < 5 → M' 11 i q = M 11 j q) ∧ ∀ e, e < k → M' 13 i e = M 13 j e ∧ M' 14 i e = M 14 j e ∧ M' 15 i e = M 15 j e ∧ M' 16 i e = M 16 j e) 24 ?_ ?_ (Nat.zero_le _) ⟨M1, rfl, f2, f1, fun e he => absurd he (Nat.not_lt_zero _)⟩
  · rintro R k x hk ⟨M', rfl, g1, g2, g3⟩ hR
    unfold w_X2_copy_L42
    dsimp only
    simp (disch := omega) only [lm1_, lm2_, lm3_, lm9_, lm10_, lm999_, lm1000_, l0_, l1_, l2_, l3_, l4_, l5_, l6_, l7_, l8_, l9_, l10_, l11_, l12_, l13_, l23_, l24_, l30_, l31_, l33_, l35_, l41_, l42_, l45_, l48_, l57_, l58_, l59_, l60_, l64_, l96_, l99_, l100_, l101_, l126_, l168_, l808_, l909_, l900_, l20_, l1440_, l2003_, l15486209_, l2147483647_, l999_, l1439_, iI_add, iI_sub, iI_mul, iI_neg, iI_rem, iI_lt, iI_le, iI_eq, vp_iI, cl_iI, Int.toNat_natCast]
    rw [if_neg (by omega)]
    have n13 : M' 13 j = M 13 j := g1 13 j (fun q => hji q.2)
    have n14 : M' 14 j = M 14 j := g1 14 j (fun q => hji q.2)
    have n15 : M' 15 j = M 15 j := g1 15 j (fun q => hji q.2)
    have n16 : M' 16 j = M 16 j := g1 16 j (fun q => hji q.2)
    refine s_ldN (by omega) (by decide) (s_stN (by omega) (by decide) (s_ldN (by omega) (by decide) (s_stN (by omega) (by decide) (s_ldN (by omega) (by decide) (s_stN (by omega) (by decide) (s_ldN (by omega) (by decide) (s_stN (by omega) (by decide) ?_)))))))
    refine hR _ ⟨_, rfl, sx_st (sx_st (sx_st (sx_st g1 ⟨Or.inr (Or.inl rfl), rfl⟩) ⟨Or.inr (Or.inr (Or.inl rfl)), rfl⟩) ⟨Or.inr (Or.inr (Or.inr (Or.inl rfl))), rfl⟩) ⟨Or.inr (Or.inr (Or.inr (Or.inr rfl))), rfl⟩, fun q hq => ?_, fun e he => ?_⟩
    · rw [← g2 q hq]
      simp [st]
    · by_cases hek : e = k
      · subst hek
        simp [st, hji, n13, n14, n15, n16]
      · have := g3 e (by omega)
        simp [st, hek, this]
  · rintro R x ⟨M', rfl, g1, g2, g3⟩
    unfold w_X2_copy_L42
    dsimp only
    simp (disch := omega) only [lm1_, lm2_, lm3_, lm9_, lm10_, lm999_, lm1000_, l0_, l1_, l2_, l3_, l4_, l5_, l6_, l7_, l8_, l9_, l10_, l11_, l12_, l13_, l23_, l24_, l30_, l31_, l33_, l35_, l41_, l42_, l45_, l48_, l57_, l58_, l59_, l60_, l64_, l96_, l99_, l100_, l101_, l126_, l168_, l808_, l909_, l900_, l20_, l1440_, l2003_, l15486209_, l2147483647_, l999_, l1439_, iI_add, iI_sub, iI_mul, iI_neg, iI_rem, iI_lt, iI_le, iI_eq, vp_iI, cl_iI, Int.toNat_natCast]
    rw [if_pos (by decide)]
    refine h M' ⟨fun q hq => (g2 q hq).trans (hP.1 q hq), fun e he => ?_⟩ g1
    obtain ⟨a, b, c, d⟩ := g3 e (by omega)
    rw [a, b, c, d]
    exact hP.2 e he
/-- one more entry -/
def addE (A : Ab) (a b t r : Int) : Ab := fun c e => if c = 0 then (if e = 4 then A 0 4 + 1 else A 0 e) else if (e : Int) = A 0 4 then (if c = 1 then a else if c = 2 then b else if c = 3 then t else r) else A c e
theorem s_X2_append {M : Mm} {i : Nat} {A : Ab} {Q : Mm → Prop} (hP : Pl M i A) (hO : Ok A) (hc : A 0 4 < 24) {a b t r : Int} (h : ∀ M', Pl M' i (addE A a b t r) → sx (plc i) M M' → Q M') : w_X2_append i M (iI a) (iI b) (iI t) (iI r) Q := by
  have ob := hO.b
  unfold w_X2_append
  rw [hP.1 4 (by decide)]
  simp (disch := omega) only [lm1_, lm2_, lm3_, lm9_, lm10_, lm999_, lm1000_, l0_, l1_, l2_, l3_, l4_, l5_, l6_, l7_, l8_, l9_, l10_, l11_, l12_, l13_, l23_, l24_, l30_, l31_, l33_, l35_, l41_, l42_, l45_, l48_, l57_, l58_, l59_, l60_, l64_, l96_, l99_, l100_, l101_, l126_, l168_, l808_, l909_, l900_, l20_, l1440_, l2003_, l15486209_, l2147483647_, l999_, l1439_, iI_add, iI_sub, iI_mul, iI_neg, iI_rem, iI_lt, iI_le, iI_eq, vp_iI, cl_iI, Int.toNat_natCast]
  rw [if_pos (by omega)]
  obtain ⟨k, hk⟩ : ∃ k : Nat, A 0 4 = k := ⟨(A 0 4).toNat, by omega⟩
  rw [hk]
  refine s_stN (by omega) (by decide) ?_
  have q4 : M 11 i 4 = iI k := by rw [hP.1 4 (by decide), hk]
  have e1 : ∀ (M' : Mm), M' 11 i 4 = iI k → ∀ (c : Nat) (v : Int32), c ≠ 11 → st M' c i k v 11 i 4 = iI k := fun M' q c v hc => by rw [st_ne _ _ (fun z => hc z.1.symm)]; exact q
  rw [e1 _ q4 13 _ (by decide)]
  refine s_stN (by omega) (by decide) ?_
  rw [e1 _ (e1 _ q4 13 _ (by decide)) 14 _ (by decide)]
  refine s_stN (by omega) (by decide) ?_
  rw [e1 _ (e1 _ (e1 _ q4 13 _ (by decide)) 14 _ (by decide)) 15 _ (by decide)]
  refine s_stN (by omega) (by decide) ?_
  rw [e1 _ (e1 _ (e1 _ (e1 _ q4 13 _ (by decide)) 14 _ (by decide)) 15 _ (by decide)) 16 _ (by decide)]
  rw [iI_add]
  refine s_stF (h _ ⟨fun j hj => ?_, fun e he => ?_⟩ (sx_st (sx_st (sx_st (sx_st (sx_st sx_rf ⟨Or.inr (Or.inl rfl), rfl⟩) ⟨Or.inr (Or.inr (Or.inl rfl)), rfl⟩) ⟨Or.inr (Or.inr (Or.inr (Or.inl rfl))), rfl⟩) ⟨Or.inr (Or.inr (Or.inr (Or.inr rfl))), rfl⟩) ⟨Or.inl rfl, rfl⟩))
  · by_cases h4 : j = 4
    · subst h4
      simp [st, addE, hk]
    · simp [st, addE, h4]
      exact hP.1 j hj
  · have he2 : (e : Int) < k + 1 := by
      have : addE A a b t r 0 4 = A 0 4 + 1 := by simp [addE]
      omega
    by_cases hek : e = k
    · subst hek
      simp [st, addE, hk]
    · have h3 : ¬ (e : Int) = k := by omega
      have := hP.2 e (by omega)
      simp [st, addE, hk, hek, h3, this]
theorem Ok.add {A : Ab} (hO : Ok A) (hc : A 0 4 < 24) {a b t r : Int} (h1 : 0 ≤ a) (h2 : a ≤ b) (h3 : b ≤ 999) (h4 : t = -9 ∨ 0 ≤ t) (h5 : t ≤ 1439) (h6 : 0 ≤ r) (h7 : r ≤ 9) : Ok (addE A a b t r) := by
  have ob := hO.b
  refine ⟨by simp [addE]; omega, by simp [addE]; omega, by simp [addE]; omega, by simp [addE]; omega, by simp [addE]; omega, by simp [addE]; omega, by simp [addE]; omega, by simp [addE]; omega, by simp [addE]; omega, by simp [addE]; omega, fun e he => ?_⟩
  have he2 : (e : Int) < A 0 4 + 1 := by simpa [addE] using he
  by_cases hek : (e : Int) = A 0 4
  · simp [addE, hek]
    omega
  · have := hO.e (e := e) (by omega)
    simp [addE, hek]
    omega
