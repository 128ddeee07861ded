/-! the reference reads an entry, and loads -/
section MLD
variable {M : Mm} {x : Nat → Int} {k p e : Nat} {Q : Int32 → Mm → Prop}
theorem s_takesJ {S : Type} {K : S → Prop} {F : Int32 → Mm → (S → Prop) → Prop} (P : S → Prop) (hR : Ra M x k p) (hb : Tb x k) (hp : p ≤ k) {c : Int} (hc : 0 ≤ c ∧ c ≤ 1000) (h1 : chr x k p c → ∀ J : S → Prop, (∀ y, P y → J y) → F (iI 1) (st M 17 0 7 (iI ((p + 1 : Nat) : Int))) J) (h0 : ¬ chr x k p c → ∀ J : S → Prop, (∀ y, P y → J y) → F (iI 0) (st M 17 0 7 (iI (p : Int))) J) (hK : ∀ y, P y → K y) : w_X5_takes M (iI c) (fun v M' => letJ K (F v M')) :=
  s_X5_takes hR hb hp hc (fun c1 => s_letJ P (fun J hJ => h1 c1 J hJ) hK) (fun c1 => s_letJ P (fun J hJ => h0 c1 J hJ) hK)
set_option maxHeartbeats 1000000 in
theorem s_X5_readsEntry (hR : Ra M x k p) (hb : Tb x k) (hp : p ≤ k) (he : e < 24) (h1 : ∀ a b t r q, pEntry x k p = .inr (a, b, t, r, q) → ∀ M', Ra M' x k q → M' 23 0 (4 * e) = iI a → M' 23 0 (4 * e + 1) = iI b → M' 23 0 (4 * e + 2) = iI t → M' 23 0 (4 * e + 3) = iI r → Rx e M M' → Q (iI 1) M') (h0 : ∀ f, pEntry x k p = .inl f → ∀ M', Ra M' x k f → Rx e M M' → Q (iI 0) M') : w_X5_readsEntry M (iI (e : Int)) Q := by
  have gk := hR.1.1
  unfold w_X5_readsEntry
  simp only [lm1_, lm2_, lm3_, lm9_, lm10_, lm999_, lm1000_, l0_, l1_, l2_, l3_, l4_, l5_, l6_, l7_, l8_, l9_, l10_, l11_, l12_, l13_, l23_, l24_, l30_, l31_, l33_, l35_, l41_, l42_, l45_, l48_, l57_, l58_, l59_, l60_, l64_, l96_, l99_, l100_, l101_, l126_, l168_, l808_, l909_, l999_, l1439_, iI_add, iI_sub, iI_mul, iI_neg]
  refine s_bI ?_
  simp only [lm1_, lm2_, lm3_, lm9_, lm10_, lm999_, lm1000_, l0_, l1_, l2_, l3_, l4_, l5_, l6_, l7_, l8_, l9_, l10_, l11_, l12_, l13_, l23_, l24_, l30_, l31_, l33_, l35_, l41_, l42_, l45_, l48_, l57_, l58_, l59_, l60_, l64_, l96_, l99_, l100_, l101_, l126_, l168_, l808_, l909_, l999_, l1439_, iI_add, iI_sub, iI_mul, iI_neg]
  rw [if_neg (fun z => by have := (iI_eq (by omega) (by omega) (by omega) (by omega)).mp z; omega)]
  refine s_X5_readsDay hR hb hp (by omega) (fun a q1 e1 _ M2 a1 a2 a3 => z1 ?_) (fun f hf M2 a1 a2 => z0 (h0 f ?_ M2 a1 a2.rx))
  · have b1 := pDay_b e1
    rw [a2]
    refine s_stA (by omega) (by omega) (by decide) ?_
    rw [show (4 * (e : Int)).toNat = 4 * e by omega]
    have i1 : Ra (st M2 23 0 (4 * e) (iI a)) x k q1 := a1.md
    have i2 : (st M2 23 0 (4 * e) (iI a)) 23 0 (4 * e) = iI a := st_s
    have i3 : (st M2 23 0 (4 * e) (iI a)) 17 0 8 = iI a := by rw [st_ne _ _ (by omega)]; exact a2
    have i4 : Rx e M (st M2 23 0 (4 * e) (iI a)) := a3.rx.sm (Nat.le_refl _)
    revert i1 i2 i3 i4
    generalize st M2 23 0 (4 * e) (iI a) = M4
    intro i1 i2 i3 i4
    refine s_takesJ (P := fun M8 : Mm => ∃ a b q, Ra M8 x k q ∧ q ≤ k ∧ M8 23 0 (4 * e) = iI a ∧ M8 17 0 8 = iI b ∧ pEntry x k p = pB x k a b q ∧ Rx e M M8) i1 hb b1.2.2 (by omega) (fun c J hJ => z1 ?_) (fun c J hJ => z0 (hJ _ ⟨a, a, q1, i1.at, b1.2.2, by rw [st_ne _ _ (by omega)]; exact i2, by rw [st_d (by decide)]; exact i3, ?_, i4.rn (Or.inl rfl)⟩)) ?_
    · refine s_ldA (by omega) (by omega) (by decide) ?_
      rw [show (4 * (e : Int)).toNat = 4 * e by omega, st_ne _ _ (by omega), i2]
      refine s_X5_readsDay i1.at hb (by omega) (by omega) (fun b q2 e2 hab M5 d1 d2 d3 => z1 (hJ _ ⟨a, b, q2, d1, (pDay_b e2).2.2, ?_, d2, ?_, (i4.rn (Or.inl rfl)).tr d3.rx⟩)) (fun f hf M5 d1 d3 => z0 (h0 f ?_ M5 d1 ((i4.rn (Or.inl rfl)).tr d3.rx)))
      · rw [d3.1 23 0 (by omega), st_ne _ _ (by omega)]
        exact i2
      · unfold pEntry
        rw [e1]
        dsimp only
        rw [if_pos c, e2]
        dsimp only
        rw [if_neg (by omega)]
      · rcases hf with hf | ⟨v, q2, hf1, hf2, hf3⟩
        · unfold pEntry
          rw [e1]
          dsimp only
          rw [if_pos c, hf]
        · unfold pEntry
          rw [e1]
          dsimp only
          rw [if_pos c, hf1]
          dsimp only
          rw [if_pos (by omega), hf3]
    · unfold pEntry
      rw [e1]
      dsimp only
      rw [if_neg c]
    rintro M8 ⟨a, b, q, t1, t2, t3, t4, t5, t6⟩
    rw [t4]
    refine s_stA (by omega) (by omega) (by decide) (s_stA (by omega) (by omega) (by decide) ?_)
    rw [show (4 * (e : Int) + 1).toNat = 4 * e + 1 by omega, show (4 * (e : Int) + 2).toNat = 4 * e + 2 by omega]
    have j1 : Ra (st (st M8 23 0 (4 * e + 1) (iI b)) 23 0 (4 * e + 2) (iI (-9))) x k q := t1.md.md
    have j2 : (st (st M8 23 0 (4 * e + 1) (iI b)) 23 0 (4 * e + 2) (iI (-9))) 23 0 (4 * e) = iI a := by rw [st_d (by omega), st_d (by omega)]; exact t3
    have j3 : (st (st M8 23 0 (4 * e + 1) (iI b)) 23 0 (4 * e + 2) (iI (-9))) 23 0 (4 * e + 1) = iI b := by rw [st_d (by omega), st_s]
    have j4 : (st (st M8 23 0 (4 * e + 1) (iI b)) 23 0 (4 * e + 2) (iI (-9))) 23 0 (4 * e + 2) = iI (-9) := st_s
    have j5 : Rx e M (st (st M8 23 0 (4 * e + 1) (iI b)) 23 0 (4 * e + 2) (iI (-9))) := (t6.sm (by omega)).sm (by omega)
    revert j1 j2 j3 j4 j5
    generalize st (st M8 23 0 (4 * e + 1) (iI b)) 23 0 (4 * e + 2) (iI (-9)) = M10
    intro j1 j2 j3 j4 j5
    refine s_takesJ (P := fun M14 : Mm => ∃ a b t q, Ra M14 x k q ∧ q ≤ k ∧ M14 23 0 (4 * e) = iI a ∧ M14 23 0 (4 * e + 1) = iI b ∧ M14 23 0 (4 * e + 2) = iI t ∧ pEntry x k p = pC x k a b t q ∧ Rx e M M14) j1 hb t2 (by omega) (fun c J hJ => z1 ?_) (fun c J hJ => z0 (hJ _ ⟨a, b, -9, q, j1.at, t2, by rw [st_ne _ _ (by omega)]; exact j2, by rw [st_ne _ _ (by omega)]; exact j3, by rw [st_ne _ _ (by omega)]; exact j4, ?_, j5.rn (Or.inl rfl)⟩)) ?_
    · rw [pB, if_pos c] at t5
      refine s_X5_readsTime j1.at hb (by omega) he (fun t q2 e2 M5 d1 d2 d3 d4 => z1 (hJ _ ⟨a, b, t, q2, d1, (pTime_b e2).2.2, ?_, ?_, d2, ?_, (j5.rn (Or.inl rfl)).tr d4⟩)) (fun f e2 M5 d1 d4 => z0 (h0 f ?_ M5 d1 ((j5.rn (Or.inl rfl)).tr d4)))
      · rw [d3 _ (by omega), st_ne _ _ (by omega)]
        exact j2
      · rw [d3 _ (by omega), st_ne _ _ (by omega)]
        exact j3
      · rw [e2] at t5
        exact t5
      · rw [e2] at t5
        exact t5
    · rw [pB, if_neg c] at t5
      exact t5
    rintro M14 ⟨a, b, t, q, u1, u2, u3, u4, u5, u6, u7⟩
    refine s_stF ?_
    have l1 : Ra (st M14 17 0 8 (iI 0)) x k q := u1.n8
    have l2 : (st M14 17 0 8 (iI 0)) 23 0 = M14 23 0 := st_ne _ _ (by omega)
    have l3 : (st M14 17 0 8 (iI 0)) 17 0 8 = iI 0 := st_s
    have l4 : Rx e M (st M14 17 0 8 (iI 0)) := u7.rn (Or.inr rfl)
    revert l1 l2 l3 l4
    generalize st M14 17 0 8 (iI 0) = M15
    intro l1 l2 l3 l4
    refine s_takesJ (P := fun M19 : Mm => ∃ a b t r q, Ra M19 x k q ∧ q ≤ k ∧ M19 23 0 (4 * e) = iI a ∧ M19 23 0 (4 * e + 1) = iI b ∧ M19 23 0 (4 * e + 2) = iI t ∧ M19 17 0 8 = iI r ∧ pEntry x k p = pD x k a b t r q ∧ Rx e M M19) l1 hb u2 (by omega) (fun c J hJ => z1 ?_) (fun c J hJ => z0 (hJ _ ⟨a, b, t, 0, q, l1.at, u2, by rw [st_ne _ _ (by omega), l2]; exact u3, by rw [st_ne _ _ (by omega), l2]; exact u4, by rw [st_ne _ _ (by omega), l2]; exact u5, by rw [st_d (by decide)]; exact l3, ?_, l4.rn (Or.inl rfl)⟩)) ?_
    · rw [pC, if_pos c] at u6
      refine s_X5_readsDig l1.at hb (by omega) (fun c2 M5 d1 d2 d3 => z1 (hJ _ ⟨a, b, t, _, _, d1, by omega, ?_, ?_, ?_, d2, ?_, (l4.rn (Or.inl rfl)).tr d3.rx⟩)) (fun f hf M5 d1 d3 => z0 (h0 f ?_ M5 d1 ((l4.rn (Or.inl rfl)).tr d3.rx)))
      · rw [d3.1 23 0 (by omega), st_ne _ _ (by omega), l2]
        exact u3
      · rw [d3.1 23 0 (by omega), st_ne _ _ (by omega), l2]
        exact u4
      · rw [d3.1 23 0 (by omega), st_ne _ _ (by omega), l2]
        exact u5
      · rw [if_pos c2] at u6
        exact u6
      · rcases hf with ⟨rfl, hf⟩ | ⟨rfl, hf, hf2⟩
        · rw [if_neg hf] at u6
          exact u6
        · rw [if_pos hf, pD, if_neg (fun z => by have h1 := z.2; have h2 := hf2.2; rw [show q + 1 + 1 = q + 2 from rfl] at h2; omega)] at u6
          exact u6
    · rw [pC, if_neg c] at u6
      exact u6
    rintro M19 ⟨a, b, t, r, q, u1, u2, u3, u4, u5, u8, u6, u7⟩
    rw [u8]
    refine s_stA (by omega) (by omega) (by decide) ?_
    rw [show (4 * (e : Int) + 3).toNat = 4 * e + 3 by omega]
    have n7 := u7.sm (j := 4 * e + 3) (v := iI r) (by omega)
    refine s_X5_takes u1.md hb u2 (by omega) (fun c => h1 a b t r (q + 1) ?_ _ u1.md.at ?_ ?_ ?_ ?_ (n7.rn (Or.inl rfl))) (fun c => h0 q ?_ _ u1.md.at (n7.rn (Or.inl rfl)))
    · rw [pD, if_pos c] at u6
      exact u6
    · rw [st_ne _ _ (by omega), st_d (by omega)]
      exact u3
    · rw [st_ne _ _ (by omega), st_d (by omega)]
      exact u4
    · rw [st_ne _ _ (by omega), st_d (by omega)]
      exact u5
    · rw [st_ne _ _ (by omega), st_s]
    · rw [pD, if_neg c] at u6
      exact u6
  · rcases hf with hf | ⟨v, q2, hf1, hf2, hf3⟩
    · unfold pEntry
      rw [hf]
    · have := pDay_b hf1
      omega
theorem s_X5_readsEntry24 (h : Q (iI 0) M) : w_X5_readsEntry M (iI 24) Q := by
  unfold w_X5_readsEntry
  simp only [lm1_, lm2_, lm3_, lm9_, lm10_, lm999_, lm1000_, l0_, l1_, l2_, l3_, l4_, l5_, l6_, l7_, l8_, l9_, l10_, l11_, l12_, l13_, l23_, l24_, l30_, l31_, l33_, l35_, l41_, l42_, l45_, l48_, l57_, l58_, l59_, l60_, l64_, l96_, l99_, l100_, l101_, l126_, l168_, l808_, l909_, l999_, l1439_, iI_add, iI_sub, iI_mul, iI_neg]
  refine s_bI ?_
  rw [if_pos (by trivial)]
  exact h
theorem s_X5_load {A : Ab} {h : Nat → Ab} {n N : Nat} (hN : stopE x k N) (hno : ∀ i, i < N → ¬ stopE x k i) (hN24 : N ≤ 24) (hT : Tr M x k) (hb : Tb x k) (hP : Pm M 0 A) (hO : Ok A) (hh : Hm M h n) (h1 : k ≤ posE x k N → ∀ M', Pm M' 0 (ldE A x k N) → Hm M' (recH h n A) (recN n) → Tr M' x k → sx (fun c _ => 17 ≤ c) M M' → Q (iI N) M') (h0 : ¬ k ≤ posE x k N → 0 ≤ fltE x k N → ∀ M', Pm M' 0 A → Hm M' h n → Tr M' x k → sx (fun c _ => 17 ≤ c) M M' → Q (iI (-10 - fltE x k N)) M') : w_X5_load M Q := by
  have gk := hT.1
  have ob := hO.b
  have hfb := flt_b hno
  have hHx : ∀ M', Rx 0 M M' → Hm M' h n := fun M' hs => ⟨hh.1, by rw [hs.2.1 1 (by decide) (by decide)]; exact hh.2.1, fun j hj => ⟨(hh.2.2 j hj).1.sx hs.1 (by omega), (hh.2.2 j hj).2⟩⟩
  unfold w_X5_load
  simp only [lm1_, lm2_, lm3_, lm9_, lm10_, lm999_, lm1000_, l0_, l1_, l2_, l3_, l4_, l5_, l6_, l7_, l8_, l9_, l10_, l11_, l12_, l13_, l23_, l24_, l30_, l31_, l33_, l35_, l41_, l42_, l45_, l48_, l57_, l58_, l59_, l60_, l64_, l96_, l99_, l100_, l101_, l126_, l168_, l808_, l909_, l999_, l1439_, iI_add, iI_sub, iI_mul, iI_neg]
  refine s_stF ?_
  have hR0 : Ra (st M 17 0 7 (iI 0)) x k 0 := ⟨hT.rx (e := 0) (Rx.rf.rn (Or.inl rfl)), st_s⟩
  refine loop_up (fun e s => ∃ M', s = (iI e, M') ∧ Ra M' x k (posE x k e) ∧ Rx 0 M M' ∧ ∀ i, i < e → M' 23 0 (4 * i) = iI (entE x k i).1 ∧ M' 23 0 (4 * i + 1) = iI (entE x k i).2.1 ∧ M' 23 0 (4 * i + 2) = iI (entE x k i).2.2.1 ∧ M' 23 0 (4 * i + 3) = iI (entE x k i).2.2.2) N ?_ ?_ (Nat.zero_le _) ⟨_, rfl, hR0, Rx.rf.rn (Or.inl rfl), fun i hi => absurd hi (Nat.not_lt_zero _)⟩
  · rintro R e s he ⟨M', rfl, g1, g2, g3⟩ hR
    have hpk := pos_le e (fun i hi => hno i (by omega))
    obtain ⟨n1, n2, a, b, t, r, q, n3, n4, n5⟩ := stop_no (hno e he)
    unfold w_X5_load_L7
    dsimp only
    rw [g1.1.2.1, g1.2]
    simp only [lm1_, lm2_, lm3_, lm9_, lm10_, lm999_, lm1000_, l0_, l1_, l2_, l3_, l4_, l5_, l6_, l7_, l8_, l9_, l10_, l11_, l12_, l13_, l23_, l24_, l30_, l31_, l33_, l35_, l41_, l42_, l45_, l48_, l57_, l58_, l59_, l60_, l64_, l96_, l99_, l100_, l101_, l126_, l168_, l808_, l909_, l999_, l1439_, iI_add, iI_sub, iI_mul, iI_neg]
    rw [if_neg (fun z => by have := (iI_le (by omega) (by omega) (by omega) (by omega)).mp z; omega)]
    refine s_X5_readsEntry g1 hb hpk (by omega) (fun a' b' t' r' q' e1 M2 d1 d2 d3 d4 d5 d6 => z1 (s_bI (hR _ ⟨M2, rfl, ?_, ?_, fun i hi => ?_⟩))) (fun f e1 M2 d1 d6 => ?_)
    · rw [e1] at n3
      cases n3
      rw [n4]
      exact d1
    · exact g2.tr ⟨d6.1, d6.2.1, fun j hj => absurd hj (by omega)⟩
    · rw [e1] at n3
      cases n3
      by_cases hie : i = e
      · subst hie
        rw [n5]
        exact ⟨d2, d3, d4, d5⟩
      · rw [d6.2.2 _ (by omega), d6.2.2 _ (by omega), d6.2.2 _ (by omega), d6.2.2 _ (by omega)]
        exact g3 i (by omega)
    · rw [e1] at n3
      cases n3
  · rintro R s ⟨M', rfl, g1, g2, g3⟩
    have hpk := pos_le N hno
    unfold w_X5_load_L7
    dsimp only
    rw [g1.1.2.1, g1.2]
    simp only [lm1_, lm2_, lm3_, lm9_, lm10_, lm999_, lm1000_, l0_, l1_, l2_, l3_, l4_, l5_, l6_, l7_, l8_, l9_, l10_, l11_, l12_, l13_, l23_, l24_, l30_, l31_, l33_, l35_, l41_, l42_, l45_, l48_, l57_, l58_, l59_, l60_, l64_, l96_, l99_, l100_, l101_, l126_, l168_, l808_, l909_, l999_, l1439_, iI_add, iI_sub, iI_mul, iI_neg]
    refine s_if (fun q => ?_) (fun q => ?_)
    · have q := (iI_le (by omega) (by omega) (by omega) (by omega)).mp q
      have hP' := hP.sx g2.1 (by omega)
      refine s_X5_records hP' hO (hHx M' g2) (fun M1 k1 k2 k3 k4 => ?_)
      refine s_stA (j := 4) (by omega) (by omega) (by decide) ?_
      rw [show Int.toNat 4 = 4 from rfl]
      have m23 : ∀ i, M1 23 0 i = M' 23 0 i := fun i => by rw [k3 23 0 (by omega)]
      refine loop_up (fun j s => ∃ M2, s = (iI j, M2) ∧ Hm M2 (recH h n A) (recN n) ∧ (∀ i, i < 5 → M2 18 0 i = iI (ldE A x k N 0 i)) ∧ (∀ i, i < j → M2 18 0 (5 + i) = M' 23 0 i) ∧ sx (fun c i => c = 18 ∧ i = 0) M1 M2) (4 * N) ?_ ?_ (Nat.zero_le _) ⟨_, rfl, k2.st (by decide), fun i hi => ?_, fun i hi => absurd hi (Nat.not_lt_zero _), sx_st sx_rf ⟨rfl, rfl⟩⟩
      · rintro R2 j s hj ⟨M2, rfl, f1, f2, f3, f4⟩ hR2
        unfold w_X5_load_L53
        dsimp only
        simp only [lm1_, lm2_, lm3_, lm9_, lm10_, lm999_, lm1000_, l0_, l1_, l2_, l3_, l4_, l5_, l6_, l7_, l8_, l9_, l10_, l11_, l12_, l13_, l23_, l24_, l30_, l31_, l33_, l35_, l41_, l42_, l45_, l48_, l57_, l58_, l59_, l60_, l64_, l96_, l99_, l100_, l101_, l126_, l168_, l808_, l909_, l999_, l1439_, iI_add, iI_sub, iI_mul, iI_neg]
        rw [if_neg (fun z => by have := (iI_le (by omega) (by omega) (by omega) (by omega)).mp z; omega)]
        refine s_ldN (by omega) (by decide) (s_stA (by omega) (by omega) (by decide) (s_bI ?_))
        rw [show (5 + (j : Int)).toNat = 5 + j by omega]
        refine hR2 _ ⟨_, rfl, f1.st (by omega), fun i hi => ?_, fun i hi => ?_, sx_st f4 ⟨rfl, rfl⟩⟩
        · rw [st_d (by omega)]
          exact f2 i hi
        · by_cases hij : i = j
          · rw [hij, st_s, f4 23 0 (by omega), m23]
          · rw [st_d (by omega)]
            exact f3 i (by omega)
      · rintro R2 s ⟨M2, rfl, f1, f2, f3, f4⟩
        unfold w_X5_load_L53
        dsimp only
        simp only [lm1_, lm2_, lm3_, lm9_, lm10_, lm999_, lm1000_, l0_, l1_, l2_, l3_, l4_, l5_, l6_, l7_, l8_, l9_, l10_, l11_, l12_, l13_, l23_, l24_, l30_, l31_, l33_, l35_, l41_, l42_, l45_, l48_, l57_, l58_, l59_, l60_, l64_, l96_, l99_, l100_, l101_, l126_, l168_, l808_, l909_, l999_, l1439_, iI_add, iI_sub, iI_mul, iI_neg]
        rw [if_pos ((iI_le (by omega) (by omega) (by omega) (by omega)).mpr (by omega))]
        have e17 : ∀ j, j ≠ 1 → M2 17 0 j = M' 17 0 j := fun j hj => by rw [f4 17 0 (by omega), k4 j hj]
        refine h1 (by omega) M2 ⟨fun j hj => by rw [Nat.zero_add]; exact f2 j hj, fun e he => ?_⟩ f1 ⟨gk, by rw [e17 3 (by decide)]; exact g1.1.2.1, fun j hj => by rw [f4 19 0 (by omega), k3 19 0 (by omega)]; exact g1.1.2.2 j hj⟩ (fun c i hci => ?_)
        · have he2 : (e : Int) < N := he
          obtain ⟨z1, z2, z3, z4⟩ := g3 e (by omega)
          simp only [Nat.zero_add]
          rw [f3 _ (by omega), show 5 + 4 * e + 1 = 5 + (4 * e + 1) by omega, f3 _ (by omega), show 5 + 4 * e + 2 = 5 + (4 * e + 2) by omega, f3 _ (by omega), show 5 + 4 * e + 3 = 5 + (4 * e + 3) by omega, f3 _ (by omega)]
          exact ⟨z1, z2, z3, z4⟩
        · rw [f4 c i (by omega), k3 c i (by omega), g2.1 c i (by omega)]
      · by_cases h4 : i = 4
        · rw [h4, st_s]
          rfl
        · rw [st_d h4, k1.z hi]
          simp [ldE, h4]
    · have q : ¬ (k : Int) ≤ posE x k N := fun z => q ((iI_le (by omega) (by omega) (by omega) (by omega)).mpr z)
      have fin : ∀ f, fltE x k N = (f : Nat) → ∀ M2, Ra M2 x k f → Rx 0 M' M2 → Q (iI (-10) - M2 17 0 7) M2 := by
        intro f hf M2 d1 d2
        rw [d1.2, iI_sub, ← hf]
        have g4 := g2.tr d2
        exact h0 (by omega) (by omega) M2 (hP.sx g4.1 (by omega)) (hHx M2 g4) d1.1 (sx_mono g4.1 (fun c i z => by omega))
      by_cases hN4 : N = 24
      · subst hN4
        refine s_X5_readsEntry24 (z0 (fin _ ?_ M' g1 Rx.rf))
        unfold fltE
        rw [if_neg (by omega), if_pos rfl]
      · obtain ⟨f, hf⟩ : ∃ f, pEntry x k (posE x k N) = .inl f := by
          rcases hN with hN | hN | hN
          · omega
          · exact absurd hN hN4
          · exact hN
        refine s_X5_readsEntry g1 hb hpk (by omega) (fun a' b' t' r' q' e1 => ?_) (fun f' e1 M2 d1 d6 => z0 (fin f' ?_ M2 d1 ⟨d6.1, d6.2.1, fun j hj => absurd hj (by omega)⟩))
        · rw [hf] at e1
          cases e1
        · unfold fltE
          rw [if_neg (by omega), if_neg hN4, e1]
end MLD
