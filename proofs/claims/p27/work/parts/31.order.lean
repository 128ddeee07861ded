section ORD
variable {M : Mm} {p : Nat} {A : Ab} {L : Nat → Nat → Int}
/-- the inner loop: where e comes in the order -/
theorem s_orderBars_in {κ : Nat → Int} {l : List Nat} {e : Nat} {w : Nat} (hl : l.length < 24) (hO : Ord κ l) (hA : ∀ j x : Nat, l[j]? = some x → M 10 p j = iI x)
    (hc : ∀ M', sx (fun c i => c = 10 ∧ i = p) M M' → ∀ x, x ∈ l → ∀ Q : Int32 → Mm → Prop, (κ e < κ x → Q (iI 1) M') → (¬ κ e < κ x → Q (iI 0) M') → w_X0_isBarBefore p M' (iI e) (iI x) (iI w) Q) (hne : ∀ x, x ∈ l → κ e ≠ κ x) {K : Int32 × Mm → Prop}
    (hK : ∀ (a : Nat) (M' : Mm), a ≤ l.length → (∀ j x : Nat, j < a → l[j]? = some x → κ x < κ e) → (∀ j x : Nat, a ≤ j → l[j]? = some x → κ e < κ x) → (∀ j x : Nat, j < a → l[j]? = some x → M' 10 p j = iI x) → (∀ j x : Nat, a ≤ j → l[j]? = some x → M' 10 p (j + 1) = iI x) → sx (fun c i => c = 10 ∧ i = p) M M' → K (iI a, M')) : ∃ n, loop (w_X0_orderBars_L55 p (iI w) (iI e) K) n (iI l.length, M) := by
  refine loop_I (fun a x => ∃ M', x = (iI (a : Nat), M') ∧ a ≤ l.length ∧ (∀ j x : Nat, a ≤ j → l[j]? = some x → κ e < κ x) ∧ (∀ j x : Nat, j < a → l[j]? = some x → M' 10 p j = iI x) ∧ (∀ j x : Nat, a ≤ j → l[j]? = some x → M' 10 p (j + 1) = iI x) ∧ sx (fun c i => c = 10 ∧ i = p) M M') ?_ (k := l.length) ⟨M, rfl, Nat.le_refl _, fun j x hj hx => by have := (List.getElem?_eq_some_iff.mp hx).1; omega, fun j x _ hx => hA j x hx, fun j x hj hx => by have := (List.getElem?_eq_some_iff.mp hx).1; omega, sx_rf⟩
  rintro R a x ⟨M', rfl, g1, g2, g3, g4, g5⟩ hR
  unfold w_X0_orderBars_L55
  dsimp only
  simp (disch := omega) only [lm1_, lm2_, lm3_, lm9_, lm10_, lm999_, lm1000_, l0_, l1_, l2_, l3_, l4_, l5_, l6_, l7_, l8_, l9_, l10_, l11_, l12_, l13_, l23_, l24_, l30_, l31_, l33_, l35_, l41_, l42_, l45_, l48_, l57_, l58_, l59_, l60_, l64_, l96_, l99_, l100_, l101_, l126_, l168_, l808_, l909_, l900_, l20_, l1440_, l2003_, l15486209_, l2147483647_, l999_, l1439_, iI_add, iI_sub, iI_mul, iI_neg, iI_rem, iI_lt, iI_le, iI_eq, vp_iI, cl_iI, Int.toNat_natCast]
  refine s_if (fun q => ?_) (fun q => ?_)
  · have ha : a = 0 := by omega
    exact hK a M' g1 (fun j x hj => by omega) g2 g3 g4 g5
  · obtain ⟨y, hy⟩ : ∃ y, l[a - 1]? = some y := ⟨l[a - 1], List.getElem?_eq_getElem (by omega)⟩
    have hym : y ∈ l := List.mem_of_getElem? hy
    refine s_ldA (by omega) (by omega) (by decide) ?_
    rw [show ((a : Int) - 1).toNat = a - 1 by omega, g3 (a - 1) y (by omega) hy]
    refine hc M' g5 y hym _ (fun hlt => z1 ?_) (fun hlt => z0 ?_)
    · refine s_ldA (by omega) (by omega) (by decide) ?_
      rw [show ((a : Int) - 1).toNat = a - 1 by omega, g3 (a - 1) y (by omega) hy]
      refine s_stN (by omega) (by decide) ?_
      refine hR (a - 1) _ (by omega) ⟨_, by rw [show (a : Int) + -1 = ((a - 1 : Nat) : Int) by omega], by omega, fun j x hj hx => ?_, fun j x hj hx => ?_, fun j x hj hx => ?_, sx_st g5 ⟨rfl, rfl⟩⟩
      · by_cases hja : j = a - 1
        · rw [hja, hy] at hx
          cases hx
          exact hlt
        · exact g2 j x (by omega) hx
      · rw [st_d (by omega)]
        exact g3 j x (by omega) hx
      · by_cases hja : j = a - 1
        · rw [hja, hy] at hx
          cases hx
          rw [show j + 1 = a by omega, st_s]
        · rw [st_d (by omega)]
          exact g4 j x (by omega) hx
    · refine hK a M' g1 (fun j x hj hx => ?_) g2 g3 g4 g5
      have h1 : κ y < κ e := by
        have := hne y hym
        omega
      by_cases hja : j = a - 1
      · rw [hja, hy] at hx
        cases hx
        exact h1
      · have := hO.lt (show j < a - 1 by omega) hx hy
        omega
theorem s_X0_orderBars {Q : Mm → Prop} (hP : Pl M p A) (hO : Ok A) (hW : Wk M p A) {w : Nat} (hw : (w : Int) < nW A) (hM : Lw M p A L w) (hL : Lb A L w) (h : ∀ (M' : Mm) (l : List Nat), Ord (kb A L w) l → (∀ x, x ∈ l ↔ bar A w x) → l.length ≤ 24 → M' 5 p 7 = iI l.length → (∀ j x : Nat, l[j]? = some x → M' 10 p j = iI x) → sx (fun c i => (c = 5 ∨ c = 10) ∧ i = p) M M' → (∀ j, j ≠ 7 → M' 5 p j = M 5 p j) → Q M') : w_X0_orderBars p M (iI w) Q := by
  have ob := hO.b
  have hn := nW_b hO
  have hwb := wS_b hO (w := w) (by omega) (by omega)
  have hwb2 := wS_b hO (w := w + 1) (by omega) (by omega)
  unfold w_X0_orderBars
  refine s_stF ?_
  refine loop_up (fun k x => ∃ (M' : Mm) (l : List Nat), x = (iI k, M') ∧ Ord (kb A L w) l ∧ (∀ x, x ∈ l ↔ bar A w x ∧ x < k) ∧ l.length ≤ k ∧ M' 5 p 7 = iI l.length ∧ (∀ j x : Nat, l[j]? = some x → M' 10 p j = iI x) ∧ sx (fun c i => (c = 5 ∨ c = 10) ∧ i = p) M M' ∧ (∀ j, j ≠ 7 → M' 5 p j = M 5 p j)) (A 0 4).toNat ?_ ?_ (Nat.zero_le _) ⟨_, [], rfl, List.Pairwise.nil, fun x => ⟨fun q => absurd q List.not_mem_nil, fun q => absurd q.2 (Nat.not_lt_zero _)⟩, Nat.le_refl _, by rw [st_s]; rfl, fun j x hx => by simp at hx, sx_st sx_rf ⟨Or.inl rfl, rfl⟩, fun j hj => st_d hj⟩
  · rintro R k x hk ⟨M', l, rfl, g1, g2, g3, g4, g5, g6, g7⟩ hR
    have hP' : Pl M' p A := hP.sx g6 ⟨by omega, by omega, by omega, by omega, by omega⟩
    have hW' : Wk M' p A := hW.sx g6 (g7 1 (by decide)) (by omega)
    have hskip : ¬ bar A w k → ∀ M2, M2 = M' → R (iI ((k : Int) + 1), M2) := by
      rintro hn M2 rfl
      refine hR _ ⟨_, l, rfl, g1, fun x => ?_, by omega, g4, g5, g6, g7⟩
      rw [g2 x]
      constructor
      · exact fun q => ⟨q.1, by omega⟩
      · intro q
        refine ⟨q.1, ?_⟩
        have : x ≠ k := fun z => hn (by rw [← z]; exact q.1)
        omega
    unfold w_X0_orderBars_L7
    dsimp only
    rw [hP'.1 4 (by decide)]
    simp (disch := omega) only [lm1_, lm2_, lm3_, lm9_, lm10_, lm999_, lm1000_, l0_, l1_, l2_, l3_, l4_, l5_, l6_, l7_, l8_, l9_, l10_, l11_, l12_, l13_, l23_, l24_, l30_, l31_, l33_, l35_, l41_, l42_, l45_, l48_, l57_, l58_, l59_, l60_, l64_, l96_, l99_, l100_, l101_, l126_, l168_, l808_, l909_, l900_, l20_, l1440_, l2003_, l15486209_, l2147483647_, l999_, l1439_, iI_add, iI_sub, iI_mul, iI_neg, iI_rem, iI_lt, iI_le, iI_eq, vp_iI, cl_iI, Int.toNat_natCast]
    rw [if_neg (by omega)]
    have hins : bar A w k → ∃ n, loop (w_X0_orderBars_L55 p (iI w) (iI k) fun (x : Int32 × Mm) => match x with | (v27, M28) => stA M28 10 p 24 v27 (iI k) fun M29 => stF M29 5 p 7 (M29 5 p 7 + iI 1) fun M30 => bI (iI ((k : Int) + 1)) fun v31 => R (v31, M30)) n (M' 5 p 7, M') := by
      intro hb
      rw [g4]
      refine s_orderBars_in (κ := kb A L w) (l := l) (by omega) g1 g5 (fun M2 hs x hx Q h1 h0 => ?_) (fun x hx => ?_) (fun a M2 ha b1 b2 b3 b4 b5 => ?_)
      · have hP2 : Pl M2 p A := hP'.sx hs ⟨by omega, by omega, by omega, by omega, by omega⟩
        have hW2 : Wk M2 p A := hW'.sx hs (by rw [hs 5 p (by omega)]) (by omega)
        have hM2 : Lw M2 p A L w := fun e he h0 => by
          have := hM e he h0
          rw [hs 12 _ (by omega), g6 12 _ (by omega)]
          exact this
        have := (g2 x).mp hx
        exact s_X0_isBarBefore hP2 hO hW2 hw hM2 hL hb this.1 this.2 h1 h0
      · have := (g2 x).mp hx
        exact fun q => by
          have := kb_inj hO hL hb this.1 q
          omega
      · dsimp only
        refine s_stN (by omega) (by decide) ?_
        have e5 : st M2 10 p a (iI k) 5 p 7 = iI l.length := by rw [st_ne _ _ (by simp), b5 5 p (by omega)]; exact g4
        rw [e5]
        simp only [lm1_, lm2_, lm3_, lm9_, lm10_, lm999_, lm1000_, l0_, l1_, l2_, l3_, l4_, l5_, l6_, l7_, l8_, l9_, l10_, l11_, l12_, l13_, l23_, l24_, l30_, l31_, l33_, l35_, l41_, l42_, l45_, l48_, l57_, l58_, l59_, l60_, l64_, l96_, l99_, l100_, l101_, l126_, l168_, l808_, l909_, l900_, l20_, l1440_, l2003_, l15486209_, l2147483647_, l999_, l1439_, iI_add, iI_sub, iI_mul, iI_neg]
        refine s_stF (hR _ ⟨_, l.take a ++ k :: l.drop a, rfl, ins_ord g1 b1 b2, fun x => ?_, by rw [ins_len ha]; omega, by rw [st_s, ins_len ha]; rfl, fun j x hx => ?_, sx_st (sx_st (sx_mono (sx_tr g6 b5) (fun c i q => by rcases q with q | q <;> omega)) ⟨Or.inr rfl, rfl⟩) ⟨Or.inl rfl, rfl⟩, fun j hj => ?_⟩)
        · rw [ins_mem, g2 x]
          constructor
          · rintro (q | q)
            · rw [q]; exact ⟨hb, by omega⟩
            · exact ⟨q.1, by omega⟩
          · intro q
            by_cases hxk : x = k
            · exact Or.inl hxk
            · exact Or.inr ⟨q.1, by omega⟩
        · rw [st_ne _ _ (by simp)]
          rw [ins_get ha] at hx
          by_cases h1 : j < a
          · rw [if_pos h1] at hx
            rw [st_d (by omega)]
            exact b3 j x h1 hx
          · rw [if_neg h1] at hx
            by_cases h2 : j = a
            · rw [if_pos h2] at hx
              cases hx
              rw [h2, st_s]
            · rw [if_neg h2] at hx
              rw [st_d (by omega)]
              have := b4 (j - 1) x (by omega) hx
              rwa [show j - 1 + 1 = j by omega] at this
        · rw [st_d hj, st_ne _ _ (by simp), b5 5 p (by omega)]
          exact g7 j hj
    refine s_X2_isLong hP' hO (by omega) (fun hl => z1 ?_) (fun hl => z0 (hskip (fun q => hl q.2.1) _ rfl))
    refine s_X0_firstOfWeek hW' hO (by omega) (by omega) ?_
    refine s_X0_lastOfWeek hW' hO (by omega) (by omega) ?_
    have hwl : wL A w = wS A (w + 1) - 1 := rfl
    refine s_X2_meets hP' hO (by omega) (by omega) (by omega) (fun hm => z1 ?_) (fun hm => z0 (hskip (fun q => hm q.2.2) _ rfl))
    exact hins ⟨by omega, hl, hm⟩
  · rintro R x ⟨M', l, rfl, g1, g2, g3, g4, g5, g6, g7⟩
    have hP' : Pl M' p A := hP.sx g6 ⟨by omega, by omega, by omega, by omega, by omega⟩
    unfold w_X0_orderBars_L7
    dsimp only
    rw [hP'.1 4 (by decide)]
    simp (disch := omega) only [lm1_, lm2_, lm3_, lm9_, lm10_, lm999_, lm1000_, l0_, l1_, l2_, l3_, l4_, l5_, l6_, l7_, l8_, l9_, l10_, l11_, l12_, l13_, l23_, l24_, l30_, l31_, l33_, l35_, l41_, l42_, l45_, l48_, l57_, l58_, l59_, l60_, l64_, l96_, l99_, l100_, l101_, l126_, l168_, l808_, l909_, l900_, l20_, l1440_, l2003_, l15486209_, l2147483647_, l999_, l1439_, iI_add, iI_sub, iI_mul, iI_neg, iI_rem, iI_lt, iI_le, iI_eq, vp_iI, cl_iI, Int.toNat_natCast]
    rw [if_pos (by omega)]
    refine h M' l g1 (fun x => ?_) (by omega) g4 g5 g6 g7
    rw [g2 x]
    exact ⟨fun q => q.1, fun q => ⟨q, by have := q.1; omega⟩⟩
/-- the inner loop: where e comes in the order -/
theorem s_orderShortOnes_in {κ : Nat → Int} {l : List Nat} {e : Nat} (hl : l.length < 24) (hO : Ord κ l) (hA : ∀ j x : Nat, l[j]? = some x → M 10 p j = iI x)
    (hc : ∀ M', sx (fun c i => c = 10 ∧ i = p) M M' → ∀ x, x ∈ l → ∀ Q : Int32 → Mm → Prop, (κ e < κ x → Q (iI 1) M') → (¬ κ e < κ x → Q (iI 0) M') → w_X0_isStackedBefore p M' (iI e) (iI x) Q) (hne : ∀ x, x ∈ l → κ e ≠ κ x) {K : Int32 × Mm → Prop}
    (hK : ∀ (a : Nat) (M' : Mm), a ≤ l.length → (∀ j x : Nat, j < a → l[j]? = some x → κ x < κ e) → (∀ j x : Nat, a ≤ j → l[j]? = some x → κ e < κ x) → (∀ j x : Nat, j < a → l[j]? = some x → M' 10 p j = iI x) → (∀ j x : Nat, a ≤ j → l[j]? = some x → M' 10 p (j + 1) = iI x) → sx (fun c i => c = 10 ∧ i = p) M M' → K (iI a, M')) : ∃ n, loop (w_X0_orderShortOnes_L59 p (iI e) K) n (iI l.length, M) := by
  refine loop_I (fun a x => ∃ M', x = (iI (a : Nat), M') ∧ a ≤ l.length ∧ (∀ j x : Nat, a ≤ j → l[j]? = some x → κ e < κ x) ∧ (∀ j x : Nat, j < a → l[j]? = some x → M' 10 p j = iI x) ∧ (∀ j x : Nat, a ≤ j → l[j]? = some x → M' 10 p (j + 1) = iI x) ∧ sx (fun c i => c = 10 ∧ i = p) M M') ?_ (k := l.length) ⟨M, rfl, Nat.le_refl _, fun j x hj hx => by have := (List.getElem?_eq_some_iff.mp hx).1; omega, fun j x _ hx => hA j x hx, fun j x hj hx => by have := (List.getElem?_eq_some_iff.mp hx).1; omega, sx_rf⟩
  rintro R a x ⟨M', rfl, g1, g2, g3, g4, g5⟩ hR
  unfold w_X0_orderShortOnes_L59
  dsimp only
  simp (disch := omega) only [lm1_, lm2_, lm3_, lm9_, lm10_, lm999_, lm1000_, l0_, l1_, l2_, l3_, l4_, l5_, l6_, l7_, l8_, l9_, l10_, l11_, l12_, l13_, l23_, l24_, l30_, l31_, l33_, l35_, l41_, l42_, l45_, l48_, l57_, l58_, l59_, l60_, l64_, l96_, l99_, l100_, l101_, l126_, l168_, l808_, l909_, l900_, l20_, l1440_, l2003_, l15486209_, l2147483647_, l999_, l1439_, iI_add, iI_sub, iI_mul, iI_neg, iI_rem, iI_lt, iI_le, iI_eq, vp_iI, cl_iI, Int.toNat_natCast]
  refine s_if (fun q => ?_) (fun q => ?_)
  · have ha : a = 0 := by omega
    exact hK a M' g1 (fun j x hj => by omega) g2 g3 g4 g5
  · obtain ⟨y, hy⟩ : ∃ y, l[a - 1]? = some y := ⟨l[a - 1], List.getElem?_eq_getElem (by omega)⟩
    have hym : y ∈ l := List.mem_of_getElem? hy
    refine s_ldA (by omega) (by omega) (by decide) ?_
    rw [show ((a : Int) - 1).toNat = a - 1 by omega, g3 (a - 1) y (by omega) hy]
    refine hc M' g5 y hym _ (fun hlt => z1 ?_) (fun hlt => z0 ?_)
    · refine s_ldA (by omega) (by omega) (by decide) ?_
      rw [show ((a : Int) - 1).toNat = a - 1 by omega, g3 (a - 1) y (by omega) hy]
      refine s_stN (by omega) (by decide) ?_
      refine hR (a - 1) _ (by omega) ⟨_, by rw [show (a : Int) + -1 = ((a - 1 : Nat) : Int) by omega], by omega, fun j x hj hx => ?_, fun j x hj hx => ?_, fun j x hj hx => ?_, sx_st g5 ⟨rfl, rfl⟩⟩
      · by_cases hja : j = a - 1
        · rw [hja, hy] at hx
          cases hx
          exact hlt
        · exact g2 j x (by omega) hx
      · rw [st_d (by omega)]
        exact g3 j x (by omega) hx
      · by_cases hja : j = a - 1
        · rw [hja, hy] at hx
          cases hx
          rw [show j + 1 = a by omega, st_s]
        · rw [st_d (by omega)]
          exact g4 j x (by omega) hx
    · refine hK a M' g1 (fun j x hj hx => ?_) g2 g3 g4 g5
      have h1 : κ y < κ e := by
        have := hne y hym
        omega
      by_cases hja : j = a - 1
      · rw [hja, hy] at hx
        cases hx
        exact h1
      · have := hO.lt (show j < a - 1 by omega) hx hy
        omega
theorem s_X0_orderShortOnes {Q : Mm → Prop} (hP : Pl M p A) (hO : Ok A) (h : ∀ (M' : Mm) (l : List Nat), Ord (ks A) l → (∀ x, x ∈ l ↔ sh A x) → l.length ≤ 24 → M' 5 p 7 = iI l.length → (∀ j x : Nat, l[j]? = some x → M' 10 p j = iI x) → sx (fun c i => (c = 5 ∨ c = 10) ∧ i = p) M M' → (∀ j, j ≠ 7 → M' 5 p j = M 5 p j) → Q M') : w_X0_orderShortOnes p M Q := by
  have ob := hO.b
  unfold w_X0_orderShortOnes
  refine s_stF ?_
  refine loop_up (fun k x => ∃ (M' : Mm) (l : List Nat), x = (iI k, M') ∧ Ord (ks A) l ∧ (∀ x, x ∈ l ↔ sh A x ∧ x < k) ∧ l.length ≤ k ∧ M' 5 p 7 = iI l.length ∧ (∀ j x : Nat, l[j]? = some x → M' 10 p j = iI x) ∧ sx (fun c i => (c = 5 ∨ c = 10) ∧ i = p) M M' ∧ (∀ j, j ≠ 7 → M' 5 p j = M 5 p j)) (A 0 4).toNat ?_ ?_ (Nat.zero_le _) ⟨_, [], rfl, List.Pairwise.nil, fun x => ⟨fun q => absurd q List.not_mem_nil, fun q => absurd q.2 (Nat.not_lt_zero _)⟩, Nat.le_refl _, by rw [st_s]; rfl, fun j x hx => by simp at hx, sx_st sx_rf ⟨Or.inl rfl, rfl⟩, fun j hj => st_d hj⟩
  · rintro R k x hk ⟨M', l, rfl, g1, g2, g3, g4, g5, g6, g7⟩ hR
    have hP' : Pl M' p A := hP.sx g6 ⟨by omega, by omega, by omega, by omega, by omega⟩
    have hskip : ¬ sh A k → ∀ M2, M2 = M' → R (iI ((k : Int) + 1), M2) := by
      rintro hn M2 rfl
      refine hR _ ⟨_, l, rfl, g1, fun x => ?_, by omega, g4, g5, g6, g7⟩
      rw [g2 x]
      constructor
      · exact fun q => ⟨q.1, by omega⟩
      · intro q
        refine ⟨q.1, ?_⟩
        have : x ≠ k := fun z => hn (by rw [← z]; exact q.1)
        omega
    unfold w_X0_orderShortOnes_L7
    dsimp only
    rw [hP'.1 4 (by decide)]
    simp (disch := omega) only [lm1_, lm2_, lm3_, lm9_, lm10_, lm999_, lm1000_, l0_, l1_, l2_, l3_, l4_, l5_, l6_, l7_, l8_, l9_, l10_, l11_, l12_, l13_, l23_, l24_, l30_, l31_, l33_, l35_, l41_, l42_, l45_, l48_, l57_, l58_, l59_, l60_, l64_, l96_, l99_, l100_, l101_, l126_, l168_, l808_, l909_, l900_, l20_, l1440_, l2003_, l15486209_, l2147483647_, l999_, l1439_, iI_add, iI_sub, iI_mul, iI_neg, iI_rem, iI_lt, iI_le, iI_eq, vp_iI, cl_iI, Int.toNat_natCast]
    rw [if_neg (by omega)]
    have hins : sh A k → ∃ n, loop (w_X0_orderShortOnes_L59 p (iI k) fun (x : Int32 × Mm) => match x with | (v27, M28) => stA M28 10 p 24 v27 (iI k) fun M29 => stF M29 5 p 7 (M29 5 p 7 + iI 1) fun M30 => bI (iI ((k : Int) + 1)) fun v31 => R (v31, M30)) n (M' 5 p 7, M') := by
      intro hb
      rw [g4]
      refine s_orderShortOnes_in (κ := ks A) (l := l) (by omega) g1 g5 (fun M2 hs x hx Q h1 h0 => ?_) (fun x hx => ?_) (fun a M2 ha b1 b2 b3 b4 b5 => ?_)
      · have hP2 : Pl M2 p A := hP'.sx hs ⟨by omega, by omega, by omega, by omega, by omega⟩
        have := (g2 x).mp hx
        exact s_X0_isStackedBefore hP2 hO hb.1 this.2 h1 h0
      · have := (g2 x).mp hx
        exact fun q => by
          have := ks_inj hO hb.1 this.1.1 q
          omega
      · dsimp only
        refine s_stN (by omega) (by decide) ?_
        have e5 : st M2 10 p a (iI k) 5 p 7 = iI l.length := by rw [st_ne _ _ (by simp), b5 5 p (by omega)]; exact g4
        rw [e5]
        simp only [lm1_, lm2_, lm3_, lm9_, lm10_, lm999_, lm1000_, l0_, l1_, l2_, l3_, l4_, l5_, l6_, l7_, l8_, l9_, l10_, l11_, l12_, l13_, l23_, l24_, l30_, l31_, l33_, l35_, l41_, l42_, l45_, l48_, l57_, l58_, l59_, l60_, l64_, l96_, l99_, l100_, l101_, l126_, l168_, l808_, l909_, l900_, l20_, l1440_, l2003_, l15486209_, l2147483647_, l999_, l1439_, iI_add, iI_sub, iI_mul, iI_neg]
        refine s_stF (hR _ ⟨_, l.take a ++ k :: l.drop a, rfl, ins_ord g1 b1 b2, fun x => ?_, by rw [ins_len ha]; omega, by rw [st_s, ins_len ha]; rfl, fun j x hx => ?_, sx_st (sx_st (sx_mono (sx_tr g6 b5) (fun c i q => by rcases q with q | q <;> omega)) ⟨Or.inr rfl, rfl⟩) ⟨Or.inl rfl, rfl⟩, fun j hj => ?_⟩)
        · rw [ins_mem, g2 x]
          constructor
          · rintro (q | q)
            · rw [q]; exact ⟨hb, by omega⟩
            · exact ⟨q.1, by omega⟩
          · intro q
            by_cases hxk : x = k
            · exact Or.inl hxk
            · exact Or.inr ⟨q.1, by omega⟩
        · rw [st_ne _ _ (by simp)]
          rw [ins_get ha] at hx
          by_cases h1 : j < a
          · rw [if_pos h1] at hx
            rw [st_d (by omega)]
            exact b3 j x h1 hx
          · rw [if_neg h1] at hx
            by_cases h2 : j = a
            · rw [if_pos h2] at hx
              cases hx
              rw [h2, st_s]
            · rw [if_neg h2] at hx
              rw [st_d (by omega)]
              have := b4 (j - 1) x (by omega) hx
              rwa [show j - 1 + 1 = j by omega] at this
        · rw [st_d hj, st_ne _ _ (by simp), b5 5 p (by omega)]
          exact g7 j hj
    refine s_X2_isLong hP' hO (by omega) (fun hl => z1 (hskip (fun q => q.2.1 hl) _ rfl)) (fun hl => z0 ?_)
    rw [hP'.1 0 (by decide), hP'.1 1 (by decide)]
    have hse : A 2 k = A 1 k := by
      have := hO.e (e := k) (by omega)
      have : ¬ A 1 k < A 2 k := fun z => hl (Or.inl z)
      omega
    refine s_X2_meets hP' hO (by omega) (by omega) (by omega) (fun hm => z1 ?_) (fun hm => z0 (hskip (fun q => hm ⟨q.2.2.2, by have := q.2.2.1; omega⟩) _ rfl))
    exact hins ⟨by omega, hl, by omega, by omega⟩
  · rintro R x ⟨M', l, rfl, g1, g2, g3, g4, g5, g6, g7⟩
    have hP' : Pl M' p A := hP.sx g6 ⟨by omega, by omega, by omega, by omega, by omega⟩
    unfold w_X0_orderShortOnes_L7
    dsimp only
    rw [hP'.1 4 (by decide)]
    simp (disch := omega) only [lm1_, lm2_, lm3_, lm9_, lm10_, lm999_, lm1000_, l0_, l1_, l2_, l3_, l4_, l5_, l6_, l7_, l8_, l9_, l10_, l11_, l12_, l13_, l23_, l24_, l30_, l31_, l33_, l35_, l41_, l42_, l45_, l48_, l57_, l58_, l59_, l60_, l64_, l96_, l99_, l100_, l101_, l126_, l168_, l808_, l909_, l900_, l20_, l1440_, l2003_, l15486209_, l2147483647_, l999_, l1439_, iI_add, iI_sub, iI_mul, iI_neg, iI_rem, iI_lt, iI_le, iI_eq, vp_iI, cl_iI, Int.toNat_natCast]
    rw [if_pos (by omega)]
    refine h M' l g1 (fun x => ?_) (by omega) g4 g5 g6 g7
    rw [g2 x]
    exact ⟨fun q => q.1, fun q => ⟨q, by have := q.1; omega⟩⟩
end ORD
