/-- the days of a bar, counted from the page's first -/
def bs (A : Ab) (w e : Nat) : Nat := (max (A 1 e) (wS A w) - A 0 0).toNat
def bt (A : Ab) (w e : Nat) : Nat := (min (A 2 e) (wL A w) - A 0 0).toNat
theorem bs_bt {A : Ab} (hO : Ok A) {w e : Nat} (hw : (w : Int) < nW A) (hb : bar A w e) : max (A 1 e) (wS A w) - A 0 0 = bs A w e ∧ min (A 2 e) (wL A w) - A 0 0 = bt A w e ∧ bs A w e ≤ bt A w e ∧ bt A w e < 42 := by
  have ob := hO.b
  have oe := hO.e hb.1
  have h1 := wS_b hO (w := w) (by omega) (by omega)
  have h2 := wS_b hO (w := w + 1) (by omega) (by omega)
  have h3 := wS_lt hO (w := w) (by omega) hw
  have h4 := hb.2.2
  unfold bs bt
  unfold wL at *
  omega
section LAYB
variable {M : Mm} {p : Nat} {A : Ab} {L : Nat → Nat → Int} {B : Nat → Nat → Prop}
set_option maxHeartbeats 2000000 in
theorem s_X0_layBar {Q : Mm → Prop} (hP : Pl M p A) (hO : Ok A) (hW : Wk M p A) {w : Nat} (hw : (w : Int) < nW A) (hM : Lw M p A L w) (hT : TK M p B) {e : Nat} (hb : bar A w e) (hfree : ∃ r, r < 24 ∧ ¬ ∃ d, bs A w e ≤ d ∧ d ≤ bt A w e ∧ B d r)
    (h : ∀ (M' : Mm) (r : Nat), r < 24 → (prv L w e ≠ -9 ∧ (¬ ∃ d, bs A w e ≤ d ∧ d ≤ bt A w e ∧ B d (prv L w e).toNat) ∧ (r : Int) = prv L w e) ∨ ((prv L w e = -9 ∨ ∃ d, bs A w e ≤ d ∧ d ≤ bt A w e ∧ B d (prv L w e).toNat) ∧ (¬ ∃ d, bs A w e ≤ d ∧ d ≤ bt A w e ∧ B d r) ∧ ∀ q, q < r → ∃ d, bs A w e ≤ d ∧ d ≤ bt A w e ∧ B d q) → M' 12 (24 * p + e) w = iI r → (∀ w', w' ≠ w → M' 12 (24 * p + e) w' = M 12 (24 * p + e) w') → TK M' p (fun k r' => B k r' ∨ (bs A w e ≤ k ∧ k ≤ bt A w e ∧ r' = r)) → sx (fun c i => c = 9 ∧ i = p ∨ c = 12 ∧ i = 24 * p + e) M M' → Q M') : w_X0_layBar p M (iI e) (iI w) Q := by
  have hn := nW_b hO
  have ob := hO.b
  have he := hb.1
  have oe := hO.e he
  obtain ⟨pe1, pe2, pe3, pe4⟩ := hP.2 e he
  obtain ⟨b1, b2, b3, b4⟩ := bs_bt hO hw hb
  have h1 := wS_b hO (w := w) (by omega) (by omega)
  have h2 := wS_b hO (w := w + 1) (by omega) (by omega)
  have hwl : wL A w = wS A (w + 1) - 1 := rfl
  unfold w_X0_layBar
  refine s_ldN (by omega) (by decide) ?_
  refine s_X0_firstOfWeek hW hO (by omega) (by omega) ?_
  rw [pe1, hP.1 0 (by decide)]
  have e1 : (if iI (A 1 e) < iI (wS A w) then iI (wS A w) else iI (A 1 e)) - iI (A 0 0) = iI (bs A w e) := by
    rw [← b1]
    simp (disch := omega) only [lm1_, lm2_, lm3_, lm9_, lm10_, lm999_, lm1000_, l0_, l1_, l2_, l3_, l4_, l5_, l6_, l7_, l8_, l9_, l10_, l11_, l12_, l13_, l23_, l24_, l30_, l31_, l33_, l35_, l41_, l42_, l45_, l48_, l57_, l58_, l59_, l60_, l64_, l96_, l99_, l100_, l101_, l126_, l168_, l808_, l909_, l900_, l20_, l1440_, l2003_, l15486209_, l2147483647_, l999_, l1439_, iI_add, iI_sub, iI_mul, iI_neg, iI_rem, iI_lt, iI_le, iI_eq, vp_iI, cl_iI, Int.toNat_natCast]
    split
    · rw [iI_sub, show max (A 1 e) (wS A w) = wS A w by omega]
    · rw [iI_sub, show max (A 1 e) (wS A w) = A 1 e by omega]
  rw [e1]
  refine s_bI (s_ldN (by omega) (by decide) ?_)
  refine s_X0_lastOfWeek hW hO (by omega) hw ?_
  rw [pe2, hP.1 0 (by decide)]
  have e2 : (if iI (wL A w) < iI (A 2 e) then iI (wL A w) else iI (A 2 e)) - iI (A 0 0) = iI (bt A w e) := by
    rw [← b2]
    simp (disch := omega) only [lm1_, lm2_, lm3_, lm9_, lm10_, lm999_, lm1000_, l0_, l1_, l2_, l3_, l4_, l5_, l6_, l7_, l8_, l9_, l10_, l11_, l12_, l13_, l23_, l24_, l30_, l31_, l33_, l35_, l41_, l42_, l45_, l48_, l57_, l58_, l59_, l60_, l64_, l96_, l99_, l100_, l101_, l126_, l168_, l808_, l909_, l900_, l20_, l1440_, l2003_, l15486209_, l2147483647_, l999_, l1439_, iI_add, iI_sub, iI_mul, iI_neg, iI_rem, iI_lt, iI_le, iI_eq, vp_iI, cl_iI, Int.toNat_natCast]
    split
    · rw [iI_sub, show min (A 2 e) (wL A w) = wL A w by omega]
    · rw [iI_sub, show min (A 2 e) (wL A w) = A 2 e by omega]
  rw [e2]
  refine s_bI ?_
  generalize hs : bs A w e = s at *
  generalize ht : bt A w e = t at *
  clear e1 e2 b1 b2
  -- the rows taken on its days
  refine loop_up (fun k x => s ≤ k ∧ ∃ T : Nat, x = (iI T, iI k, M) ∧ T < 16777216 ∧ ∀ r, T.testBit r = true ↔ ∃ d, s ≤ d ∧ d < k ∧ B d r) (t + 1) ?_ ?_ (i := s) (by omega) ⟨Nat.le_refl _, 0, rfl, by decide, fun r => by
    rw [Nat.zero_testBit]
    constructor
    · intro q; cases q
    · rintro ⟨d, q1, q2, _⟩; omega⟩
  · rintro R k x hk ⟨hsk, T, rfl, g1, g2⟩ hR
    unfold w_X0_layBar_L59
    dsimp only
    simp (disch := omega) only [lm1_, lm2_, lm3_, lm9_, lm10_, lm999_, lm1000_, l0_, l1_, l2_, l3_, l4_, l5_, l6_, l7_, l8_, l9_, l10_, l11_, l12_, l13_, l23_, l24_, l30_, l31_, l33_, l35_, l41_, l42_, l45_, l48_, l57_, l58_, l59_, l60_, l64_, l96_, l99_, l100_, l101_, l126_, l168_, l808_, l909_, l900_, l20_, l1440_, l2003_, l15486209_, l2147483647_, l999_, l1439_, iI_add, iI_sub, iI_mul, iI_neg, iI_rem, iI_lt, iI_le, iI_eq, vp_iI, cl_iI, Int.toNat_natCast]
    rw [if_neg (by omega)]
    obtain ⟨T', f1, f2, f3⟩ := hT k (by omega)
    refine s_ldN (by omega) (by decide) ?_
    rw [f1, bit_or (by omega) (by omega)]
    refine hR _ ⟨by omega, T ||| T', rfl, Nat.or_lt_two_pow (n := 24) g1 f2, fun r => ?_⟩
    rw [Nat.testBit_or, Bool.or_eq_true, g2 r, f3 r]
    constructor
    · rintro (⟨d, q1, q2, q3⟩ | q)
      · exact ⟨d, q1, by omega, q3⟩
      · exact ⟨k, hsk, by omega, q⟩
    · rintro ⟨d, q1, q2, q3⟩
      by_cases hdk : d = k
      · rw [hdk] at q3
        exact Or.inr q3
      · exact Or.inl ⟨d, q1, by omega, q3⟩
  · rintro R x ⟨hsk, T, rfl, g1, g2⟩
    have g2 : ∀ r, T.testBit r = true ↔ ∃ d, s ≤ d ∧ d ≤ t ∧ B d r := fun r => (g2 r).trans ⟨fun ⟨d, q1, q2, q3⟩ => ⟨d, q1, by omega, q3⟩, fun ⟨d, q1, q2, q3⟩ => ⟨d, q1, by omega, q3⟩⟩
    unfold w_X0_layBar_L59
    dsimp only
    rw [if_pos (show iI t < iI ((t + 1 : Nat) : Int) from (iI_lt (by omega) (by omega) (by omega) (by omega)).mpr (by omega))]
    -- behind the place
    have fin : ∀ r : Nat, r < 24 → ((prv L w e ≠ -9 ∧ (¬ ∃ d, s ≤ d ∧ d ≤ t ∧ B d (prv L w e).toNat) ∧ (r : Int) = prv L w e) ∨ ((prv L w e = -9 ∨ ∃ d, s ≤ d ∧ d ≤ t ∧ B d (prv L w e).toNat) ∧ (¬ ∃ d, s ≤ d ∧ d ≤ t ∧ B d r) ∧ ∀ q, q < r → ∃ d, s ≤ d ∧ d ≤ t ∧ B d q)) → ldR 24 (iI e) (fun k27 => stA M 12 (24 * p + k27) 7 (iI w) (iI r) fun M28 => ∃ n, loop (w_X0_layBar_L159 p (iI t) (iI r) (fun ((v36, M37) : Int32 × Mm) => Q M37)) n (iI s, M28)) := by
      intro r hr hplace
      refine s_ldRN (by omega) (by decide) (s_stN (by omega) (by decide) ?_)
      have hT1 : TK (st M 12 (24 * p + e) w (iI r)) p B := hT.congr (fun k _ => by rw [st_ne _ _ (by omega)]) (fun k r _ => Iff.rfl)
      refine loop_up (fun k x => s ≤ k ∧ ∃ M', x = (iI k, M') ∧ TK M' p (fun k' r' => B k' r' ∨ (s ≤ k' ∧ k' < k ∧ r' = r)) ∧ sx (fun c i => c = 9 ∧ i = p) (st M 12 (24 * p + e) w (iI r)) M') (t + 1) ?_ ?_ (i := s) (by omega) ⟨Nat.le_refl _, _, rfl, hT1.congr (fun _ _ => rfl) (fun k' r' _ => ⟨Or.inl, fun q => q.elim id (fun q => by omega)⟩), sx_rf⟩
      · rintro R k x hk ⟨hsk, M', rfl, f1, f2⟩ hR
        unfold w_X0_layBar_L159
        dsimp only
        rw [bit_set (by omega)]
        obtain ⟨T', t1, t2, t3⟩ := f1 k (by omega)
        simp (disch := omega) only [lm1_, lm2_, lm3_, lm9_, lm10_, lm999_, lm1000_, l0_, l1_, l2_, l3_, l4_, l5_, l6_, l7_, l8_, l9_, l10_, l11_, l12_, l13_, l23_, l24_, l30_, l31_, l33_, l35_, l41_, l42_, l45_, l48_, l57_, l58_, l59_, l60_, l64_, l96_, l99_, l100_, l101_, l126_, l168_, l808_, l909_, l900_, l20_, l1440_, l2003_, l15486209_, l2147483647_, l999_, l1439_, iI_add, iI_sub, iI_mul, iI_neg, iI_rem, iI_lt, iI_le, iI_eq, vp_iI, cl_iI, Int.toNat_natCast]
        rw [if_neg (by omega)]
        refine s_ldN (by omega) (by decide) ?_
        rw [t1, bit_or (by omega) (by have := pw_24 r hr; omega)]
        refine s_stN (by omega) (by decide) ?_
        refine hR _ ⟨by omega, _, rfl, (f1.set (by omega) hr t1 t2).congr (fun _ _ => rfl) (fun k' r' _ => ?_), sx_st f2 ⟨rfl, rfl⟩⟩
        constructor
        · rintro ((q | q) | q)
          · exact Or.inl q
          · exact Or.inr (by omega)
          · exact Or.inr (by omega)
        · rintro (q | q)
          · exact Or.inl (Or.inl q)
          · by_cases hkk : k' = k
            · exact Or.inr ⟨hkk, q.2.2⟩
            · exact Or.inl (Or.inr (by omega))
      · rintro R x ⟨hsk, M', rfl, f1, f2⟩
        unfold w_X0_layBar_L159
        dsimp only
        rw [if_pos (show iI t < iI ((t + 1 : Nat) : Int) from (iI_lt (by omega) (by omega) (by omega) (by omega)).mpr (by omega))]
        refine h M' r hr hplace ?_ (fun w' hw' => ?_) (f1.congr (fun _ _ => rfl) (fun k' r' _ => ?_)) ?_
        · rw [f2 12 _ (by omega), st_s]
        · rw [f2 12 _ (by omega), st_d hw']
        · constructor
          · rintro (q | q)
            · exact Or.inl q
            · exact Or.inr (by omega)
          · rintro (q | q)
            · exact Or.inl q
            · exact Or.inr (by omega)
        · intro c i hci
          rw [f2 c i (by omega), st_ne _ _ (by omega)]
    refine s_letV (iI (prv L w e)) (fun J hJ => ?_) ?_
    · unfold prv at hJ
      simp (disch := omega) only [lm1_, lm2_, lm3_, lm9_, lm10_, lm999_, lm1000_, l0_, l1_, l2_, l3_, l4_, l5_, l6_, l7_, l8_, l9_, l10_, l11_, l12_, l13_, l23_, l24_, l30_, l31_, l33_, l35_, l41_, l42_, l45_, l48_, l57_, l58_, l59_, l60_, l64_, l96_, l99_, l100_, l101_, l126_, l168_, l808_, l909_, l900_, l20_, l1440_, l2003_, l15486209_, l2147483647_, l999_, l1439_, iI_add, iI_sub, iI_mul, iI_neg, iI_rem, iI_lt, iI_le, iI_eq, vp_iI, cl_iI, Int.toNat_natCast]
      by_cases hw0 : w = 0
      · rw [if_pos (by omega)]
        rw [if_pos hw0] at hJ
        exact hJ
      · rw [if_neg (by omega)]
        rw [if_neg hw0] at hJ
        obtain ⟨m1, m2, m3⟩ := hM e he hw0
        refine s_ldRN (by omega) (by decide) (s_ldA (by omega) (by omega) (by decide) ?_)
        rw [show ((w : Int) - 1).toNat = w - 1 by omega, m1]
        exact hJ
    · have hpb : (prv L w e = -9 ∨ 0 ≤ prv L w e) ∧ prv L w e < 24 := by
        unfold prv
        by_cases hw0 : w = 0
        · rw [if_pos hw0]; omega
        · rw [if_neg hw0]
          obtain ⟨m1, m2, m3⟩ := hM e he hw0
          omega
      by_cases hst : prv L w e ≠ -9 ∧ ¬ ∃ d, s ≤ d ∧ d ≤ t ∧ B d (prv L w e).toNat
      · obtain ⟨q, hq⟩ : ∃ q : Nat, prv L w e = q := ⟨(prv L w e).toNat, by omega⟩
        have hbit : ¬ T.testBit q = true := fun z => hst.2 (by rw [hq, Int.toNat_natCast]; exact (g2 q).mp z)
        refine s_letV (iI 1) (fun J hJ => ?_) ?_
        · refine s_letJ (fun _ => False) (fun J2 _ => ?_) (fun x hx => hx.elim)
          rw [hq, bit_t (by omega) (by omega), if_neg hbit]
          simp (disch := omega) only [lm1_, lm2_, lm3_, lm9_, lm10_, lm999_, lm1000_, l0_, l1_, l2_, l3_, l4_, l5_, l6_, l7_, l8_, l9_, l10_, l11_, l12_, l13_, l23_, l24_, l30_, l31_, l33_, l35_, l41_, l42_, l45_, l48_, l57_, l58_, l59_, l60_, l64_, l96_, l99_, l100_, l101_, l126_, l168_, l808_, l909_, l900_, l20_, l1440_, l2003_, l15486209_, l2147483647_, l999_, l1439_, iI_add, iI_sub, iI_mul, iI_neg, iI_rem, iI_lt, iI_le, iI_eq, vp_iI, cl_iI, Int.toNat_natCast]
          rw [if_neg (by omega)]
          exact hJ
        · refine s_letV (iI (prv L w e), M) (fun J hJ => by rw [if_neg (by decide)]; exact hJ) ?_
          rw [hq]
          exact fin q (by omega) (Or.inl ⟨hst.1, hst.2, hq.symm⟩)
      · have hst2 : prv L w e = -9 ∨ ∃ d, s ≤ d ∧ d ≤ t ∧ B d (prv L w e).toNat := by
          by_cases q : prv L w e = -9
          · exact Or.inl q
          · exact Or.inr (Classical.byContradiction fun z => hst ⟨q, z⟩)
        refine s_letV (iI 0) (fun J hJ => ?_) ?_
        · refine s_letV () (fun J2 hJ2 => ?_) hJ
          by_cases q9 : prv L w e = -9
          · rw [q9, if_pos (by decide)]
            exact hJ2
          · obtain ⟨q, hq⟩ : ∃ q : Nat, prv L w e = q := ⟨(prv L w e).toNat, (Int.toNat_of_nonneg (hpb.1.resolve_left q9)).symm⟩
            have hbit : T.testBit q = true := (g2 q).mpr (by have := hst2.resolve_left q9; rwa [hq, Int.toNat_natCast] at this)
            have hq24 : q < 24 := by have := hpb.2; clear hst2; omega
            clear hst2
            rw [hq, bit_t (by omega) (by omega), if_pos hbit]
            simp (disch := omega) only [lm1_, lm2_, lm3_, lm9_, lm10_, lm999_, lm1000_, l0_, l1_, l2_, l3_, l4_, l5_, l6_, l7_, l8_, l9_, l10_, l11_, l12_, l13_, l23_, l24_, l30_, l31_, l33_, l35_, l41_, l42_, l45_, l48_, l57_, l58_, l59_, l60_, l64_, l96_, l99_, l100_, l101_, l126_, l168_, l808_, l909_, l900_, l20_, l1440_, l2003_, l15486209_, l2147483647_, l999_, l1439_, iI_add, iI_sub, iI_mul, iI_neg, iI_rem, iI_lt, iI_le, iI_eq, vp_iI, cl_iI, Int.toNat_natCast]
            rw [if_neg (by omega)]
            exact hJ2
        · refine s_letJ (fun y => ∃ r : Nat, y = (iI r, M) ∧ r < 24 ∧ (¬ ∃ d, s ≤ d ∧ d ≤ t ∧ B d r) ∧ ∀ q, q < r → ∃ d, s ≤ d ∧ d ≤ t ∧ B d q) (fun J hJ => ?_) ?_
          · rw [if_pos (by decide)]
            refine s_X0_smallestFree (by omega) (fun r f1 f2 f3 => hJ _ ⟨r, rfl, ?_⟩)
            obtain ⟨r0, z1, z2⟩ := hfree
            have hr0 : r ≤ r0 := Nat.le_of_not_lt (fun z => z2 ((g2 r0).mp (f2 r0 z)))
            refine ⟨by omega, fun z => ?_, fun q hq => (g2 q).mp (f2 q hq)⟩
            have := (g2 r).mpr z
            rw [f3 (by omega)] at this
            cases this
          · rintro y ⟨r, rfl, f1, f2, f3⟩
            exact fin r f1 (Or.inr ⟨hst2, f2, f3⟩)
end LAYB
