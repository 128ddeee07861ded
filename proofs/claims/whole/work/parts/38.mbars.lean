/-- its lanes, in the memory -/
def Lmm (M : Mm) (L : Nat → Nat → Int) : Prop := ∀ e w, e < 24 → w < 7 → M 20 0 (7 * e + w) = iI (L e w)
/-- a lane that isn't free, as the reference asks it -/
abbrev fr1 (A : Ab) (L : Nat → Nat → Int) (w e : Nat) (r : Int) (o : Nat) : Prop := (o ≠ e ∧ L o w = r) ∧ A 1 o ≤ A 2 e ∧ A 1 e ≤ A 2 o ∧ (A 1 o ≤ wL A w ∧ A 1 e ≤ wL A w) ∧ wS A w ≤ A 2 o ∧ wS A w ≤ A 2 e
def fr (A : Ab) (L : Nat → Nat → Int) (w e : Nat) (r : Int) : Prop := ∃ o : Nat, (o : Int) < A 0 4 ∧ fr1 A L w e r o
section MB
variable {M : Mm} {A : Ab} {L : Nat → Nat → Int}
theorem s_lm (hM : Lmm M L) {e w : Nat} (he : e < 24) (hw : w < 7) {K : Int32 → Prop} (h : K (iI (L e w))) : ldA (M 20 0) 168 (iI (7 * (e : Int) + w)) K := by
  refine s_ldA (by omega) (by omega) (by decide) ?_
  rw [show (7 * (e : Int) + w).toNat = 7 * e + w by omega, hM e w he hw]
  exact h
theorem s_X5_isAhead {Q : Int32 → Mm → Prop} (hP : Pm M 0 A) (hW : Wm M A) (hO : Ok A) (hM : Lmm M L) {w : Nat} (hw : (w : Int) < nW A) (hL : Lb A L w) {e o : Nat} (he : bar A w e) (ho : bar A w o) (hoe : o < e) (h1 : kb A L w e < kb A L w o → Q (iI 1) M) (h0 : ¬ kb A L w e < kb A L w o → Q (iI 0) M) : w_X5_isAhead M (iI e) (iI o) (iI w) Q := by
  have hn := nW_b hO
  have ob := hO.b
  have oe := hO.e he.1
  have oo := hO.e ho.1
  have he1 := he.1
  have ho1 := ho.1
  have hs := wS_b hO (w := w) (by omega) (by omega)
  unfold w_X5_isAhead
  refine s_X5_beganBefore hP hW hO he1 hw (fun c1 => ?_) (fun c1 => ?_)
  · refine s_X5_beganBefore hP hW hO ho1 hw (fun c2 => ?_) (fun c2 => ?_)
    · rw [if_pos rfl]
      rw [kb_1 c1, kb_1 c2] at h1 h0
      refine s_X5_beganBefore hP hW hO he1 hw (fun _ => ?_) (fun q => absurd c1 q)
      rw [if_neg (by decide)]
      by_cases hw0 : w = 0
      · rw [hw0, if_pos (by decide)]
        rw [if_pos hw0, if_pos hw0] at h0
        simp (disch := omega) only [lm1_, lm2_, lm3_, lm9_, lm10_, lm999_, lm1000_, l0_, l1_, l2_, l3_, l4_, l5_, l6_, l7_, l8_, l9_, l10_, l11_, l12_, l13_, l23_, l24_, l30_, l31_, l33_, l35_, l41_, l42_, l45_, l48_, l57_, l58_, l59_, l60_, l64_, l96_, l99_, l100_, l101_, l126_, l168_, l808_, l909_, l999_, l1439_, iI_add, iI_sub, iI_mul, iI_neg, iI_rem, iI_lt, iI_le, iI_eq, vp_iI, cl_iI, Int.toNat_natCast]
        rw [if_pos (by omega)]
        exact h0 (by omega)
      · rw [if_neg hw0, if_neg hw0] at h1 h0
        have m1 := hL e he c1 hw0
        have m2 := hL o ho c2 hw0
        simp (disch := omega) only [lm1_, lm2_, lm3_, lm9_, lm10_, lm999_, lm1000_, l0_, l1_, l2_, l3_, l4_, l5_, l6_, l7_, l8_, l9_, l10_, l11_, l12_, l13_, l23_, l24_, l30_, l31_, l33_, l35_, l41_, l42_, l45_, l48_, l57_, l58_, l59_, l60_, l64_, l96_, l99_, l100_, l101_, l126_, l168_, l808_, l909_, l999_, l1439_, iI_add, iI_sub, iI_mul, iI_neg, iI_rem, iI_lt, iI_le, iI_eq, vp_iI, cl_iI, Int.toNat_natCast]
        rw [if_neg (by omega), show (7 * (e : Int) + w - 1) = 7 * (e : Int) + ((w - 1 : Nat) : Int) by omega, show (7 * (o : Int) + w - 1) = 7 * (o : Int) + ((w - 1 : Nat) : Int) by omega]
        refine s_lm hM (by omega) (by omega) (s_lm hM (by omega) (by omega) ?_)
        simp (disch := omega) only [lm1_, lm2_, lm3_, lm9_, lm10_, lm999_, lm1000_, l0_, l1_, l2_, l3_, l4_, l5_, l6_, l7_, l8_, l9_, l10_, l11_, l12_, l13_, l23_, l24_, l30_, l31_, l33_, l35_, l41_, l42_, l45_, l48_, l57_, l58_, l59_, l60_, l64_, l96_, l99_, l100_, l101_, l126_, l168_, l808_, l909_, l999_, l1439_, iI_add, iI_sub, iI_mul, iI_neg, iI_rem, iI_lt, iI_le, iI_eq, vp_iI, cl_iI, Int.toNat_natCast]
        exact s_if (fun q => h0 (by omega)) (fun q => h1 (by omega))
    · rw [if_neg (by decide)]
      rw [kb_1 c1, kb_2 c2] at h1
      refine s_X5_beganBefore hP hW hO he1 hw (fun _ => h1 ?_) (fun q => absurd c1 q)
      by_cases hw0 : w = 0
      · rw [if_pos hw0]
        omega
      · rw [if_neg hw0]
        have := hL e he c1 hw0
        omega
  · refine s_X5_beganBefore hP hW hO ho1 hw (fun c2 => ?_) (fun c2 => ?_)
    · rw [if_neg (by decide)]
      rw [kb_2 c1, kb_1 c2] at h0
      refine s_X5_beganBefore hP hW hO he1 hw (fun q => absurd q c1) (fun _ => h0 ?_)
      by_cases hw0 : w = 0
      · rw [if_pos hw0]
        omega
      · rw [if_neg hw0]
        have := hL o ho c2 hw0
        omega
    · rw [if_pos rfl]
      rw [kb_2 c1, kb_2 c2] at h1 h0
      refine s_X5_beganBefore hP hW hO he1 hw (fun q => absurd q c1) (fun _ => ?_)
      rw [if_pos (by decide)]
      refine s_X5_begins hP hO he1 (s_X5_begins hP hO ho1 ?_)
      refine s_if (fun q => ?_) (fun q => ?_)
      · have q := (iI_eq (by omega) (by omega) (by omega) (by omega)).mp q
        refine s_X5_ends hP hO he1 (s_X5_begins hP hO he1 (s_bI (s_X5_ends hP hO ho1 (s_X5_begins hP hO ho1 (s_bI ?_)))))
        rw [iI_sub, iI_sub]
        refine s_if (fun q2 => ?_) (fun q2 => ?_)
        · have q2 := (iI_eq (by omega) (by omega) (by omega) (by omega)).mp q2
          refine s_X5_rankOf hP hO he1 (s_X5_rankOf hP hO ho1 ?_)
          refine s_if (fun q3 => ?_) (fun q3 => ?_)
          · have q3 := (iI_eq (by omega) (by omega) (by omega) (by omega)).mp q3
            simp (disch := omega) only [lm1_, lm2_, lm3_, lm9_, lm10_, lm999_, lm1000_, l0_, l1_, l2_, l3_, l4_, l5_, l6_, l7_, l8_, l9_, l10_, l11_, l12_, l13_, l23_, l24_, l30_, l31_, l33_, l35_, l41_, l42_, l45_, l48_, l57_, l58_, l59_, l60_, l64_, l96_, l99_, l100_, l101_, l126_, l168_, l808_, l909_, l999_, l1439_, iI_add, iI_sub, iI_mul, iI_neg, iI_rem, iI_lt, iI_le, iI_eq, vp_iI, cl_iI, Int.toNat_natCast]
            rw [if_pos (by omega)]
            exact h0 (by omega)
          · have q3 : ¬ A 4 e = A 4 o := fun z => q3 (by rw [z])
            refine s_X5_rankOf hP hO he1 (s_X5_rankOf hP hO ho1 ?_)
            simp (disch := omega) only [lm1_, lm2_, lm3_, lm9_, lm10_, lm999_, lm1000_, l0_, l1_, l2_, l3_, l4_, l5_, l6_, l7_, l8_, l9_, l10_, l11_, l12_, l13_, l23_, l24_, l30_, l31_, l33_, l35_, l41_, l42_, l45_, l48_, l57_, l58_, l59_, l60_, l64_, l96_, l99_, l100_, l101_, l126_, l168_, l808_, l909_, l999_, l1439_, iI_add, iI_sub, iI_mul, iI_neg, iI_rem, iI_lt, iI_le, iI_eq, vp_iI, cl_iI, Int.toNat_natCast]
            exact s_if (fun q4 => h0 (by omega)) (fun q4 => h1 (by omega))
        · have q2 : ¬ A 2 e - A 1 e = A 2 o - A 1 o := fun z => q2 (by rw [z])
          simp (disch := omega) only [lm1_, lm2_, lm3_, lm9_, lm10_, lm999_, lm1000_, l0_, l1_, l2_, l3_, l4_, l5_, l6_, l7_, l8_, l9_, l10_, l11_, l12_, l13_, l23_, l24_, l30_, l31_, l33_, l35_, l41_, l42_, l45_, l48_, l57_, l58_, l59_, l60_, l64_, l96_, l99_, l100_, l101_, l126_, l168_, l808_, l909_, l999_, l1439_, iI_add, iI_sub, iI_mul, iI_neg, iI_rem, iI_lt, iI_le, iI_eq, vp_iI, cl_iI, Int.toNat_natCast]
          exact s_if (fun q4 => h0 (by omega)) (fun q4 => h1 (by omega))
      · have q : ¬ A 1 e = A 1 o := fun z => q (by rw [z])
        refine s_X5_begins hP hO he1 (s_X5_begins hP hO ho1 ?_)
        simp (disch := omega) only [lm1_, lm2_, lm3_, lm9_, lm10_, lm999_, lm1000_, l0_, l1_, l2_, l3_, l4_, l5_, l6_, l7_, l8_, l9_, l10_, l11_, l12_, l13_, l23_, l24_, l30_, l31_, l33_, l35_, l41_, l42_, l45_, l48_, l57_, l58_, l59_, l60_, l64_, l96_, l99_, l100_, l101_, l126_, l168_, l808_, l909_, l999_, l1439_, iI_add, iI_sub, iI_mul, iI_neg, iI_rem, iI_lt, iI_le, iI_eq, vp_iI, cl_iI, Int.toNat_natCast]
        exact s_if (fun q4 => h0 (by omega)) (fun q4 => h1 (by omega))
theorem s_X5_isShortBefore {Q : Int32 → Mm → Prop} (hP : Pm M 0 A) (hO : Ok A) {e o : Nat} (he : (e : Int) < A 0 4) (hoe : o < e) (h1 : ks A e < ks A o → Q (iI 1) M) (h0 : ¬ ks A e < ks A o → Q (iI 0) M) : w_X5_isShortBefore M (iI e) (iI o) Q := by
  have ob := hO.b
  have oe := hO.e he
  have ho1 : (o : Int) < A 0 4 := by omega
  have oo := hO.e ho1
  unfold ks at h1 h0
  unfold w_X5_isShortBefore
  refine s_X5_rankOf hP hO he (s_X5_rankOf hP hO ho1 ?_)
  refine s_if (fun q => ?_) (fun q => ?_)
  · have q := (iI_eq (by omega) (by omega) (by omega) (by omega)).mp q
    refine s_X5_timeOf hP hO he (s_X5_timeOf hP hO ho1 ?_)
    refine s_if (fun q2 => ?_) (fun q2 => ?_)
    · have q2 := (iI_eq (by omega) (by omega) (by omega) (by omega)).mp q2
      simp (disch := omega) only [lm1_, lm2_, lm3_, lm9_, lm10_, lm999_, lm1000_, l0_, l1_, l2_, l3_, l4_, l5_, l6_, l7_, l8_, l9_, l10_, l11_, l12_, l13_, l23_, l24_, l30_, l31_, l33_, l35_, l41_, l42_, l45_, l48_, l57_, l58_, l59_, l60_, l64_, l96_, l99_, l100_, l101_, l126_, l168_, l808_, l909_, l999_, l1439_, iI_add, iI_sub, iI_mul, iI_neg, iI_rem, iI_lt, iI_le, iI_eq, vp_iI, cl_iI, Int.toNat_natCast]
      rw [if_pos (by omega)]
      exact h0 (by omega)
    · have q2 : ¬ A 3 e = A 3 o := fun z => q2 (by rw [z])
      refine s_X5_timeOf hP hO he (s_X5_timeOf hP hO ho1 ?_)
      simp (disch := omega) only [lm1_, lm2_, lm3_, lm9_, lm10_, lm999_, lm1000_, l0_, l1_, l2_, l3_, l4_, l5_, l6_, l7_, l8_, l9_, l10_, l11_, l12_, l13_, l23_, l24_, l30_, l31_, l33_, l35_, l41_, l42_, l45_, l48_, l57_, l58_, l59_, l60_, l64_, l96_, l99_, l100_, l101_, l126_, l168_, l808_, l909_, l999_, l1439_, iI_add, iI_sub, iI_mul, iI_neg, iI_rem, iI_lt, iI_le, iI_eq, vp_iI, cl_iI, Int.toNat_natCast]
      exact s_if (fun q4 => h0 (by omega)) (fun q4 => h1 (by omega))
  · have q : ¬ A 4 e = A 4 o := fun z => q (by rw [z])
    refine s_X5_rankOf hP hO he (s_X5_rankOf hP hO ho1 ?_)
    simp (disch := omega) only [lm1_, lm2_, lm3_, lm9_, lm10_, lm999_, lm1000_, l0_, l1_, l2_, l3_, l4_, l5_, l6_, l7_, l8_, l9_, l10_, l11_, l12_, l13_, l23_, l24_, l30_, l31_, l33_, l35_, l41_, l42_, l45_, l48_, l57_, l58_, l59_, l60_, l64_, l96_, l99_, l100_, l101_, l126_, l168_, l808_, l909_, l999_, l1439_, iI_add, iI_sub, iI_mul, iI_neg, iI_rem, iI_lt, iI_le, iI_eq, vp_iI, cl_iI, Int.toNat_natCast]
    exact s_if (fun q4 => h0 (by omega)) (fun q4 => h1 (by omega))
theorem s_X5_meetsIn {Q : Int32 → Mm → Prop} (hP : Pm M 0 A) (hW : Wm M A) (hO : Ok A) {w : Nat} (hw : (w : Int) < nW A) {o e : Nat} (ho : (o : Int) < A 0 4) (he : (e : Int) < A 0 4) (h1 : (A 1 o ≤ wL A w ∧ A 1 e ≤ wL A w) ∧ wS A w ≤ A 2 o ∧ wS A w ≤ A 2 e → Q (iI 1) M) (h0 : ¬ ((A 1 o ≤ wL A w ∧ A 1 e ≤ wL A w) ∧ wS A w ≤ A 2 o ∧ wS A w ≤ A 2 e) → Q (iI 0) M) : w_X5_meetsIn M (iI o) (iI e) (iI w) Q := by
  have ob := hO.b
  have oe := hO.e he
  have oo := hO.e ho
  have b1 := wS_b hO (w := w) (by omega) (by omega)
  have b2 := wS_b hO (w := (w : Int) + 1) (by omega) (by omega)
  have hwl : wL A w = wS A (w + 1) - 1 := rfl
  unfold w_X5_meetsIn
  refine s_X5_begins hP hO ho (s_X5_begins hP hO he ?_)
  refine s_letV (iI (max (A 1 o) (A 1 e)), M) (fun J hJ => ?_) ?_
  · simp (disch := omega) only [lm1_, lm2_, lm3_, lm9_, lm10_, lm999_, lm1000_, l0_, l1_, l2_, l3_, l4_, l5_, l6_, l7_, l8_, l9_, l10_, l11_, l12_, l13_, l23_, l24_, l30_, l31_, l33_, l35_, l41_, l42_, l45_, l48_, l57_, l58_, l59_, l60_, l64_, l96_, l99_, l100_, l101_, l126_, l168_, l808_, l909_, l999_, l1439_, iI_add, iI_sub, iI_mul, iI_neg, iI_rem, iI_lt, iI_le, iI_eq, vp_iI, cl_iI, Int.toNat_natCast]
    refine s_if (fun q => ?_) (fun q => ?_)
    · refine s_X5_begins hP hO he ?_
      rwa [show max (A 1 o) (A 1 e) = A 1 e by omega] at hJ
    · refine s_X5_begins hP hO ho ?_
      rwa [show max (A 1 o) (A 1 e) = A 1 o by omega] at hJ
  · dsimp only
    refine s_X5_ends hP hO ho (s_X5_ends hP hO he ?_)
    refine s_letV (iI (min (A 2 o) (A 2 e)), M) (fun J hJ => ?_) ?_
    · simp (disch := omega) only [lm1_, lm2_, lm3_, lm9_, lm10_, lm999_, lm1000_, l0_, l1_, l2_, l3_, l4_, l5_, l6_, l7_, l8_, l9_, l10_, l11_, l12_, l13_, l23_, l24_, l30_, l31_, l33_, l35_, l41_, l42_, l45_, l48_, l57_, l58_, l59_, l60_, l64_, l96_, l99_, l100_, l101_, l126_, l168_, l808_, l909_, l999_, l1439_, iI_add, iI_sub, iI_mul, iI_neg, iI_rem, iI_lt, iI_le, iI_eq, vp_iI, cl_iI, Int.toNat_natCast]
      refine s_if (fun q => ?_) (fun q => ?_)
      · refine s_X5_ends hP hO he ?_
        rwa [show min (A 2 o) (A 2 e) = A 2 e by omega] at hJ
      · refine s_X5_ends hP hO ho ?_
        rwa [show min (A 2 o) (A 2 e) = A 2 o by omega] at hJ
    · dsimp only
      simp only [lm1_, lm2_, lm3_, lm9_, lm10_, lm999_, lm1000_, l0_, l1_, l2_, l3_, l4_, l5_, l6_, l7_, l8_, l9_, l10_, l11_, l12_, l13_, l23_, l24_, l30_, l31_, l33_, l35_, l41_, l42_, l45_, l48_, l57_, l58_, l59_, l60_, l64_, l96_, l99_, l100_, l101_, l126_, l168_, l808_, l909_, l999_, l1439_, iI_add, iI_sub, iI_mul, iI_neg]
      refine s_wf hW hO (by omega) (by omega) ?_
      simp (disch := omega) only [lm1_, lm2_, lm3_, lm9_, lm10_, lm999_, lm1000_, l0_, l1_, l2_, l3_, l4_, l5_, l6_, l7_, l8_, l9_, l10_, l11_, l12_, l13_, l23_, l24_, l30_, l31_, l33_, l35_, l41_, l42_, l45_, l48_, l57_, l58_, l59_, l60_, l64_, l96_, l99_, l100_, l101_, l126_, l168_, l808_, l909_, l999_, l1439_, iI_add, iI_sub, iI_mul, iI_neg, iI_rem, iI_lt, iI_le, iI_eq, vp_iI, cl_iI, Int.toNat_natCast]
      refine s_if (fun q => h0 (by omega)) (fun q => s_wf hW hO (by omega) (by omega) ?_)
      simp (disch := omega) only [lm1_, lm2_, lm3_, lm9_, lm10_, lm999_, lm1000_, l0_, l1_, l2_, l3_, l4_, l5_, l6_, l7_, l8_, l9_, l10_, l11_, l12_, l13_, l23_, l24_, l30_, l31_, l33_, l35_, l41_, l42_, l45_, l48_, l57_, l58_, l59_, l60_, l64_, l96_, l99_, l100_, l101_, l126_, l168_, l808_, l909_, l999_, l1439_, iI_add, iI_sub, iI_mul, iI_neg, iI_rem, iI_lt, iI_le, iI_eq, vp_iI, cl_iI, Int.toNat_natCast]
      exact s_if (fun q2 => h0 (by omega)) (fun q2 => h1 (by omega))
theorem s_X5_isFree {Q : Int32 → Mm → Prop} (hP : Pm M 0 A) (hW : Wm M A) (hO : Ok A) (hM : Lmm M L) (hb : Lbd L) {w : Nat} (hw : (w : Int) < nW A) {e : Nat} (he : (e : Int) < A 0 4) {r : Int} (hr : i32 r) (h1 : ¬ fr A L w e r → Q (iI 1) M) (h0 : fr A L w e r → Q (iI 0) M) : w_X5_isFree M (iI e) (iI w) (iI r) Q := by
  have hn := nW_b hO
  have ob := hO.b
  have oe := hO.e he
  unfold w_X5_isFree
  refine loop_up (fun k x => ∃ b : Int, x = (iI b, iI k, M) ∧ ((b = 1 ∧ ¬ ∃ o, o < k ∧ fr1 A L w e r o) ∨ (b = 0 ∧ ∃ o, o < k ∧ fr1 A L w e r o))) (A 0 4).toNat ?_ ?_ (Nat.zero_le _) ⟨1, rfl, Or.inl ⟨rfl, fun ⟨o, q, _⟩ => absurd q (Nat.not_lt_zero _)⟩⟩
  · rintro R k x hk ⟨b, rfl, hI⟩ hR
    have hk1 : (k : Int) < A 0 4 := by omega
    have ok := hO.e hk1
    have hbk := hb k w
    unfold w_X5_isFree_L6
    dsimp only
    refine s_pg hP (j := 4) (by decide) rfl ?_
    simp (disch := omega) only [lm1_, lm2_, lm3_, lm9_, lm10_, lm999_, lm1000_, l0_, l1_, l2_, l3_, l4_, l5_, l6_, l7_, l8_, l9_, l10_, l11_, l12_, l13_, l23_, l24_, l30_, l31_, l33_, l35_, l41_, l42_, l45_, l48_, l57_, l58_, l59_, l60_, l64_, l96_, l99_, l100_, l101_, l126_, l168_, l808_, l909_, l999_, l1439_, iI_add, iI_sub, iI_mul, iI_neg, iI_rem, iI_lt, iI_le, iI_eq, vp_iI, cl_iI, Int.toNat_natCast]
    rw [if_neg (by omega)]
    -- how it goes on
    have hno : ¬ fr1 A L w e r k → b = 1 → R (iI 1, iI ((k : Int) + 1), M) := by
      intro hf hb1
      refine hR _ ⟨1, rfl, Or.inl ⟨rfl, fun ⟨o, q1, q2⟩ => ?_⟩⟩
      by_cases hok : o = k
      · rw [hok] at q2
        exact hf q2
      · rcases hI with hI | hI
        · exact hI.2 ⟨o, by omega, q2⟩
        · omega
    have hyes : fr1 A L w e r k → R (iI 0, iI ((k : Int) + 1), M) := fun hf => hR _ ⟨0, rfl, Or.inr ⟨rfl, k, by omega, hf⟩⟩
    by_cases ht : k ≠ e ∧ L k w = r
    · refine s_letV (iI 1) (fun J hJ => ?_) ?_
      · refine s_letJ (fun _ => False) (fun J2 _ => ?_) (fun x hx => hx.elim)
        rw [if_neg (show ¬ (k : Int) = e by omega)]
        refine s_lm hM (by omega) (by omega) ?_
        rw [ht.2, if_pos rfl]
        exact hJ
      · refine s_if (fun q => ?_) (fun q => ?_)
        · rcases hI with hI | hI
          · rw [hI.1] at q
            exact absurd q (by decide)
          · obtain ⟨o, q1, q2⟩ := hI.2
            exact hR _ ⟨0, rfl, Or.inr ⟨rfl, o, by omega, q2⟩⟩
        · have hb1 : b = 1 := by
            rcases hI with hI | hI
            · exact hI.1
            · rw [hI.1] at q
              exact absurd rfl q
          rw [if_neg (by decide)]
          refine s_X5_begins hP hO hk1 (s_X5_ends hP hO he ?_)
          simp (disch := omega) only [lm1_, lm2_, lm3_, lm9_, lm10_, lm999_, lm1000_, l0_, l1_, l2_, l3_, l4_, l5_, l6_, l7_, l8_, l9_, l10_, l11_, l12_, l13_, l23_, l24_, l30_, l31_, l33_, l35_, l41_, l42_, l45_, l48_, l57_, l58_, l59_, l60_, l64_, l96_, l99_, l100_, l101_, l126_, l168_, l808_, l909_, l999_, l1439_, iI_add, iI_sub, iI_mul, iI_neg, iI_rem, iI_lt, iI_le, iI_eq, vp_iI, cl_iI, Int.toNat_natCast]
          refine s_if (fun q2 => hno (fun z => by have := z.2.1; omega) hb1) (fun q2 => ?_)
          refine s_X5_begins hP hO he (s_X5_ends hP hO hk1 ?_)
          simp (disch := omega) only [lm1_, lm2_, lm3_, lm9_, lm10_, lm999_, lm1000_, l0_, l1_, l2_, l3_, l4_, l5_, l6_, l7_, l8_, l9_, l10_, l11_, l12_, l13_, l23_, l24_, l30_, l31_, l33_, l35_, l41_, l42_, l45_, l48_, l57_, l58_, l59_, l60_, l64_, l96_, l99_, l100_, l101_, l126_, l168_, l808_, l909_, l999_, l1439_, iI_add, iI_sub, iI_mul, iI_neg, iI_rem, iI_lt, iI_le, iI_eq, vp_iI, cl_iI, Int.toNat_natCast]
          refine s_if (fun q3 => hno (fun z => by have := z.2.2.1; omega) hb1) (fun q3 => ?_)
          exact s_X5_meetsIn hP hW hO hw hk1 he (fun hm => z1 (hyes ⟨ht, by omega, by omega, hm⟩)) (fun hm => z0 (hno (fun z => hm z.2.2.2) hb1))
    · refine s_letV (iI 0) (fun J hJ => ?_) ?_
      · refine s_letV () (fun J2 hJ2 => ?_) hJ
        refine s_if (fun _ => hJ2) (fun q => ?_)
        refine s_lm hM (by omega) (by omega) ?_
        rw [if_neg (fun z => ht ⟨fun z2 => q (by rw [z2]), (iI_eq (by omega) (by omega) (by omega) (by omega)).mp z⟩)]
        exact hJ2
      · refine s_if (fun q => ?_) (fun q => ?_)
        · rcases hI with hI | hI
          · rw [hI.1] at q
            exact absurd q (by decide)
          · obtain ⟨o, q1, q2⟩ := hI.2
            exact hR _ ⟨0, rfl, Or.inr ⟨rfl, o, by omega, q2⟩⟩
        · have hb1 : b = 1 := by
            rcases hI with hI | hI
            · exact hI.1
            · rw [hI.1] at q
              exact absurd rfl q
          rw [if_pos rfl]
          exact hno (fun z => ht z.1) hb1
  · rintro R x ⟨b, rfl, hI⟩
    unfold w_X5_isFree_L6
    dsimp only
    refine s_pg hP (j := 4) (by decide) rfl ?_
    simp (disch := omega) only [lm1_, lm2_, lm3_, lm9_, lm10_, lm999_, lm1000_, l0_, l1_, l2_, l3_, l4_, l5_, l6_, l7_, l8_, l9_, l10_, l11_, l12_, l13_, l23_, l24_, l30_, l31_, l33_, l35_, l41_, l42_, l45_, l48_, l57_, l58_, l59_, l60_, l64_, l96_, l99_, l100_, l101_, l126_, l168_, l808_, l909_, l999_, l1439_, iI_add, iI_sub, iI_mul, iI_neg, iI_rem, iI_lt, iI_le, iI_eq, vp_iI, cl_iI, Int.toNat_natCast]
    rw [if_pos (by omega)]
    rcases hI with hI | hI
    · rw [hI.1]
      exact ⟨bz1, h1 (fun ⟨o, q1, q2⟩ => hI.2 ⟨o, by omega, q2⟩)⟩
    · rw [hI.1]
      obtain ⟨o, q1, q2⟩ := hI.2
      exact ⟨bz0, h0 ⟨o, by omega, q2⟩⟩
end MB
