/-! the weeks of a page -/
def gW (A : Ab) : Int := (A 0 2 - A 0 0 - 1) % 7 + 1
/-- the week of a day -/
def wk (A : Ab) (d : Int) : Int := (d - A 0 0 - gW A + 7) / 7
def nW (A : Ab) : Int := wk A (A 0 1) + 1
/-- a week's first day; behind the last week the day behind the page -/
def wS (A : Ab) (w : Int) : Int := if w ≤ 0 then A 0 0 else if nW A ≤ w then A 0 1 + 1 else A 0 0 + gW A + 7 * (w - 1)
theorem gW_b (A : Ab) : 1 ≤ gW A ∧ gW A ≤ 7 := by
  unfold gW
  omega
theorem nW_b {A : Ab} (hO : Ok A) : 1 ≤ nW A ∧ nW A ≤ 7 := by
  have ob := hO.b
  have := gW_b A
  unfold nW wk
  omega
theorem wk_b {A : Ab} (hO : Ok A) {d : Int} (h1 : A 0 0 ≤ d) (h2 : d ≤ A 0 1) : 0 ≤ wk A d ∧ wk A d < nW A := by
  have := gW_b A
  unfold nW wk
  omega
theorem wk_first {A : Ab} : wk A (A 0 0) = 0 := by
  have := gW_b A
  unfold wk
  omega
theorem wk_step {A : Ab} (hO : Ok A) {d : Int} (h1 : A 0 0 ≤ d) : wk A (d + 1) = wk A d + (if (d + 1) % 7 = A 0 2 then 1 else 0) := by
  have ob := hO.b
  unfold wk gW
  split <;> omega
theorem wS_0 {A : Ab} : wS A 0 = A 0 0 := by simp [wS]
theorem wS_n {A : Ab} (hO : Ok A) : wS A (nW A) = A 0 1 + 1 := by
  have := nW_b hO
  unfold wS
  rw [if_neg (by omega), if_pos (by omega)]
theorem wS_new {A : Ab} (hO : Ok A) {d : Int} (h1 : A 0 0 < d) (h2 : d ≤ A 0 1) (h3 : d % 7 = A 0 2) : wS A (wk A d) = d := by
  have ob := hO.b
  have hb := wk_b hO (by omega) h2
  have hg := gW_b A
  unfold wS
  have h4 : 1 ≤ wk A d := by
    unfold wk gW
    omega
  rw [if_neg (by omega), if_neg (by omega)]
  unfold wk gW
  omega
theorem wS_le {A : Ab} (hO : Ok A) {w d : Int} (h1 : A 0 0 ≤ d) (h2 : d ≤ A 0 1) (h3 : 0 ≤ w) (h4 : w < nW A) : wS A w ≤ d ↔ w ≤ wk A d := by
  have hg := gW_b A
  unfold wS
  by_cases h : w ≤ 0
  · rw [if_pos h]
    have := wk_b hO h1 h2
    omega
  · rw [if_neg h, if_neg (by omega)]
    unfold wk
    omega
theorem wS_b {A : Ab} (hO : Ok A) {w : Int} (h3 : 0 ≤ w) (h4 : w ≤ nW A) : A 0 0 ≤ wS A w ∧ wS A w ≤ A 0 1 + 1 := by
  have hg := gW_b A
  have ob := hO.b
  unfold wS
  split
  · omega
  · split
    · omega
    · have : w < nW A := by omega
      unfold nW wk at this
      omega
theorem wS_lt {A : Ab} (hO : Ok A) {w : Int} (h3 : 0 ≤ w) (h4 : w < nW A) : wS A w < wS A (w + 1) := by
  have hg := gW_b A
  have ob := hO.b
  unfold wS
  rw [if_neg (show ¬ w + 1 ≤ 0 by omega)]
  split
  · split
    · omega
    · omega
  · rw [if_neg (by omega)]
    split
    · unfold nW wk at h4
      omega
    · omega
/-- the last day of week w -/
def wL (A : Ab) (w : Int) : Int := wS A (w + 1) - 1
theorem wk_in {A : Ab} (hO : Ok A) {w d : Int} (h1 : A 0 0 ≤ d) (h2 : d ≤ A 0 1) (h3 : 0 ≤ w) (h4 : w < nW A) : wk A d = w ↔ wS A w ≤ d ∧ d ≤ wL A w := by
  have hb := wk_b hO h1 h2
  unfold wL
  by_cases h : w + 1 < nW A
  · have e1 := wS_le hO h1 h2 h3 h4
    have e2 := wS_le (w := w + 1) hO h1 h2 (by omega) h
    omega
  · have e1 := wS_le hO h1 h2 h3 h4
    have e2 : w + 1 = nW A := by omega
    rw [e2, wS_n hO]
    omega
/-- the weeks of page p are laid -/
def Wk (M : Mm) (p : Nat) (A : Ab) : Prop := M 5 p 1 = iI (nW A) ∧ ∀ w : Nat, (w : Int) ≤ nW A → M 6 p w = iI (wS A w)
theorem Wk.sx {P : Nat → Nat → Prop} {M M' : Mm} {p : Nat} {A : Ab} (h : Wk M p A) (hs : sx P M M') (h5 : M' 5 p 1 = M 5 p 1) (h6 : ¬ P 6 p) : Wk M' p A := ⟨by rw [h5]; exact h.1, fun w hw => by rw [hs 6 p h6]; exact h.2 w hw⟩
section WKS
variable {M : Mm} {p : Nat} {A : Ab} {Q : Int32 → Mm → Prop}
theorem s_X0_firstOfWeek (hW : Wk M p A) (hO : Ok A) {w : Int} (h1 : 0 ≤ w) (h2 : w ≤ nW A) (h : Q (iI (wS A w)) M) : w_X0_firstOfWeek p M (iI w) Q := by
  have := nW_b hO
  unfold w_X0_firstOfWeek
  refine s_ldA h1 (by omega) (by decide) ?_
  rw [hW.2 w.toNat (by omega), Int.toNat_of_nonneg h1]
  exact h
theorem s_X0_lastOfWeek (hW : Wk M p A) (hO : Ok A) {w : Int} (h1 : 0 ≤ w) (h2 : w < nW A) (h : Q (iI (wL A w)) M) : w_X0_lastOfWeek p M (iI w) Q := by
  have := nW_b hO
  unfold w_X0_lastOfWeek
  simp (disch := omega) only [lm1_, lm2_, lm3_, lm9_, lm10_, lm999_, lm1000_, l0_, l1_, l2_, l3_, l4_, l5_, l6_, l7_, l8_, l9_, l10_, l11_, l12_, l13_, l23_, l24_, l30_, l31_, l33_, l35_, l41_, l42_, l45_, l48_, l57_, l58_, l59_, l60_, l64_, l96_, l99_, l100_, l101_, l126_, l168_, l808_, l909_, l900_, l20_, l1440_, l2003_, l15486209_, l2147483647_, l999_, l1439_, iI_add, iI_sub, iI_mul, iI_neg, iI_rem, iI_lt, iI_le, iI_eq, vp_iI, cl_iI, Int.toNat_natCast]
  refine s_ldA (by omega) (by omega) (by decide) ?_
  rw [hW.2 (w + 1).toNat (by omega), Int.toNat_of_nonneg (by omega)]
  simp (disch := omega) only [lm1_, lm2_, lm3_, lm9_, lm10_, lm999_, lm1000_, l0_, l1_, l2_, l3_, l4_, l5_, l6_, l7_, l8_, l9_, l10_, l11_, l12_, l13_, l23_, l24_, l30_, l31_, l33_, l35_, l41_, l42_, l45_, l48_, l57_, l58_, l59_, l60_, l64_, l96_, l99_, l100_, l101_, l126_, l168_, l808_, l909_, l900_, l20_, l1440_, l2003_, l15486209_, l2147483647_, l999_, l1439_, iI_add, iI_sub, iI_mul, iI_neg, iI_rem, iI_lt, iI_le, iI_eq, vp_iI, cl_iI, Int.toNat_natCast]
  exact h
theorem s_X0_weekOfDay (hW : Wk M p A) (hO : Ok A) {d : Int} (h1 : A 0 0 ≤ d) (h2 : d ≤ A 0 1) (h : Q (iI (wk A d)) M) : w_X0_weekOfDay p M (iI d) Q := by
  have hn := nW_b hO
  have ob := hO.b
  have hb := wk_b hO h1 h2
  unfold w_X0_weekOfDay
  refine loop_up (fun k x => x = (iI k, M)) (wk A d).toNat ?_ ?_ (Nat.zero_le _) rfl
  · rintro R k x hk rfl hR
    unfold w_X0_weekOfDay_L2
    dsimp only
    have e1 := (wS_le hO h1 h2 (w := (k : Int) + 1) (by omega) (by omega)).mpr (by omega)
    have e2 := wS_b hO (w := (k : Int) + 1) (by omega) (by omega)
    rw [hW.1]
    simp (disch := omega) only [lm1_, lm2_, lm3_, lm9_, lm10_, lm999_, lm1000_, l0_, l1_, l2_, l3_, l4_, l5_, l6_, l7_, l8_, l9_, l10_, l11_, l12_, l13_, l23_, l24_, l30_, l31_, l33_, l35_, l41_, l42_, l45_, l48_, l57_, l58_, l59_, l60_, l64_, l96_, l99_, l100_, l101_, l126_, l168_, l808_, l909_, l900_, l20_, l1440_, l2003_, l15486209_, l2147483647_, l999_, l1439_, iI_add, iI_sub, iI_mul, iI_neg, iI_rem, iI_lt, iI_le, iI_eq, vp_iI, cl_iI, Int.toNat_natCast]
    rw [if_neg (by omega)]
    refine s_ldA (by omega) (by omega) (by decide) ?_
    rw [hW.2 _ (by omega), Int.toNat_of_nonneg (by omega)]
    simp (disch := omega) only [lm1_, lm2_, lm3_, lm9_, lm10_, lm999_, lm1000_, l0_, l1_, l2_, l3_, l4_, l5_, l6_, l7_, l8_, l9_, l10_, l11_, l12_, l13_, l23_, l24_, l30_, l31_, l33_, l35_, l41_, l42_, l45_, l48_, l57_, l58_, l59_, l60_, l64_, l96_, l99_, l100_, l101_, l126_, l168_, l808_, l909_, l900_, l20_, l1440_, l2003_, l15486209_, l2147483647_, l999_, l1439_, iI_add, iI_sub, iI_mul, iI_neg, iI_rem, iI_lt, iI_le, iI_eq, vp_iI, cl_iI, Int.toNat_natCast]
    rw [if_neg (by omega)]
    exact hR _ rfl
  · rintro R x rfl
    unfold w_X0_weekOfDay_L2
    dsimp only
    rw [hW.1]
    simp (disch := omega) only [lm1_, lm2_, lm3_, lm9_, lm10_, lm999_, lm1000_, l0_, l1_, l2_, l3_, l4_, l5_, l6_, l7_, l8_, l9_, l10_, l11_, l12_, l13_, l23_, l24_, l30_, l31_, l33_, l35_, l41_, l42_, l45_, l48_, l57_, l58_, l59_, l60_, l64_, l96_, l99_, l100_, l101_, l126_, l168_, l808_, l909_, l900_, l20_, l1440_, l2003_, l15486209_, l2147483647_, l999_, l1439_, iI_add, iI_sub, iI_mul, iI_neg, iI_rem, iI_lt, iI_le, iI_eq, vp_iI, cl_iI, Int.toNat_natCast]
    have e3 : ((wk A d).toNat : Int) = wk A d := Int.toNat_of_nonneg (by omega)
    rw [e3]
    refine s_if (fun _ => h) (fun q => ?_)
    have e1 := wS_le hO h1 h2 (w := wk A d + 1) (by omega) (by omega)
    have e2 := wS_b hO (w := wk A d + 1) (by omega) (by omega)
    refine s_ldA (by omega) (by omega) (by decide) ?_
    rw [hW.2 _ (by omega), Int.toNat_of_nonneg (by omega)]
    simp (disch := omega) only [lm1_, lm2_, lm3_, lm9_, lm10_, lm999_, lm1000_, l0_, l1_, l2_, l3_, l4_, l5_, l6_, l7_, l8_, l9_, l10_, l11_, l12_, l13_, l23_, l24_, l30_, l31_, l33_, l35_, l41_, l42_, l45_, l48_, l57_, l58_, l59_, l60_, l64_, l96_, l99_, l100_, l101_, l126_, l168_, l808_, l909_, l900_, l20_, l1440_, l2003_, l15486209_, l2147483647_, l999_, l1439_, iI_add, iI_sub, iI_mul, iI_neg, iI_rem, iI_lt, iI_le, iI_eq, vp_iI, cl_iI, Int.toNat_natCast]
    rw [if_pos (by omega)]
    exact h
/-- the cells of a page's weeks -/
def wkc (p : Nat) : Nat → Nat → Prop := fun c i => (c = 5 ∨ c = 6) ∧ i = p
theorem s_X0_cutWeeks {Q : Mm → Prop} (hP : Pl M p A) (hO : Ok A) (h : ∀ M', Wk M' p A → sx (wkc p) M M' → (∀ j, j ≠ 1 → M' 5 p j = M 5 p j) → Q M') : w_X0_cutWeeks p M Q := by
  have hn := nW_b hO
  have ob := hO.b
  unfold w_X0_cutWeeks
  refine s_stF ?_
  have r0 : st M 5 p 1 0 11 p 0 = iI (A 0 0) := by rw [st_ne _ _ (by simp)]; exact hP.1 0 (by decide)
  rw [r0]
  obtain ⟨n, hn2⟩ : ∃ n : Nat, A 0 1 - A 0 0 + 1 = n := ⟨(A 0 1 - A 0 0 + 1).toNat, by omega⟩
  have hex : ∀ (k : Nat) (M' : Mm) (c : Nat), sx (wkc p) M M' → (∀ j, j ≠ 1 → M' 5 p j = M 5 p j) → M' 5 p 1 = iI c → (c : Int) = nW A → (∀ w : Nat, w < c → M' 6 p w = iI (wS A w)) → stA M' 6 p 8 (iI c) (iI (A 0 1 + 1)) Q := by
    intro k M' c g1 g2 g3 g4 g5
    refine s_stN (by omega) (by decide) (h _ ⟨?_, fun w hw => ?_⟩ (sx_st g1 ⟨Or.inr rfl, rfl⟩) (fun j hj => ?_))
    · rw [st_ne _ _ (by simp), g3, g4]
    · by_cases hwc : w = c
      · rw [hwc, st_s, g4, wS_n hO]
      · rw [st_d hwc]
        exact g5 w (by omega)
    · rw [st_ne _ _ (by simp)]
      exact g2 j hj
  refine loop_up (fun k x => ∃ (M' : Mm) (c : Nat), x = (iI (A 0 0 + k), M') ∧ sx (wkc p) M M' ∧ (∀ j, j ≠ 1 → M' 5 p j = M 5 p j) ∧ M' 5 p 1 = iI c ∧ (c : Int) = (if k = 0 then 0 else wk A (A 0 0 + k - 1) + 1) ∧ ∀ w : Nat, w < c → M' 6 p w = iI (wS A w)) n ?_ ?_ (Nat.zero_le _) ⟨st M 5 p 1 0, 0, by rw [show A 0 0 + ((0 : Nat) : Int) = A 0 0 by omega], sx_st sx_rf ⟨Or.inl rfl, rfl⟩, fun j hj => by rw [st_d hj], st_s, by simp, fun w hw => absurd hw (Nat.not_lt_zero _)⟩
  · rintro R k x hk ⟨M', c, rfl, g1, g2, g3, g4, g5⟩ hR
    unfold w_X0_cutWeeks_L13
    dsimp only
    have p0 : M' 11 p 0 = iI (A 0 0) := by rw [g1 11 p (by unfold wkc; omega)]; exact hP.1 0 (by decide)
    have p1 : M' 11 p 1 = iI (A 0 1) := by rw [g1 11 p (by unfold wkc; omega)]; exact hP.1 1 (by decide)
    have p2 : M' 11 p 2 = iI (A 0 2) := by rw [g1 11 p (by unfold wkc; omega)]; exact hP.1 2 (by decide)
    have hc7 : (c : Int) ≤ 7 := by
      by_cases hk0 : k = 0
      · rw [g4, if_pos hk0]; omega
      · rw [g4, if_neg hk0]
        have := wk_b hO (d := A 0 0 + k - 1) (by omega) (by omega)
        omega
    rw [p1, g3]
    simp (disch := omega) only [lm1_, lm2_, lm3_, lm9_, lm10_, lm999_, lm1000_, l0_, l1_, l2_, l3_, l4_, l5_, l6_, l7_, l8_, l9_, l10_, l11_, l12_, l13_, l23_, l24_, l30_, l31_, l33_, l35_, l41_, l42_, l45_, l48_, l57_, l58_, l59_, l60_, l64_, l96_, l99_, l100_, l101_, l126_, l168_, l808_, l909_, l900_, l20_, l1440_, l2003_, l15486209_, l2147483647_, l999_, l1439_, iI_add, iI_sub, iI_mul, iI_neg, iI_rem, iI_lt, iI_le, iI_eq, vp_iI, cl_iI, Int.toNat_natCast]
    rw [if_neg (by omega)]
    refine s_if (fun q => ?_) (fun q => ?_)
    · refine hex k M' c g1 g2 g3 ?_ g5
      have hk0 : k ≠ 0 := fun z => by rw [if_pos z] at g4; omega
      rw [if_neg hk0] at g4
      have := wk_b hO (d := A 0 0 + k - 1) (by omega) (by omega)
      omega
    · rw [p0, p2]
      simp (disch := omega) only [lm1_, lm2_, lm3_, lm9_, lm10_, lm999_, lm1000_, l0_, l1_, l2_, l3_, l4_, l5_, l6_, l7_, l8_, l9_, l10_, l11_, l12_, l13_, l23_, l24_, l30_, l31_, l33_, l35_, l41_, l42_, l45_, l48_, l57_, l58_, l59_, l60_, l64_, l96_, l99_, l100_, l101_, l126_, l168_, l808_, l909_, l900_, l20_, l1440_, l2003_, l15486209_, l2147483647_, l999_, l1439_, iI_add, iI_sub, iI_mul, iI_neg, iI_rem, iI_lt, iI_le, iI_eq, vp_iI, cl_iI, Int.toNat_natCast]
      have hnew : (A 0 0 + k = A 0 0 ∨ (A 0 0 + k) % 7 = A 0 2) → stA M' 6 p 8 (iI c) (iI (A 0 0 + k)) (fun M8 => stF M8 5 p 1 (M8 5 p 1 + iI 1) fun M9 => bI (iI (A 0 0 + k + 1)) fun v10 => R (v10, M9)) := by
        intro hd
        refine s_stN (by omega) (by decide) ?_
        have e5 : st M' 6 p c (iI (A 0 0 + k)) 5 p 1 = iI c := by rw [st_ne _ _ (by simp)]; exact g3
        rw [e5]
        simp only [lm1_, lm2_, lm3_, lm9_, lm10_, lm999_, lm1000_, l0_, l1_, l2_, l3_, l4_, l5_, l6_, l7_, l8_, l9_, l10_, l11_, l12_, l13_, l23_, l24_, l30_, l31_, l33_, l35_, l41_, l42_, l45_, l48_, l57_, l58_, l59_, l60_, l64_, l96_, l99_, l100_, l101_, l126_, l168_, l808_, l909_, l900_, l20_, l1440_, l2003_, l15486209_, l2147483647_, l999_, l1439_, iI_add, iI_sub, iI_mul, iI_neg]
        have ec : ((c + 1 : Nat) : Int) = wk A (A 0 0 + k) + 1 ∧ wS A c = A 0 0 + k := by
          by_cases hk0 : k = 0
          · rw [if_pos hk0] at g4
            subst hk0
            rw [show A 0 0 + ((0 : Nat) : Int) = A 0 0 by omega, wk_first, g4, wS_0]
            exact ⟨by omega, rfl⟩
          · rw [if_neg hk0] at g4
            have e6 := wk_step hO (d := A 0 0 + k - 1) (by omega)
            rw [show A 0 0 + (k : Int) - 1 + 1 = A 0 0 + k by omega, if_pos (hd.resolve_left (by omega))] at e6
            have e7 := wS_new hO (d := A 0 0 + k) (by omega) (by omega) (hd.resolve_left (by omega))
            rw [e6] at e7
            refine ⟨by omega, ?_⟩
            rw [g4]
            exact e7
        refine hR _ ⟨_, c + 1, by rw [show A 0 0 + (k : Int) + 1 = A 0 0 + ((k + 1 : Nat) : Int) by omega], sx_st (sx_st g1 ⟨Or.inr rfl, rfl⟩) ⟨Or.inl rfl, rfl⟩, fun j hj => ?_, ?_, ?_, fun w hw => ?_⟩
        · rw [st_d hj, st_ne _ _ (by simp)]
          exact g2 j hj
        · rw [st_s]
          rfl
        · rw [if_neg (by omega), show A 0 0 + ((k + 1 : Nat) : Int) - 1 = A 0 0 + k by omega]
          exact ec.1
        · rw [st_ne _ _ (by simp)]
          by_cases hwc : w = c
          · rw [hwc, st_s, ec.2]
          · rw [st_d hwc]
            exact g5 w (by omega)
      show letJ _ _
      unfold letJ
      refine s_if (fun q2 => hnew (Or.inl q2)) (fun q2 => s_if (fun q3 => hnew (Or.inr q3)) (fun q3 => ?_))
      refine hR _ ⟨M', c, by rw [show A 0 0 + (k : Int) + 1 = A 0 0 + ((k + 1 : Nat) : Int) by omega], g1, g2, g3, ?_, g5⟩
      have hk0 : k ≠ 0 := by omega
      rw [if_neg hk0] at g4
      rw [if_neg (by omega), show A 0 0 + ((k + 1 : Nat) : Int) - 1 = A 0 0 + k by omega]
      have e6 := wk_step hO (d := A 0 0 + k - 1) (by omega)
      rw [show A 0 0 + (k : Int) - 1 + 1 = A 0 0 + k by omega, if_neg q3] at e6
      omega
  · rintro R x ⟨M', c, rfl, g1, g2, g3, g4, g5⟩
    unfold w_X0_cutWeeks_L13
    dsimp only
    have p1 : M' 11 p 1 = iI (A 0 1) := by rw [g1 11 p (by unfold wkc; omega)]; exact hP.1 1 (by decide)
    rw [p1]
    simp (disch := omega) only [lm1_, lm2_, lm3_, lm9_, lm10_, lm999_, lm1000_, l0_, l1_, l2_, l3_, l4_, l5_, l6_, l7_, l8_, l9_, l10_, l11_, l12_, l13_, l23_, l24_, l30_, l31_, l33_, l35_, l41_, l42_, l45_, l48_, l57_, l58_, l59_, l60_, l64_, l96_, l99_, l100_, l101_, l126_, l168_, l808_, l909_, l900_, l20_, l1440_, l2003_, l15486209_, l2147483647_, l999_, l1439_, iI_add, iI_sub, iI_mul, iI_neg, iI_rem, iI_lt, iI_le, iI_eq, vp_iI, cl_iI, Int.toNat_natCast]
    rw [if_pos (by omega), g3]
    refine hex n M' c g1 g2 g3 ?_ g5
    rw [if_neg (by omega), show A 0 0 + (n : Int) - 1 = A 0 1 by omega] at g4
    rw [g4]
    rfl
end WKS
