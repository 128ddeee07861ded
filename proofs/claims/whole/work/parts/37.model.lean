/-! the reference -/
/-- its weeks are laid -/
def Wm (M : Mm) (A : Ab) : Prop := ∀ w : Nat, (w : Int) ≤ nW A → M 22 0 w = iI (wS A w)
section MOD
variable {M : Mm} {A : Ab} {Q : Int32 → Mm → Prop}
theorem s_X5_in {a b c : Int} (ha : i32 a) (hb : i32 b) (hc : i32 c) (h1 : b ≤ a ∧ a ≤ c → Q (iI 1) M) (h0 : ¬ (b ≤ a ∧ a ≤ c) → Q (iI 0) M) : w_X5_in M (iI a) (iI b) (iI c) Q := by
  unfold w_X5_in
  simp (disch := omega) only [lm1_, lm2_, lm3_, lm9_, lm10_, lm999_, lm1000_, l0_, l1_, l2_, l3_, l4_, l5_, l6_, l7_, l8_, l9_, l10_, l11_, l12_, l13_, l23_, l24_, l30_, l31_, l33_, l35_, l41_, l42_, l45_, l48_, l57_, l58_, l59_, l60_, l64_, l96_, l99_, l100_, l101_, l126_, l168_, l808_, l909_, l999_, l1439_, iI_add, iI_sub, iI_mul, iI_neg, iI_rem, iI_lt, iI_le, iI_eq, vp_iI, cl_iI, Int.toNat_natCast]
  exact s_if (fun q => h0 (by omega)) (fun q => s_if (fun q2 => h0 (by omega)) (fun q2 => h1 (by omega)))
theorem s_X5_begins (hP : Pm M 0 A) (hO : Ok A) {e : Nat} (he : (e : Int) < A 0 4) (h : Q (iI (A 1 e)) M) : w_X5_begins M (iI e) Q := by
  have ob := hO.b
  unfold w_X5_begins
  simp only [lm1_, lm2_, lm3_, lm9_, lm10_, lm999_, lm1000_, l0_, l1_, l2_, l3_, l4_, l5_, l6_, l7_, l8_, l9_, l10_, l11_, l12_, l13_, l23_, l24_, l30_, l31_, l33_, l35_, l41_, l42_, l45_, l48_, l57_, l58_, l59_, l60_, l64_, l96_, l99_, l100_, l101_, l126_, l168_, l808_, l909_, l999_, l1439_, iI_add, iI_sub, iI_mul, iI_neg]
  refine s_ldA (by omega) (by omega) (by decide) ?_
  rw [show (5 + 4 * (e : Int)).toNat = 5 + 4 * e by omega, (hP.y he).1]
  exact h
theorem s_X5_ends (hP : Pm M 0 A) (hO : Ok A) {e : Nat} (he : (e : Int) < A 0 4) (h : Q (iI (A 2 e)) M) : w_X5_ends M (iI e) Q := by
  have ob := hO.b
  unfold w_X5_ends
  simp only [lm1_, lm2_, lm3_, lm9_, lm10_, lm999_, lm1000_, l0_, l1_, l2_, l3_, l4_, l5_, l6_, l7_, l8_, l9_, l10_, l11_, l12_, l13_, l23_, l24_, l30_, l31_, l33_, l35_, l41_, l42_, l45_, l48_, l57_, l58_, l59_, l60_, l64_, l96_, l99_, l100_, l101_, l126_, l168_, l808_, l909_, l999_, l1439_, iI_add, iI_sub, iI_mul, iI_neg]
  refine s_ldA (by omega) (by omega) (by decide) ?_
  rw [show (5 + 4 * (e : Int) + 1).toNat = 5 + 4 * e + 1 by omega, (hP.y he).2.1]
  exact h
theorem s_X5_timeOf (hP : Pm M 0 A) (hO : Ok A) {e : Nat} (he : (e : Int) < A 0 4) (h : Q (iI (A 3 e)) M) : w_X5_timeOf M (iI e) Q := by
  have ob := hO.b
  unfold w_X5_timeOf
  simp only [lm1_, lm2_, lm3_, lm9_, lm10_, lm999_, lm1000_, l0_, l1_, l2_, l3_, l4_, l5_, l6_, l7_, l8_, l9_, l10_, l11_, l12_, l13_, l23_, l24_, l30_, l31_, l33_, l35_, l41_, l42_, l45_, l48_, l57_, l58_, l59_, l60_, l64_, l96_, l99_, l100_, l101_, l126_, l168_, l808_, l909_, l999_, l1439_, iI_add, iI_sub, iI_mul, iI_neg]
  refine s_ldA (by omega) (by omega) (by decide) ?_
  rw [show (5 + 4 * (e : Int) + 2).toNat = 5 + 4 * e + 2 by omega, (hP.y he).2.2.1]
  exact h
theorem s_X5_rankOf (hP : Pm M 0 A) (hO : Ok A) {e : Nat} (he : (e : Int) < A 0 4) (h : Q (iI (A 4 e)) M) : w_X5_rankOf M (iI e) Q := by
  have ob := hO.b
  unfold w_X5_rankOf
  simp only [lm1_, lm2_, lm3_, lm9_, lm10_, lm999_, lm1000_, l0_, l1_, l2_, l3_, l4_, l5_, l6_, l7_, l8_, l9_, l10_, l11_, l12_, l13_, l23_, l24_, l30_, l31_, l33_, l35_, l41_, l42_, l45_, l48_, l57_, l58_, l59_, l60_, l64_, l96_, l99_, l100_, l101_, l126_, l168_, l808_, l909_, l999_, l1439_, iI_add, iI_sub, iI_mul, iI_neg]
  refine s_ldA (by omega) (by omega) (by decide) ?_
  rw [show (5 + 4 * (e : Int) + 3).toNat = 5 + 4 * e + 3 by omega, (hP.y he).2.2.2]
  exact h
/-- a number of the page -/
theorem s_pg (hP : Pm M 0 A) {j : Nat} (hj : j < 5) {x : Int32} (hx : x = iI j) {K : Int32 → Prop} (h : K (iI (A 0 j))) : ldA (M 18 0) 909 x K := by
  rw [hx]
  refine s_ldN (by omega) (by decide) ?_
  rw [hP.z hj]
  exact h
theorem s_X5_isEntry (hP : Pm M 0 A) (hO : Ok A) {a : Int} (ha : i32 a) (h1 : 0 ≤ a ∧ a < A 0 4 → Q (iI 1) M) (h0 : ¬ (0 ≤ a ∧ a < A 0 4) → Q (iI 0) M) : w_X5_isEntry M (iI a) Q := by
  have ob := hO.b
  unfold w_X5_isEntry
  refine s_pg hP (j := 4) (by decide) rfl ?_
  simp only [lm1_, lm2_, lm3_, lm9_, lm10_, lm999_, lm1000_, l0_, l1_, l2_, l3_, l4_, l5_, l6_, l7_, l8_, l9_, l10_, l11_, l12_, l13_, l23_, l24_, l30_, l31_, l33_, l35_, l41_, l42_, l45_, l48_, l57_, l58_, l59_, l60_, l64_, l96_, l99_, l100_, l101_, l126_, l168_, l808_, l909_, l999_, l1439_, iI_add, iI_sub, iI_mul, iI_neg]
  exact s_X5_in ha (by omega) (by omega) (fun q => h1 (by omega)) (fun q => h0 (by omega))
theorem s_X5_isDay {a : Int} (ha : i32 a) (h1 : 0 ≤ a ∧ a ≤ 999 → Q (iI 1) M) (h0 : ¬ (0 ≤ a ∧ a ≤ 999) → Q (iI 0) M) : w_X5_isDay M (iI a) Q := by
  unfold w_X5_isDay
  simp only [lm1_, lm2_, lm3_, lm9_, lm10_, lm999_, lm1000_, l0_, l1_, l2_, l3_, l4_, l5_, l6_, l7_, l8_, l9_, l10_, l11_, l12_, l13_, l23_, l24_, l30_, l31_, l33_, l35_, l41_, l42_, l45_, l48_, l57_, l58_, l59_, l60_, l64_, l96_, l99_, l100_, l101_, l126_, l168_, l808_, l909_, l999_, l1439_, iI_add, iI_sub, iI_mul, iI_neg]
  exact s_X5_in ha (by omega) (by omega) h1 h0
theorem s_X5_isOnPage (hP : Pm M 0 A) (hO : Ok A) {a : Int} (ha : i32 a) (h1 : A 0 0 ≤ a ∧ a ≤ A 0 1 → Q (iI 1) M) (h0 : ¬ (A 0 0 ≤ a ∧ a ≤ A 0 1) → Q (iI 0) M) : w_X5_isOnPage M (iI a) Q := by
  have ob := hO.b
  unfold w_X5_isOnPage
  refine s_pg hP (j := 0) (by decide) rfl (s_pg hP (j := 1) (by decide) rfl ?_)
  exact s_X5_in ha (by omega) (by omega) h1 h0
theorem s_X5_isLong (hP : Pm M 0 A) (hO : Ok A) {e : Nat} (he : (e : Int) < A 0 4) (h1 : lng A e → Q (iI 1) M) (h0 : ¬ lng A e → Q (iI 0) M) : w_X5_isLong M (iI e) Q := by
  have o := hO.e he
  unfold w_X5_isLong
  refine s_X5_ends hP hO he (s_X5_begins hP hO he ?_)
  simp (disch := omega) only [lm1_, lm2_, lm3_, lm9_, lm10_, lm999_, lm1000_, l0_, l1_, l2_, l3_, l4_, l5_, l6_, l7_, l8_, l9_, l10_, l11_, l12_, l13_, l23_, l24_, l30_, l31_, l33_, l35_, l41_, l42_, l45_, l48_, l57_, l58_, l59_, l60_, l64_, l96_, l99_, l100_, l101_, l126_, l168_, l808_, l909_, l999_, l1439_, iI_add, iI_sub, iI_mul, iI_neg, iI_rem, iI_lt, iI_le, iI_eq, vp_iI, cl_iI, Int.toNat_natCast]
  refine s_if (fun q => h1 (Or.inl q)) (fun q => s_X5_timeOf hP hO he ?_)
  simp (disch := omega) only [lm1_, lm2_, lm3_, lm9_, lm10_, lm999_, lm1000_, l0_, l1_, l2_, l3_, l4_, l5_, l6_, l7_, l8_, l9_, l10_, l11_, l12_, l13_, l23_, l24_, l30_, l31_, l33_, l35_, l41_, l42_, l45_, l48_, l57_, l58_, l59_, l60_, l64_, l96_, l99_, l100_, l101_, l126_, l168_, l808_, l909_, l999_, l1439_, iI_add, iI_sub, iI_mul, iI_neg, iI_rem, iI_lt, iI_le, iI_eq, vp_iI, cl_iI, Int.toNat_natCast]
  exact s_if (fun q2 => h1 (Or.inr q2)) (fun q2 => h0 (fun z => z.elim q q2))
theorem s_X5_isOn (hP : Pm M 0 A) (hO : Ok A) {e : Nat} (he : (e : Int) < A 0 4) {a : Int} (ha : i32 a) (h1 : A 1 e ≤ a ∧ a ≤ A 2 e → Q (iI 1) M) (h0 : ¬ (A 1 e ≤ a ∧ a ≤ A 2 e) → Q (iI 0) M) : w_X5_isOn M (iI e) (iI a) Q := by
  have o := hO.e he
  unfold w_X5_isOn
  refine s_X5_begins hP hO he (s_X5_ends hP hO he ?_)
  exact s_X5_in ha (by omega) (by omega) h1 h0
theorem s_X5_weekOf (hP : Pm M 0 A) (hO : Ok A) {d : Int} (h1 : A 0 0 ≤ d) (h2 : d ≤ 2000) (h : Q (iI (wk A d)) M) : w_X5_weekOf M (iI d) Q := by
  have ob := hO.b
  unfold w_X5_weekOf
  refine s_pg hP (j := 0) (by decide) rfl ?_
  simp only [lm1_, lm2_, lm3_, lm9_, lm10_, lm999_, lm1000_, l0_, l1_, l2_, l3_, l4_, l5_, l6_, l7_, l8_, l9_, l10_, l11_, l12_, l13_, l23_, l24_, l30_, l31_, l33_, l35_, l41_, l42_, l45_, l48_, l57_, l58_, l59_, l60_, l64_, l96_, l99_, l100_, l101_, l126_, l168_, l808_, l909_, l999_, l1439_, iI_add, iI_sub, iI_mul, iI_neg]
  refine s_bI ?_
  obtain ⟨n, hn⟩ : ∃ n : Nat, d - A 0 0 = n := ⟨(d - A 0 0).toNat, by omega⟩
  refine loop_up (fun k x => x = (iI (wk A (A 0 0 + k)), iI (A 0 0 + k + 1), M)) n ?_ ?_ (Nat.zero_le _) (by rw [show A 0 0 + ((0 : Nat) : Int) = A 0 0 by omega, wk_first])
  · rintro R k x hk rfl hR
    unfold w_X5_weekOf_L11
    dsimp only
    simp (disch := omega) only [lm1_, lm2_, lm3_, lm9_, lm10_, lm999_, lm1000_, l0_, l1_, l2_, l3_, l4_, l5_, l6_, l7_, l8_, l9_, l10_, l11_, l12_, l13_, l23_, l24_, l30_, l31_, l33_, l35_, l41_, l42_, l45_, l48_, l57_, l58_, l59_, l60_, l64_, l96_, l99_, l100_, l101_, l126_, l168_, l808_, l909_, l999_, l1439_, iI_add, iI_sub, iI_mul, iI_neg, iI_rem, iI_lt, iI_le, iI_eq, vp_iI, cl_iI, Int.toNat_natCast]
    rw [if_neg (by omega)]
    refine s_pg hP (j := 2) (by decide) rfl ?_
    have hs := wk_step hO (d := A 0 0 + k) (by omega)
    have e1 : A 0 0 + ((k + 1 : Nat) : Int) = A 0 0 + k + 1 := by omega
    simp (disch := omega) only [lm1_, lm2_, lm3_, lm9_, lm10_, lm999_, lm1000_, l0_, l1_, l2_, l3_, l4_, l5_, l6_, l7_, l8_, l9_, l10_, l11_, l12_, l13_, l23_, l24_, l30_, l31_, l33_, l35_, l41_, l42_, l45_, l48_, l57_, l58_, l59_, l60_, l64_, l96_, l99_, l100_, l101_, l126_, l168_, l808_, l909_, l999_, l1439_, iI_add, iI_sub, iI_mul, iI_neg, iI_rem, iI_lt, iI_le, iI_eq, vp_iI, cl_iI, Int.toNat_natCast]
    refine s_if (fun q => ?_) (fun q => ?_)
    · rw [if_pos q] at hs
      refine s_bI (s_bI (hR _ ?_))
      rw [e1, hs]
    · rw [if_neg q] at hs
      refine s_bI (s_bI (hR _ ?_))
      rw [e1, hs]
  · rintro R x rfl
    unfold w_X5_weekOf_L11
    dsimp only
    simp (disch := omega) only [lm1_, lm2_, lm3_, lm9_, lm10_, lm999_, lm1000_, l0_, l1_, l2_, l3_, l4_, l5_, l6_, l7_, l8_, l9_, l10_, l11_, l12_, l13_, l23_, l24_, l30_, l31_, l33_, l35_, l41_, l42_, l45_, l48_, l57_, l58_, l59_, l60_, l64_, l96_, l99_, l100_, l101_, l126_, l168_, l808_, l909_, l999_, l1439_, iI_add, iI_sub, iI_mul, iI_neg, iI_rem, iI_lt, iI_le, iI_eq, vp_iI, cl_iI, Int.toNat_natCast]
    rw [if_pos (by omega), show A 0 0 + (n : Int) = d by omega]
    exact h
theorem s_X5_weeks (hP : Pm M 0 A) (hO : Ok A) (h : Q (iI (nW A)) M) : w_X5_weeks M Q := by
  have ob := hO.b
  unfold w_X5_weeks
  refine s_pg hP (j := 1) (by decide) rfl ?_
  refine s_X5_weekOf hP hO (by omega) (by omega) ?_
  simp only [lm1_, lm2_, lm3_, lm9_, lm10_, lm999_, lm1000_, l0_, l1_, l2_, l3_, l4_, l5_, l6_, l7_, l8_, l9_, l10_, l11_, l12_, l13_, l23_, l24_, l30_, l31_, l33_, l35_, l41_, l42_, l45_, l48_, l57_, l58_, l59_, l60_, l64_, l96_, l99_, l100_, l101_, l126_, l168_, l808_, l909_, l999_, l1439_, iI_add, iI_sub, iI_mul, iI_neg]
  exact h
theorem s_X5_weekFirst (hP : Pm M 0 A) (hO : Ok A) {w : Int} (h1 : 0 ≤ w) (h2 : w < nW A) (h : Q (iI (wS A w)) M) : w_X5_weekFirst M (iI w) Q := by
  have ob := hO.b
  have hn := nW_b hO
  have hb := wS_b hO h1 (by omega)
  have hlt := wS_lt hO h1 h2
  have hb2 := wS_b hO (w := w + 1) (by omega) (by omega)
  unfold w_X5_weekFirst
  refine s_pg hP (j := 0) (by decide) rfl ?_
  obtain ⟨n, hn2⟩ : ∃ n : Nat, wS A w - A 0 0 = n := ⟨(wS A w - A 0 0).toNat, by omega⟩
  refine loop_up (fun k x => x = (iI (A 0 0 + k), M)) n ?_ ?_ (Nat.zero_le _) (by rw [show A 0 0 + ((0 : Nat) : Int) = A 0 0 by omega])
  · rintro R k x hk rfl hR
    unfold w_X5_weekFirst_L7
    dsimp only
    refine s_X5_weekOf hP hO (by omega) (by omega) ?_
    have e1 := wS_le hO (d := A 0 0 + k) (by omega) (by omega) h1 h2
    have e2 := wk_b hO (d := A 0 0 + k) (by omega) (by omega)
    simp (disch := omega) only [lm1_, lm2_, lm3_, lm9_, lm10_, lm999_, lm1000_, l0_, l1_, l2_, l3_, l4_, l5_, l6_, l7_, l8_, l9_, l10_, l11_, l12_, l13_, l23_, l24_, l30_, l31_, l33_, l35_, l41_, l42_, l45_, l48_, l57_, l58_, l59_, l60_, l64_, l96_, l99_, l100_, l101_, l126_, l168_, l808_, l909_, l999_, l1439_, iI_add, iI_sub, iI_mul, iI_neg, iI_rem, iI_lt, iI_le, iI_eq, vp_iI, cl_iI, Int.toNat_natCast]
    rw [if_neg (by omega)]
    exact hR _ (by rw [show A 0 0 + ((k + 1 : Nat) : Int) = A 0 0 + k + 1 by omega])
  · rintro R x rfl
    unfold w_X5_weekFirst_L7
    dsimp only
    refine s_X5_weekOf hP hO (by omega) (by omega) ?_
    have e1 := wS_le hO (d := A 0 0 + n) (by omega) (by omega) h1 h2
    have e2 := wk_b hO (d := A 0 0 + n) (by omega) (by omega)
    simp (disch := omega) only [lm1_, lm2_, lm3_, lm9_, lm10_, lm999_, lm1000_, l0_, l1_, l2_, l3_, l4_, l5_, l6_, l7_, l8_, l9_, l10_, l11_, l12_, l13_, l23_, l24_, l30_, l31_, l33_, l35_, l41_, l42_, l45_, l48_, l57_, l58_, l59_, l60_, l64_, l96_, l99_, l100_, l101_, l126_, l168_, l808_, l909_, l999_, l1439_, iI_add, iI_sub, iI_mul, iI_neg, iI_rem, iI_lt, iI_le, iI_eq, vp_iI, cl_iI, Int.toNat_natCast]
    rw [if_pos (by omega), show A 0 0 + (n : Int) = wS A w by omega]
    exact h
theorem s_X5_weekLast (hP : Pm M 0 A) (hO : Ok A) {w : Int} (h1 : 0 ≤ w) (h2 : w < nW A) (h : Q (iI (wL A w)) M) : w_X5_weekLast M (iI w) Q := by
  have ob := hO.b
  have hn := nW_b hO
  have hb := wS_b hO h1 (by omega)
  have hlt := wS_lt hO h1 h2
  have hb2 := wS_b hO (w := w + 1) (by omega) (by omega)
  have hwl : wL A w = wS A (w + 1) - 1 := rfl
  unfold w_X5_weekLast
  refine s_pg hP (j := 1) (by decide) rfl ?_
  obtain ⟨n, hn2⟩ : ∃ n : Nat, A 0 1 - wL A w = n := ⟨(A 0 1 - wL A w).toNat, by omega⟩
  refine loop_I (fun k x => x = (iI (wL A w + k), M) ∧ wL A w + k ≤ A 0 1) ?_ (k := n) ⟨by rw [show wL A w + (n : Int) = A 0 1 by omega], by omega⟩
  rintro R k x ⟨rfl, hk⟩ hR
  unfold w_X5_weekLast_L7
  dsimp only
  refine s_X5_weekOf hP hO (by omega) (by omega) ?_
  have e2 := wk_b hO (d := wL A w + k) (by omega) (by omega)
  have e3 := wk_in hO (d := wL A w + k) (by omega) (by omega) h1 h2
  by_cases hk0 : k = 0
  · subst hk0
    have e4 := e3.mpr (by omega)
    rw [e4]
    simp (disch := omega) only [lm1_, lm2_, lm3_, lm9_, lm10_, lm999_, lm1000_, l0_, l1_, l2_, l3_, l4_, l5_, l6_, l7_, l8_, l9_, l10_, l11_, l12_, l13_, l23_, l24_, l30_, l31_, l33_, l35_, l41_, l42_, l45_, l48_, l57_, l58_, l59_, l60_, l64_, l96_, l99_, l100_, l101_, l126_, l168_, l808_, l909_, l999_, l1439_, iI_add, iI_sub, iI_mul, iI_neg, iI_rem, iI_lt, iI_le, iI_eq, vp_iI, cl_iI, Int.toNat_natCast]
    rw [if_pos (by omega), show wL A w + ((0 : Nat) : Int) = wL A w by omega]
    exact h
  · have e5 : w < wk A (wL A w + k) := by
      have e6 := wS_le hO (d := wL A w + k) (by omega) (by omega) h1 h2
      have e7 := e6.mp (by omega)
      have e8 : ¬ wk A (wL A w + k) = w := fun q => by have := e3.mp q; omega
      omega
    simp (disch := omega) only [lm1_, lm2_, lm3_, lm9_, lm10_, lm999_, lm1000_, l0_, l1_, l2_, l3_, l4_, l5_, l6_, l7_, l8_, l9_, l10_, l11_, l12_, l13_, l23_, l24_, l30_, l31_, l33_, l35_, l41_, l42_, l45_, l48_, l57_, l58_, l59_, l60_, l64_, l96_, l99_, l100_, l101_, l126_, l168_, l808_, l909_, l999_, l1439_, iI_add, iI_sub, iI_mul, iI_neg, iI_rem, iI_lt, iI_le, iI_eq, vp_iI, cl_iI, Int.toNat_natCast]
    rw [if_neg (by omega)]
    exact hR (k - 1) _ (by omega) ⟨by rw [show wL A w + ((k - 1 : Nat) : Int) = wL A w + k + -1 by omega], by omega⟩
theorem s_X5_weekAt (hW : Wm M A) (hO : Ok A) {d : Int} (h1 : A 0 0 ≤ d) (h2 : d ≤ A 0 1) (h : Q (iI (wk A d)) M) : w_X5_weekAt M (iI d) Q := by
  have ob := hO.b
  have hn := nW_b hO
  have hb := wk_b hO h1 h2
  have hin := (wk_in hO h1 h2 hb.1 hb.2).mp rfl
  have hwl : wL A (wk A d) = wS A (wk A d + 1) - 1 := rfl
  unfold w_X5_weekAt
  refine loop_up (fun k x => x = (iI k, M)) (wk A d).toNat ?_ ?_ (Nat.zero_le _) rfl
  · rintro R k x hk rfl hR
    unfold w_X5_weekAt_L2
    dsimp only
    have e1 := (wS_le hO h1 h2 (w := (k : Int) + 1) (by omega) (by omega)).mpr (by omega)
    have e2 := wS_b hO (w := (k : Int) + 1) (by omega) (by omega)
    simp only [lm1_, lm2_, lm3_, lm9_, lm10_, lm999_, lm1000_, l0_, l1_, l2_, l3_, l4_, l5_, l6_, l7_, l8_, l9_, l10_, l11_, l12_, l13_, l23_, l24_, l30_, l31_, l33_, l35_, l41_, l42_, l45_, l48_, l57_, l58_, l59_, l60_, l64_, l96_, l99_, l100_, l101_, l126_, l168_, l808_, l909_, l999_, l1439_, iI_add, iI_sub, iI_mul, iI_neg]
    refine s_ldA (by omega) (by omega) (by decide) ?_
    rw [hW _ (by omega), Int.toNat_of_nonneg (by omega)]
    simp (disch := omega) only [lm1_, lm2_, lm3_, lm9_, lm10_, lm999_, lm1000_, l0_, l1_, l2_, l3_, l4_, l5_, l6_, l7_, l8_, l9_, l10_, l11_, l12_, l13_, l23_, l24_, l30_, l31_, l33_, l35_, l41_, l42_, l45_, l48_, l57_, l58_, l59_, l60_, l64_, l96_, l99_, l100_, l101_, l126_, l168_, l808_, l909_, l999_, l1439_, iI_add, iI_sub, iI_mul, iI_neg, iI_rem, iI_lt, iI_le, iI_eq, vp_iI, cl_iI, Int.toNat_natCast]
    rw [if_neg (by omega)]
    exact hR _ rfl
  · rintro R x rfl
    unfold w_X5_weekAt_L2
    dsimp only
    have e3 : ((wk A d).toNat : Int) = wk A d := Int.toNat_of_nonneg (by omega)
    have e2 := wS_b hO (w := wk A d + 1) (by omega) (by omega)
    rw [e3]
    simp only [lm1_, lm2_, lm3_, lm9_, lm10_, lm999_, lm1000_, l0_, l1_, l2_, l3_, l4_, l5_, l6_, l7_, l8_, l9_, l10_, l11_, l12_, l13_, l23_, l24_, l30_, l31_, l33_, l35_, l41_, l42_, l45_, l48_, l57_, l58_, l59_, l60_, l64_, l96_, l99_, l100_, l101_, l126_, l168_, l808_, l909_, l999_, l1439_, iI_add, iI_sub, iI_mul, iI_neg]
    refine s_ldA (by omega) (by omega) (by decide) ?_
    rw [hW _ (by omega), Int.toNat_of_nonneg (by omega)]
    simp (disch := omega) only [lm1_, lm2_, lm3_, lm9_, lm10_, lm999_, lm1000_, l0_, l1_, l2_, l3_, l4_, l5_, l6_, l7_, l8_, l9_, l10_, l11_, l12_, l13_, l23_, l24_, l30_, l31_, l33_, l35_, l41_, l42_, l45_, l48_, l57_, l58_, l59_, l60_, l64_, l96_, l99_, l100_, l101_, l126_, l168_, l808_, l909_, l999_, l1439_, iI_add, iI_sub, iI_mul, iI_neg, iI_rem, iI_lt, iI_le, iI_eq, vp_iI, cl_iI, Int.toNat_natCast]
    rw [if_pos (by omega)]
    exact h
/-- a week's first day, in the memory -/
theorem s_wf (hW : Wm M A) (hO : Ok A) {w : Int} (h1 : 0 ≤ w) (h2 : w ≤ nW A) {K : Int32 → Prop} (h : K (iI (wS A w))) : ldA (M 22 0) 8 (iI w) K := by
  have hn := nW_b hO
  refine s_ldA (by omega) (by omega) (by decide) ?_
  rw [hW _ (by omega), Int.toNat_of_nonneg h1]
  exact h
theorem s_X5_isIn (hP : Pm M 0 A) (hW : Wm M A) (hO : Ok A) {e : Nat} (he : (e : Int) < A 0 4) {w : Nat} (hw : (w : Int) < nW A) (h1 : A 1 e ≤ wL A w ∧ wS A w ≤ A 2 e → Q (iI 1) M) (h0 : ¬ (A 1 e ≤ wL A w ∧ wS A w ≤ A 2 e) → Q (iI 0) M) : w_X5_isIn M (iI e) (iI w) Q := by
  have ob := hO.b
  have oe := hO.e he
  have b1 := wS_b hO (w := w) (by omega) (by omega)
  have b2 := wS_b hO (w := (w : Int) + 1) (by omega) (by omega)
  have hwl : wL A w = wS A (w + 1) - 1 := rfl
  unfold w_X5_isIn
  refine s_X5_begins hP hO he ?_
  simp only [lm1_, lm2_, lm3_, lm9_, lm10_, lm999_, lm1000_, l0_, l1_, l2_, l3_, l4_, l5_, l6_, l7_, l8_, l9_, l10_, l11_, l12_, l13_, l23_, l24_, l30_, l31_, l33_, l35_, l41_, l42_, l45_, l48_, l57_, l58_, l59_, l60_, l64_, l96_, l99_, l100_, l101_, l126_, l168_, l808_, l909_, l999_, l1439_, iI_add, iI_sub, iI_mul, iI_neg]
  refine s_wf hW hO (by omega) (by omega) ?_
  simp (disch := omega) only [lm1_, lm2_, lm3_, lm9_, lm10_, lm999_, lm1000_, l0_, l1_, l2_, l3_, l4_, l5_, l6_, l7_, l8_, l9_, l10_, l11_, l12_, l13_, l23_, l24_, l30_, l31_, l33_, l35_, l41_, l42_, l45_, l48_, l57_, l58_, l59_, l60_, l64_, l96_, l99_, l100_, l101_, l126_, l168_, l808_, l909_, l999_, l1439_, iI_add, iI_sub, iI_mul, iI_neg, iI_rem, iI_lt, iI_le, iI_eq, vp_iI, cl_iI, Int.toNat_natCast]
  refine s_if (fun q => h0 (by omega)) (fun q => s_X5_ends hP hO he (s_wf hW hO (by omega) (by omega) ?_))
  simp (disch := omega) only [lm1_, lm2_, lm3_, lm9_, lm10_, lm999_, lm1000_, l0_, l1_, l2_, l3_, l4_, l5_, l6_, l7_, l8_, l9_, l10_, l11_, l12_, l13_, l23_, l24_, l30_, l31_, l33_, l35_, l41_, l42_, l45_, l48_, l57_, l58_, l59_, l60_, l64_, l96_, l99_, l100_, l101_, l126_, l168_, l808_, l909_, l999_, l1439_, iI_add, iI_sub, iI_mul, iI_neg, iI_rem, iI_lt, iI_le, iI_eq, vp_iI, cl_iI, Int.toNat_natCast]
  exact s_if (fun q2 => h0 (by omega)) (fun q2 => h1 (by omega))
theorem s_X5_beganBefore (hP : Pm M 0 A) (hW : Wm M A) (hO : Ok A) {e : Nat} (he : (e : Int) < A 0 4) {w : Nat} (hw : (w : Int) < nW A) (h1 : A 1 e < wS A w → Q (iI 1) M) (h0 : ¬ A 1 e < wS A w → Q (iI 0) M) : w_X5_beganBefore M (iI e) (iI w) Q := by
  have ob := hO.b
  have oe := hO.e he
  have b1 := wS_b hO (w := w) (by omega) (by omega)
  unfold w_X5_beganBefore
  refine s_X5_begins hP hO he (s_wf hW hO (by omega) (by omega) ?_)
  simp (disch := omega) only [lm1_, lm2_, lm3_, lm9_, lm10_, lm999_, lm1000_, l0_, l1_, l2_, l3_, l4_, l5_, l6_, l7_, l8_, l9_, l10_, l11_, l12_, l13_, l23_, l24_, l30_, l31_, l33_, l35_, l41_, l42_, l45_, l48_, l57_, l58_, l59_, l60_, l64_, l96_, l99_, l100_, l101_, l126_, l168_, l808_, l909_, l999_, l1439_, iI_add, iI_sub, iI_mul, iI_neg, iI_rem, iI_lt, iI_le, iI_eq, vp_iI, cl_iI, Int.toNat_natCast]
  exact s_if (fun q => h0 (by omega)) (fun q => h1 (by omega))
end MOD
