/-! what a page's plan is: 0: first, last, weekday, rows, count; 1: first days, 2: last days, 3: times, 4: ranks -/
abbrev Ab : Type := Nat → Nat → Int
abbrev lng (A : Ab) (e : Nat) : Prop := A 1 e < A 2 e ∨ A 3 e = -9
/-- its bounds -/
def Ok (A : Ab) : Prop := 0 ≤ A 0 0 ∧ A 0 0 ≤ A 0 1 ∧ A 0 1 ≤ 999 ∧ A 0 1 ≤ A 0 0 + 41 ∧ 0 ≤ A 0 2 ∧ A 0 2 ≤ 6 ∧ 1 ≤ A 0 3 ∧ A 0 3 ≤ 12 ∧ 0 ≤ A 0 4 ∧ A 0 4 ≤ 24 ∧ ∀ e : Nat, (e : Int) < A 0 4 → 0 ≤ A 1 e ∧ A 1 e ≤ A 2 e ∧ A 2 e ≤ 999 ∧ -9 ≤ A 3 e ∧ A 3 e ≤ 1439 ∧ (A 3 e = -9 ∨ 0 ≤ A 3 e) ∧ 0 ≤ A 4 e ∧ A 4 e ≤ 9
theorem Ok.b {A : Ab} (h : Ok A) : 0 ≤ A 0 0 ∧ A 0 0 ≤ A 0 1 ∧ A 0 1 ≤ 999 ∧ A 0 1 ≤ A 0 0 + 41 ∧ 0 ≤ A 0 2 ∧ A 0 2 ≤ 6 ∧ 1 ≤ A 0 3 ∧ A 0 3 ≤ 12 ∧ 0 ≤ A 0 4 ∧ A 0 4 ≤ 24 := ⟨h.1, h.2.1, h.2.2.1, h.2.2.2.1, h.2.2.2.2.1, h.2.2.2.2.2.1, h.2.2.2.2.2.2.1, h.2.2.2.2.2.2.2.1, h.2.2.2.2.2.2.2.2.1, h.2.2.2.2.2.2.2.2.2.1⟩
theorem Ok.e {A : Ab} (h : Ok A) {e : Nat} (he : (e : Int) < A 0 4) : 0 ≤ A 1 e ∧ A 1 e ≤ A 2 e ∧ A 2 e ≤ 999 ∧ -9 ≤ A 3 e ∧ A 3 e ≤ 1439 ∧ (A 3 e = -9 ∨ 0 ≤ A 3 e) ∧ 0 ≤ A 4 e ∧ A 4 e ≤ 9 := h.2.2.2.2.2.2.2.2.2.2 e he
/-- the class's plan i holds A -/
def Pl (M : Mm) (i : Nat) (A : Ab) : Prop := (∀ j, j < 5 → M 11 i j = iI (A 0 j)) ∧ ∀ e : Nat, (e : Int) < A 0 4 → M 13 i e = iI (A 1 e) ∧ M 14 i e = iI (A 2 e) ∧ M 15 i e = iI (A 3 e) ∧ M 16 i e = iI (A 4 e)
/-- the reference's numbers hold A, from place s on -/
def Pm (M : Mm) (s : Nat) (A : Ab) : Prop := (∀ j, j < 5 → M 18 0 (s + j) = iI (A 0 j)) ∧ ∀ e : Nat, (e : Int) < A 0 4 → M 18 0 (s + (5 + 4 * e)) = iI (A 1 e) ∧ M 18 0 (s + (5 + 4 * e + 1)) = iI (A 2 e) ∧ M 18 0 (s + (5 + 4 * e + 2)) = iI (A 3 e) ∧ M 18 0 (s + (5 + 4 * e + 3)) = iI (A 4 e)
theorem Pm.z {M : Mm} {A : Ab} (h : Pm M 0 A) {j : Nat} (hj : j < 5) : M 18 0 j = iI (A 0 j) := by
  have := h.1 j hj
  rwa [Nat.zero_add] at this
theorem Pm.y {M : Mm} {A : Ab} (h : Pm M 0 A) {e : Nat} (he : (e : Int) < A 0 4) : M 18 0 (5 + 4 * e) = iI (A 1 e) ∧ M 18 0 (5 + 4 * e + 1) = iI (A 2 e) ∧ M 18 0 (5 + 4 * e + 2) = iI (A 3 e) ∧ M 18 0 (5 + 4 * e + 3) = iI (A 4 e) := by
  have := h.2 e he
  rwa [Nat.zero_add, Nat.zero_add, Nat.zero_add, Nat.zero_add] at this
/-- how many of the first n -/
def cntP (p : Nat → Bool) : Nat → Nat
  | 0 => 0
  | n + 1 => cntP p n + (if p n then 1 else 0)
theorem cntP_le (p : Nat → Bool) (n : Nat) : cntP p n ≤ n := by
  induction n with
  | zero => exact Nat.le_refl _
  | succ n ih =>
    show cntP p n + (if p n then 1 else 0) ≤ n + 1
    split <;> omega
theorem cntP_t {p : Nat → Bool} {n : Nat} (h : p n = true) : cntP p (n + 1) = cntP p n + 1 := by
  show cntP p n + (if p n then 1 else 0) = _
  rw [if_pos h]
theorem cntP_f {p : Nat → Bool} {n : Nat} (h : ¬ p n = true) : cntP p (n + 1) = cntP p n := by
  show cntP p n + (if p n then 1 else 0) = _
  rw [if_neg h]
  rfl
theorem cntP_congr {p q : Nat → Bool} {n : Nat} (h : ∀ i, i < n → p i = q i) : cntP p n = cntP q n := by
  induction n with
  | zero => rfl
  | succ n ih =>
    show cntP p n + (if p n then 1 else 0) = cntP q n + (if q n then 1 else 0)
    rw [ih (fun i hi => h i (by omega)), h n (Nat.lt_succ_self n)]
abbrev i32 (a : Int) : Prop := -2147483648 ≤ a ∧ a ≤ 2147483647
section PLAN
variable {M : Mm} {i : Nat} {A : Ab} {Q : Int32 → Mm → Prop}
theorem s_X2_isLong (hP : Pl M i A) (hO : Ok A) {e : Nat} (he : (e : Int) < A 0 4) (h1 : lng A e → Q (iI 1) M) (h0 : ¬ lng A e → Q (iI 0) M) : w_X2_isLong i M (iI e) Q := by
  obtain ⟨p1, p2, p3, p4⟩ := hP.2 e he
  have o := hO.e he
  have ob := hO.b
  unfold w_X2_isLong
  refine s_ldN (by omega) (by decide) (s_ldN (by omega) (by decide) ?_)
  rw [p1, p2]
  simp (disch := omega) only [lm1_, lm2_, lm3_, lm9_, lm10_, lm999_, lm1000_, l0_, l1_, l2_, l3_, l4_, l5_, l6_, l7_, l8_, l9_, l10_, l11_, l12_, l13_, l23_, l24_, l30_, l31_, l33_, l35_, l41_, l42_, l45_, l48_, l57_, l58_, l59_, l60_, l64_, l96_, l99_, l100_, l101_, l126_, l168_, l808_, l909_, l900_, l20_, l1440_, l2003_, l15486209_, l2147483647_, l999_, l1439_, iI_add, iI_sub, iI_mul, iI_neg, iI_rem, iI_lt, iI_le, iI_eq, vp_iI, cl_iI, Int.toNat_natCast]
  refine s_if (fun q => h1 (Or.inl q)) (fun q => s_ldN (by omega) (by decide) ?_)
  rw [p3]
  simp (disch := omega) only [lm1_, lm2_, lm3_, lm9_, lm10_, lm999_, lm1000_, l0_, l1_, l2_, l3_, l4_, l5_, l6_, l7_, l8_, l9_, l10_, l11_, l12_, l13_, l23_, l24_, l30_, l31_, l33_, l35_, l41_, l42_, l45_, l48_, l57_, l58_, l59_, l60_, l64_, l96_, l99_, l100_, l101_, l126_, l168_, l808_, l909_, l900_, l20_, l1440_, l2003_, l15486209_, l2147483647_, l999_, l1439_, iI_add, iI_sub, iI_mul, iI_neg, iI_rem, iI_lt, iI_le, iI_eq, vp_iI, cl_iI, Int.toNat_natCast]
  exact s_if (fun q2 => h1 (Or.inr q2)) (fun q2 => h0 (fun z => z.elim q q2))
theorem s_X2_meets (hP : Pl M i A) (hO : Ok A) {e : Nat} (he : (e : Int) < A 0 4) {a b : Int} (ha : i32 a) (hb : i32 b) (h1 : A 1 e ≤ b ∧ a ≤ A 2 e → Q (iI 1) M) (h0 : ¬ (A 1 e ≤ b ∧ a ≤ A 2 e) → Q (iI 0) M) : w_X2_meets i M (iI e) (iI a) (iI b) Q := by
  obtain ⟨p1, p2, p3, p4⟩ := hP.2 e he
  have o := hO.e he
  have ob := hO.b
  unfold w_X2_meets
  refine s_ldN (by omega) (by decide) ?_
  rw [p1]
  simp (disch := omega) only [lm1_, lm2_, lm3_, lm9_, lm10_, lm999_, lm1000_, l0_, l1_, l2_, l3_, l4_, l5_, l6_, l7_, l8_, l9_, l10_, l11_, l12_, l13_, l23_, l24_, l30_, l31_, l33_, l35_, l41_, l42_, l45_, l48_, l57_, l58_, l59_, l60_, l64_, l96_, l99_, l100_, l101_, l126_, l168_, l808_, l909_, l900_, l20_, l1440_, l2003_, l15486209_, l2147483647_, l999_, l1439_, iI_add, iI_sub, iI_mul, iI_neg, iI_rem, iI_lt, iI_le, iI_eq, vp_iI, cl_iI, Int.toNat_natCast]
  refine s_if (fun q => h0 (by omega)) (fun q => s_ldN (by omega) (by decide) ?_)
  rw [p2]
  simp (disch := omega) only [lm1_, lm2_, lm3_, lm9_, lm10_, lm999_, lm1000_, l0_, l1_, l2_, l3_, l4_, l5_, l6_, l7_, l8_, l9_, l10_, l11_, l12_, l13_, l23_, l24_, l30_, l31_, l33_, l35_, l41_, l42_, l45_, l48_, l57_, l58_, l59_, l60_, l64_, l96_, l99_, l100_, l101_, l126_, l168_, l808_, l909_, l900_, l20_, l1440_, l2003_, l15486209_, l2147483647_, l999_, l1439_, iI_add, iI_sub, iI_mul, iI_neg, iI_rem, iI_lt, iI_le, iI_eq, vp_iI, cl_iI, Int.toNat_natCast]
  exact s_if (fun q2 => h0 (by omega)) (fun q2 => h1 (by omega))
theorem s_X2_shortOnes (hP : Pl M i A) (hO : Ok A) {a b : Int} (ha : i32 a) (hb : i32 b) (h : Q (iI (cntP (fun e => decide (¬ lng A e ∧ A 1 e ≤ b ∧ a ≤ A 2 e)) (A 0 4).toNat)) M) : w_X2_shortOnes i M (iI a) (iI b) Q := by
  have ob := hO.b
  unfold w_X2_shortOnes
  refine loop_up (fun k x => x = (iI (cntP (fun e => decide (¬ lng A e ∧ A 1 e ≤ b ∧ a ≤ A 2 e)) k), iI k, M)) (A 0 4).toNat ?_ ?_ (Nat.zero_le _) rfl
  · rintro R k x hk rfl hR
    unfold w_X2_shortOnes_L5
    dsimp only
    rw [hP.1 4 (by decide)]
    simp (disch := omega) only [lm1_, lm2_, lm3_, lm9_, lm10_, lm999_, lm1000_, l0_, l1_, l2_, l3_, l4_, l5_, l6_, l7_, l8_, l9_, l10_, l11_, l12_, l13_, l23_, l24_, l30_, l31_, l33_, l35_, l41_, l42_, l45_, l48_, l57_, l58_, l59_, l60_, l64_, l96_, l99_, l100_, l101_, l126_, l168_, l808_, l909_, l900_, l20_, l1440_, l2003_, l15486209_, l2147483647_, l999_, l1439_, iI_add, iI_sub, iI_mul, iI_neg, iI_rem, iI_lt, iI_le, iI_eq, vp_iI, cl_iI, Int.toNat_natCast]
    rw [if_neg (by omega)]
    refine s_X2_isLong hP hO (by omega) (fun hl => z1 ?_) (fun hl => z0 ?_)
    · exact hR _ (by rw [cntP_f (by rw [decide_eq_true_eq]; exact fun z => z.1 hl)]; rfl)
    · refine s_X2_meets hP hO (by omega) ha hb (fun hm => z1 ?_) (fun hm => z0 ?_)
      · exact hR _ (by rw [cntP_t (by rw [decide_eq_true_eq]; exact ⟨hl, hm⟩)]; rfl)
      · exact hR _ (by rw [cntP_f (by rw [decide_eq_true_eq]; exact fun z => hm z.2)]; rfl)
  · rintro R x rfl
    unfold w_X2_shortOnes_L5
    dsimp only
    rw [hP.1 4 (by decide)]
    simp (disch := omega) only [lm1_, lm2_, lm3_, lm9_, lm10_, lm999_, lm1000_, l0_, l1_, l2_, l3_, l4_, l5_, l6_, l7_, l8_, l9_, l10_, l11_, l12_, l13_, l23_, l24_, l30_, l31_, l33_, l35_, l41_, l42_, l45_, l48_, l57_, l58_, l59_, l60_, l64_, l96_, l99_, l100_, l101_, l126_, l168_, l808_, l909_, l900_, l20_, l1440_, l2003_, l15486209_, l2147483647_, l999_, l1439_, iI_add, iI_sub, iI_mul, iI_neg, iI_rem, iI_lt, iI_le, iI_eq, vp_iI, cl_iI, Int.toNat_natCast]
    rw [if_pos (by omega)]
    exact h
theorem s_X2_longOnes (hP : Pl M i A) (hO : Ok A) {a : Int} (ha : i32 a) (h : Q (iI (cntP (fun e => decide (lng A e ∧ A 1 e ≤ a ∧ a ≤ A 2 e)) (A 0 4).toNat)) M) : w_X2_longOnes i M (iI a) Q := by
  have ob := hO.b
  unfold w_X2_longOnes
  refine loop_up (fun k x => x = (iI (cntP (fun e => decide (lng A e ∧ A 1 e ≤ a ∧ a ≤ A 2 e)) k), iI k, M)) (A 0 4).toNat ?_ ?_ (Nat.zero_le _) rfl
  · rintro R k x hk rfl hR
    unfold w_X2_longOnes_L4
    dsimp only
    rw [hP.1 4 (by decide)]
    simp (disch := omega) only [lm1_, lm2_, lm3_, lm9_, lm10_, lm999_, lm1000_, l0_, l1_, l2_, l3_, l4_, l5_, l6_, l7_, l8_, l9_, l10_, l11_, l12_, l13_, l23_, l24_, l30_, l31_, l33_, l35_, l41_, l42_, l45_, l48_, l57_, l58_, l59_, l60_, l64_, l96_, l99_, l100_, l101_, l126_, l168_, l808_, l909_, l900_, l20_, l1440_, l2003_, l15486209_, l2147483647_, l999_, l1439_, iI_add, iI_sub, iI_mul, iI_neg, iI_rem, iI_lt, iI_le, iI_eq, vp_iI, cl_iI, Int.toNat_natCast]
    rw [if_neg (by omega)]
    refine s_X2_isLong hP hO (by omega) (fun hl => z1 ?_) (fun hl => z0 ?_)
    · refine s_X2_meets hP hO (by omega) ha ha (fun hm => z1 ?_) (fun hm => z0 ?_)
      · exact hR _ (by rw [cntP_t (by rw [decide_eq_true_eq]; exact ⟨hl, hm⟩)]; rfl)
      · exact hR _ (by rw [cntP_f (by rw [decide_eq_true_eq]; exact fun z => hm z.2)]; rfl)
    · exact hR _ (by rw [cntP_f (by rw [decide_eq_true_eq]; exact fun z => hl z.1)]; rfl)
  · rintro R x rfl
    unfold w_X2_longOnes_L4
    dsimp only
    rw [hP.1 4 (by decide)]
    simp (disch := omega) only [lm1_, lm2_, lm3_, lm9_, lm10_, lm999_, lm1000_, l0_, l1_, l2_, l3_, l4_, l5_, l6_, l7_, l8_, l9_, l10_, l11_, l12_, l13_, l23_, l24_, l30_, l31_, l33_, l35_, l41_, l42_, l45_, l48_, l57_, l58_, l59_, l60_, l64_, l96_, l99_, l100_, l101_, l126_, l168_, l808_, l909_, l900_, l20_, l1440_, l2003_, l15486209_, l2147483647_, l999_, l1439_, iI_add, iI_sub, iI_mul, iI_neg, iI_rem, iI_lt, iI_le, iI_eq, vp_iI, cl_iI, Int.toNat_natCast]
    rw [if_pos (by omega)]
    exact h
theorem s_X2_allLongOnes (hP : Pl M i A) (hO : Ok A) (h : Q (iI (cntP (fun e => decide (lng A e)) (A 0 4).toNat)) M) : w_X2_allLongOnes i M Q := by
  have ob := hO.b
  unfold w_X2_allLongOnes
  refine loop_up (fun k x => x = (iI (cntP (fun e => decide (lng A e)) k), iI k, M)) (A 0 4).toNat ?_ ?_ (Nat.zero_le _) rfl
  · rintro R k x hk rfl hR
    unfold w_X2_allLongOnes_L4
    dsimp only
    rw [hP.1 4 (by decide)]
    simp (disch := omega) only [lm1_, lm2_, lm3_, lm9_, lm10_, lm999_, lm1000_, l0_, l1_, l2_, l3_, l4_, l5_, l6_, l7_, l8_, l9_, l10_, l11_, l12_, l13_, l23_, l24_, l30_, l31_, l33_, l35_, l41_, l42_, l45_, l48_, l57_, l58_, l59_, l60_, l64_, l96_, l99_, l100_, l101_, l126_, l168_, l808_, l909_, l900_, l20_, l1440_, l2003_, l15486209_, l2147483647_, l999_, l1439_, iI_add, iI_sub, iI_mul, iI_neg, iI_rem, iI_lt, iI_le, iI_eq, vp_iI, cl_iI, Int.toNat_natCast]
    rw [if_neg (by omega)]
    refine s_X2_isLong hP hO (by omega) (fun hl => z1 ?_) (fun hl => z0 ?_)
    · exact hR _ (by rw [cntP_t (by rw [decide_eq_true_eq]; exact hl)]; rfl)
    · exact hR _ (by rw [cntP_f (by rw [decide_eq_true_eq]; exact hl)]; rfl)
  · rintro R x rfl
    unfold w_X2_allLongOnes_L4
    dsimp only
    rw [hP.1 4 (by decide)]
    simp (disch := omega) only [lm1_, lm2_, lm3_, lm9_, lm10_, lm999_, lm1000_, l0_, l1_, l2_, l3_, l4_, l5_, l6_, l7_, l8_, l9_, l10_, l11_, l12_, l13_, l23_, l24_, l30_, l31_, l33_, l35_, l41_, l42_, l45_, l48_, l57_, l58_, l59_, l60_, l64_, l96_, l99_, l100_, l101_, l126_, l168_, l808_, l909_, l900_, l20_, l1440_, l2003_, l15486209_, l2147483647_, l999_, l1439_, iI_add, iI_sub, iI_mul, iI_neg, iI_rem, iI_lt, iI_le, iI_eq, vp_iI, cl_iI, Int.toNat_natCast]
    rw [if_pos (by omega)]
    exact h
theorem s_X2_allOnPage (hP : Pl M i A) (hO : Ok A) (h : Q (iI (cntP (fun e => decide (A 1 e ≤ A 0 1 ∧ A 0 0 ≤ A 2 e)) (A 0 4).toNat)) M) : w_X2_allOnPage i M Q := by
  have ob := hO.b
  unfold w_X2_allOnPage
  refine loop_up (fun k x => x = (iI (cntP (fun e => decide (A 1 e ≤ A 0 1 ∧ A 0 0 ≤ A 2 e)) k), iI k, M)) (A 0 4).toNat ?_ ?_ (Nat.zero_le _) rfl
  · rintro R k x hk rfl hR
    unfold w_X2_allOnPage_L4
    dsimp only
    rw [hP.1 4 (by decide)]
    simp (disch := omega) only [lm1_, lm2_, lm3_, lm9_, lm10_, lm999_, lm1000_, l0_, l1_, l2_, l3_, l4_, l5_, l6_, l7_, l8_, l9_, l10_, l11_, l12_, l13_, l23_, l24_, l30_, l31_, l33_, l35_, l41_, l42_, l45_, l48_, l57_, l58_, l59_, l60_, l64_, l96_, l99_, l100_, l101_, l126_, l168_, l808_, l909_, l900_, l20_, l1440_, l2003_, l15486209_, l2147483647_, l999_, l1439_, iI_add, iI_sub, iI_mul, iI_neg, iI_rem, iI_lt, iI_le, iI_eq, vp_iI, cl_iI, Int.toNat_natCast]
    rw [if_neg (by omega)]
    rw [hP.1 0 (by decide), hP.1 1 (by decide)]
    refine s_X2_meets hP hO (by omega) (by omega) (by omega) (fun hm => z1 ?_) (fun hm => z0 ?_)
    · exact hR _ (by rw [cntP_t (by rw [decide_eq_true_eq]; exact hm)]; rfl)
    · exact hR _ (by rw [cntP_f (by rw [decide_eq_true_eq]; exact hm)]; rfl)
  · rintro R x rfl
    unfold w_X2_allOnPage_L4
    dsimp only
    rw [hP.1 4 (by decide)]
    simp (disch := omega) only [lm1_, lm2_, lm3_, lm9_, lm10_, lm999_, lm1000_, l0_, l1_, l2_, l3_, l4_, l5_, l6_, l7_, l8_, l9_, l10_, l11_, l12_, l13_, l23_, l24_, l30_, l31_, l33_, l35_, l41_, l42_, l45_, l48_, l57_, l58_, l59_, l60_, l64_, l96_, l99_, l100_, l101_, l126_, l168_, l808_, l909_, l900_, l20_, l1440_, l2003_, l15486209_, l2147483647_, l999_, l1439_, iI_add, iI_sub, iI_mul, iI_neg, iI_rem, iI_lt, iI_le, iI_eq, vp_iI, cl_iI, Int.toNat_natCast]
    rw [if_pos (by omega)]
    exact h
theorem s_X2_daysOnPage (hP : Pl M i A) (hO : Ok A) {e : Nat} (he : (e : Int) < A 0 4) (h : Q (iI (max 0 (min (A 2 e) (A 0 1) - max (A 1 e) (A 0 0) + 1))) M) : w_X2_daysOnPage i M (iI e) Q := by
  obtain ⟨p1, p2, p3, p4⟩ := hP.2 e he
  have o := hO.e he
  have ob := hO.b
  unfold w_X2_daysOnPage
  refine s_ldN (by omega) (by decide) (s_ldN (by omega) (by decide) ?_)
  rw [p1, p2, hP.1 0 (by decide), hP.1 1 (by decide)]
  have e1 : (if iI (A 0 1) < iI (A 2 e) then iI (A 0 1) else iI (A 2 e)) = iI (min (A 2 e) (A 0 1)) := by
    simp (disch := omega) only [lm1_, lm2_, lm3_, lm9_, lm10_, lm999_, lm1000_, l0_, l1_, l2_, l3_, l4_, l5_, l6_, l7_, l8_, l9_, l10_, l11_, l12_, l13_, l23_, l24_, l30_, l31_, l33_, l35_, l41_, l42_, l45_, l48_, l57_, l58_, l59_, l60_, l64_, l96_, l99_, l100_, l101_, l126_, l168_, l808_, l909_, l900_, l20_, l1440_, l2003_, l15486209_, l2147483647_, l999_, l1439_, iI_add, iI_sub, iI_mul, iI_neg, iI_rem, iI_lt, iI_le, iI_eq, vp_iI, cl_iI, Int.toNat_natCast]
    split
    · rw [show min (A 2 e) (A 0 1) = A 0 1 by omega]
    · rw [show min (A 2 e) (A 0 1) = A 2 e by omega]
  have e2 : (if iI (A 1 e) < iI (A 0 0) then iI (A 0 0) else iI (A 1 e)) = iI (max (A 1 e) (A 0 0)) := by
    simp (disch := omega) only [lm1_, lm2_, lm3_, lm9_, lm10_, lm999_, lm1000_, l0_, l1_, l2_, l3_, l4_, l5_, l6_, l7_, l8_, l9_, l10_, l11_, l12_, l13_, l23_, l24_, l30_, l31_, l33_, l35_, l41_, l42_, l45_, l48_, l57_, l58_, l59_, l60_, l64_, l96_, l99_, l100_, l101_, l126_, l168_, l808_, l909_, l900_, l20_, l1440_, l2003_, l15486209_, l2147483647_, l999_, l1439_, iI_add, iI_sub, iI_mul, iI_neg, iI_rem, iI_lt, iI_le, iI_eq, vp_iI, cl_iI, Int.toNat_natCast]
    split
    · rw [show max (A 1 e) (A 0 0) = A 0 0 by omega]
    · rw [show max (A 1 e) (A 0 0) = A 1 e by omega]
  rw [e1, e2]
  have e3 : (if (0 : Int32) < iI (min (A 2 e) (A 0 1)) - iI (max (A 1 e) (A 0 0)) + 1 then iI (min (A 2 e) (A 0 1)) - iI (max (A 1 e) (A 0 0)) + 1 else (0 : Int32)) = iI (max 0 (min (A 2 e) (A 0 1) - max (A 1 e) (A 0 0) + 1)) := by
    simp (disch := omega) only [lm1_, lm2_, lm3_, lm9_, lm10_, lm999_, lm1000_, l0_, l1_, l2_, l3_, l4_, l5_, l6_, l7_, l8_, l9_, l10_, l11_, l12_, l13_, l23_, l24_, l30_, l31_, l33_, l35_, l41_, l42_, l45_, l48_, l57_, l58_, l59_, l60_, l64_, l96_, l99_, l100_, l101_, l126_, l168_, l808_, l909_, l900_, l20_, l1440_, l2003_, l15486209_, l2147483647_, l999_, l1439_, iI_add, iI_sub, iI_mul, iI_neg, iI_rem, iI_lt, iI_le, iI_eq, vp_iI, cl_iI, Int.toNat_natCast]
    split
    · rw [show max 0 (min (A 2 e) (A 0 1) - max (A 1 e) (A 0 0) + 1) = min (A 2 e) (A 0 1) - max (A 1 e) (A 0 0) + 1 by omega]
    · rw [show max 0 (min (A 2 e) (A 0 1) - max (A 1 e) (A 0 0) + 1) = 0 by omega]
  rw [e3]
  exact h
end PLAN
