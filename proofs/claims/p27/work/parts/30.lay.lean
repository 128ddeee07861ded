/-! how a page is laid: L e w is the lane of e's bar in week w, R e the row of a short entry; -9 where there is none -/
abbrev bar (A : Ab) (w e : Nat) : Prop := (e : Int) < A 0 4 ∧ lng A e ∧ A 1 e ≤ wL A w ∧ wS A w ≤ A 2 e
/-- the order of a week's bars -/
def kb (A : Ab) (L : Nat → Nat → Int) (w e : Nat) : Int := if A 1 e < wS A w then (if w = 0 then 0 else L e (w - 1)) * 32 + e else 1000000 + (((A 1 e) * 1000 + (999 - A 2 e)) * 10 + (9 - A 4 e)) * 32 + e
def prv (L : Nat → Nat → Int) (w e : Nat) : Int := if w = 0 then -9 else L e (w - 1)
def clash (A : Ab) (L : Nat → Nat → Int) (w e : Nat) (r : Int) : Prop := ∃ o, bar A w o ∧ kb A L w o < kb A L w e ∧ L o w = r ∧ A 1 o ≤ A 2 e ∧ A 1 e ≤ A 2 o
def LaneAt (A : Ab) (L : Nat → Nat → Int) (w e : Nat) : Prop := (prv L w e ≠ -9 ∧ ¬ clash A L w e (prv L w e) ∧ L e w = prv L w e) ∨ ((prv L w e = -9 ∨ clash A L w e (prv L w e)) ∧ 0 ≤ L e w ∧ ¬ clash A L w e (L e w) ∧ ∀ r, 0 ≤ r → r < L e w → clash A L w e r)
abbrev sh (A : Ab) (e : Nat) : Prop := (e : Int) < A 0 4 ∧ ¬ lng A e ∧ A 0 0 ≤ A 1 e ∧ A 1 e ≤ A 0 1
/-- the order of short entries -/
def ks (A : Ab) (e : Nat) : Int := ((9 - A 4 e) * 2000 + A 3 e) * 32 + e
def tkn (A : Ab) (L : Nat → Nat → Int) (R : Nat → Int) (e : Nat) (r : Int) : Prop := (∃ o : Nat, (o : Int) < A 0 4 ∧ lng A o ∧ A 1 o ≤ A 1 e ∧ A 1 e ≤ A 2 o ∧ L o (wk A (A 1 e)).toNat = r) ∨ ∃ o, sh A o ∧ A 1 o = A 1 e ∧ ks A o < ks A e ∧ R o = r
def RowAt (A : Ab) (L : Nat → Nat → Int) (R : Nat → Int) (e : Nat) : Prop := 0 ≤ R e ∧ ¬ tkn A L R e (R e) ∧ ∀ r, 0 ≤ r → r < R e → tkn A L R e r
def LayL (A : Ab) (L : Nat → Nat → Int) : Prop := ∀ w e : Nat, ((w : Int) < nW A ∧ bar A w e → LaneAt A L w e) ∧ (¬ ((w : Int) < nW A ∧ bar A w e) → L e w = -9)
def LayR (A : Ab) (L : Nat → Nat → Int) (R : Nat → Int) : Prop := ∀ e, (sh A e → RowAt A L R e) ∧ (¬ sh A e → R e = -9)
theorem kb_1 {A : Ab} {L : Nat → Nat → Int} {w e : Nat} (h : A 1 e < wS A w) : kb A L w e = (if w = 0 then 0 else L e (w - 1)) * 32 + e := if_pos h
theorem kb_2 {A : Ab} {L : Nat → Nat → Int} {w e : Nat} (h : ¬ A 1 e < wS A w) : kb A L w e = 1000000 + (((A 1 e) * 1000 + (999 - A 2 e)) * 10 + (9 - A 4 e)) * 32 + e := if_neg h
/-- lanes of the week before are known -/
def Lb (A : Ab) (L : Nat → Nat → Int) (w : Nat) : Prop := ∀ e, bar A w e → A 1 e < wS A w → w ≠ 0 → 0 ≤ L e (w - 1) ∧ L e (w - 1) < 24
theorem kb_inj {A : Ab} {L : Nat → Nat → Int} {w e o : Nat} (hO : Ok A) (hL : Lb A L w) (he : bar A w e) (ho : bar A w o) (h : kb A L w e = kb A L w o) : e = o := by
  have ob := hO.b
  have o1 := hO.e he.1
  have o2 := hO.e ho.1
  have he1 := he.1
  have ho1 := ho.1
  by_cases c1 : A 1 e < wS A w <;> by_cases c2 : A 1 o < wS A w
  · rw [kb_1 c1, kb_1 c2] at h
    by_cases hw : w = 0
    · rw [if_pos hw, if_pos hw] at h
      omega
    · rw [if_neg hw, if_neg hw] at h
      have l1 := hL e he c1 hw
      have l2 := hL o ho c2 hw
      omega
  · rw [kb_1 c1, kb_2 c2] at h
    by_cases hw : w = 0
    · rw [if_pos hw] at h
      omega
    · rw [if_neg hw] at h
      have l1 := hL e he c1 hw
      omega
  · rw [kb_2 c1, kb_1 c2] at h
    by_cases hw : w = 0
    · rw [if_pos hw] at h
      omega
    · rw [if_neg hw] at h
      have l2 := hL o ho c2 hw
      omega
  · rw [kb_2 c1, kb_2 c2] at h
    omega
theorem ks_inj {A : Ab} {e o : Nat} (hO : Ok A) (he : (e : Int) < A 0 4) (ho : (o : Int) < A 0 4) (h : ks A e = ks A o) : e = o := by
  have ob := hO.b
  have o1 := hO.e he
  have o2 := hO.e ho
  unfold ks at h
  omega
/-- lists in order -/
def Ord (κ : Nat → Int) (l : List Nat) : Prop := l.Pairwise (fun a b => κ a < κ b)
theorem ins_get {l : List Nat} {a e j : Nat} (ha : a ≤ l.length) : (l.take a ++ e :: l.drop a)[j]? = if j < a then l[j]? else if j = a then some e else l[j - 1]? := by
  have hl : (l.take a).length = a := by rw [List.length_take]; omega
  by_cases h1 : j < a
  · rw [if_pos h1, List.getElem?_append_left (by omega), List.getElem?_take, if_pos h1]
  · rw [if_neg h1, List.getElem?_append_right (by omega), hl]
    by_cases h2 : j = a
    · rw [if_pos h2, h2, Nat.sub_self]
      rfl
    · rw [if_neg h2, show j - a = (j - a - 1) + 1 by omega, List.getElem?_cons_succ, List.getElem?_drop]
      rw [show a + (j - a - 1) = j - 1 by omega]
theorem ins_mem {l : List Nat} {a e x : Nat} : x ∈ l.take a ++ e :: l.drop a ↔ x = e ∨ x ∈ l := by
  rw [List.mem_append, List.mem_cons]
  constructor
  · rintro (h | h | h)
    · exact Or.inr (List.mem_of_mem_take h)
    · exact Or.inl h
    · exact Or.inr (List.mem_of_mem_drop h)
  · rintro (h | h)
    · exact Or.inr (Or.inl h)
    · rw [← List.take_append_drop a l, List.mem_append] at h
      rcases h with h | h
      · exact Or.inl h
      · exact Or.inr (Or.inr h)
theorem ins_len {l : List Nat} {a e : Nat} (ha : a ≤ l.length) : (l.take a ++ e :: l.drop a).length = l.length + 1 := by
  rw [List.length_append, List.length_cons, List.length_take, List.length_drop]
  omega
theorem ins_ord {κ : Nat → Int} {l : List Nat} {a e : Nat} (h : Ord κ l) (h1 : ∀ j x, j < a → l[j]? = some x → κ x < κ e) (h2 : ∀ j x, a ≤ j → l[j]? = some x → κ e < κ x) : Ord κ (l.take a ++ e :: l.drop a) := by
  have h0 : (l.take a ++ l.drop a).Pairwise (fun a b => κ a < κ b) := by rw [List.take_append_drop]; exact h
  obtain ⟨p1, p2, p3⟩ := List.pairwise_append.mp h0
  have q1 : ∀ x, x ∈ l.take a → κ x < κ e := by
    intro x hx
    obtain ⟨j, hj⟩ := List.getElem?_of_mem hx
    rw [List.getElem?_take] at hj
    by_cases hja : j < a
    · rw [if_pos hja] at hj
      exact h1 j x hja hj
    · rw [if_neg hja] at hj
      cases hj
  have q2 : ∀ x, x ∈ l.drop a → κ e < κ x := by
    intro x hx
    obtain ⟨j, hj⟩ := List.getElem?_of_mem hx
    rw [List.getElem?_drop] at hj
    exact h2 (a + j) x (by omega) hj
  refine List.pairwise_append.mpr ⟨p1, List.pairwise_cons.mpr ⟨q2, p2⟩, fun x hx y hy => ?_⟩
  rcases List.mem_cons.mp hy with rfl | hy
  · exact q1 x hx
  · exact p3 x hx y hy
theorem Ord.lt {κ : Nat → Int} {l : List Nat} (h : Ord κ l) {i j x y : Nat} (hij : i < j) (hx : l[i]? = some x) (hy : l[j]? = some y) : κ x < κ y := by
  obtain ⟨h1, e1⟩ := List.getElem?_eq_some_iff.mp hx
  obtain ⟨h2, e2⟩ := List.getElem?_eq_some_iff.mp hy
  have := List.pairwise_iff_getElem.mp h i j h1 h2 hij
  rw [e1, e2] at this
  exact this
theorem Ord.at {κ : Nat → Int} {l : List Nat} (h : Ord κ l) {i j x y : Nat} (hx : l[i]? = some x) (hy : l[j]? = some y) : κ x < κ y ↔ i < j := by
  constructor
  · intro hk
    refine Nat.lt_of_not_le (fun hle => ?_)
    rcases Nat.lt_or_eq_of_le hle with q | q
    · have := h.lt q hy hx
      omega
    · subst q
      rw [hx] at hy
      cases hy
      omega
  · intro hij
    exact h.lt hij hx hy
section BARS
variable {M : Mm} {p : Nat} {A : Ab} {L : Nat → Nat → Int}
/-- the lanes of the week before, in the memory -/
def Lw (M : Mm) (p : Nat) (A : Ab) (L : Nat → Nat → Int) (w : Nat) : Prop := ∀ e : Nat, (e : Int) < A 0 4 → w ≠ 0 → M 12 (24 * p + e) (w - 1) = iI (L e (w - 1)) ∧ (L e (w - 1) = -9 ∨ 0 ≤ L e (w - 1)) ∧ L e (w - 1) < 24
theorem s_X0_isBarBefore {Q : Int32 → Mm → Prop} (hP : Pl M p A) (hO : Ok A) (hW : Wk M p A) {w : Nat} (hw : (w : Int) < nW A) (hM : Lw M p A L w) (hL : Lb A L w) {e o : Nat} (he : bar A w e) (ho : bar A w o) (hoe : o < e) (h1 : kb A L w e < kb A L w o → Q (iI 1) M) (h0 : ¬ kb A L w e < kb A L w o → Q (iI 0) M) : w_X0_isBarBefore p M (iI e) (iI o) (iI w) Q := by
  have hn := nW_b hO
  have ob := hO.b
  have oe := hO.e he.1
  have oo := hO.e ho.1
  obtain ⟨pe1, pe2, pe3, pe4⟩ := hP.2 e he.1
  obtain ⟨po1, po2, po3, po4⟩ := hP.2 o ho.1
  have hs := wS_b hO (w := w) (by omega) (by omega)
  have he1 := he.1
  have ho1 := ho.1
  unfold w_X0_isBarBefore
  refine s_ldN (by omega) (by decide) ?_
  refine s_X0_firstOfWeek hW hO (by omega) (by omega) ?_
  rw [pe1]
  by_cases c1 : A 1 e < wS A w <;> by_cases c2 : A 1 o < wS A w
  · refine s_letV (iI 1) (fun J hJ => ?_) ?_
    · simp (disch := omega) only [lm1_, lm2_, lm3_, lm9_, lm10_, lm999_, lm1000_, l0_, l1_, l2_, l3_, l4_, l5_, l6_, l7_, l8_, l9_, l10_, l11_, l12_, l13_, l23_, l24_, l30_, l31_, l33_, l35_, l41_, l42_, l45_, l48_, l57_, l58_, l59_, l60_, l64_, l96_, l99_, l100_, l101_, l126_, l168_, l808_, l909_, l900_, l20_, l1440_, l2003_, l15486209_, l2147483647_, l999_, l1439_, iI_add, iI_sub, iI_mul, iI_neg, iI_rem, iI_lt, iI_le, iI_eq, vp_iI, cl_iI, Int.toNat_natCast]
      rw [if_neg (by omega)]
      exact hJ
    refine s_ldN (by omega) (by decide) (s_X0_firstOfWeek hW hO (by omega) (by omega) ?_)
    rw [po1]
    refine s_letV (iI 1) (fun J hJ => ?_) ?_
    · simp (disch := omega) only [lm1_, lm2_, lm3_, lm9_, lm10_, lm999_, lm1000_, l0_, l1_, l2_, l3_, l4_, l5_, l6_, l7_, l8_, l9_, l10_, l11_, l12_, l13_, l23_, l24_, l30_, l31_, l33_, l35_, l41_, l42_, l45_, l48_, l57_, l58_, l59_, l60_, l64_, l96_, l99_, l100_, l101_, l126_, l168_, l808_, l909_, l900_, l20_, l1440_, l2003_, l15486209_, l2147483647_, l999_, l1439_, iI_add, iI_sub, iI_mul, iI_neg, iI_rem, iI_lt, iI_le, iI_eq, vp_iI, cl_iI, Int.toNat_natCast]
      rw [if_neg (by omega)]
      exact hJ
    rw [kb_1 c1, kb_1 c2] at h1 h0
    rw [if_pos rfl, if_neg (by decide)]
    simp (disch := omega) only [lm1_, lm2_, lm3_, lm9_, lm10_, lm999_, lm1000_, l0_, l1_, l2_, l3_, l4_, l5_, l6_, l7_, l8_, l9_, l10_, l11_, l12_, l13_, l23_, l24_, l30_, l31_, l33_, l35_, l41_, l42_, l45_, l48_, l57_, l58_, l59_, l60_, l64_, l96_, l99_, l100_, l101_, l126_, l168_, l808_, l909_, l900_, l20_, l1440_, l2003_, l15486209_, l2147483647_, l999_, l1439_, iI_add, iI_sub, iI_mul, iI_neg, iI_rem, iI_lt, iI_le, iI_eq, vp_iI, cl_iI, Int.toNat_natCast]
    refine s_if (fun q => ?_) (fun q => ?_)
    · rw [if_pos (by omega), if_pos (by omega)] at h0
      exact h0 (by omega)
    · have hw0 : w ≠ 0 := by omega
      rw [if_neg hw0, if_neg hw0] at h1 h0
      obtain ⟨m1, m2, m3⟩ := hM e he1 hw0
      obtain ⟨n1, n2, n3⟩ := hM o ho1 hw0
      refine s_ldRN (by omega) (by decide) (s_ldA (by omega) (by omega) (by decide) ?_)
      refine s_ldRN (by omega) (by decide) (s_ldA (by omega) (by omega) (by decide) ?_)
      rw [show ((w : Int) - 1).toNat = w - 1 by omega, m1, n1]
      simp (disch := omega) only [lm1_, lm2_, lm3_, lm9_, lm10_, lm999_, lm1000_, l0_, l1_, l2_, l3_, l4_, l5_, l6_, l7_, l8_, l9_, l10_, l11_, l12_, l13_, l23_, l24_, l30_, l31_, l33_, l35_, l41_, l42_, l45_, l48_, l57_, l58_, l59_, l60_, l64_, l96_, l99_, l100_, l101_, l126_, l168_, l808_, l909_, l900_, l20_, l1440_, l2003_, l15486209_, l2147483647_, l999_, l1439_, iI_add, iI_sub, iI_mul, iI_neg, iI_rem, iI_lt, iI_le, iI_eq, vp_iI, cl_iI, Int.toNat_natCast]
      exact s_if (fun q => h0 (by omega)) (fun q => h1 (by omega))
  · refine s_letV (iI 1) (fun J hJ => ?_) ?_
    · simp (disch := omega) only [lm1_, lm2_, lm3_, lm9_, lm10_, lm999_, lm1000_, l0_, l1_, l2_, l3_, l4_, l5_, l6_, l7_, l8_, l9_, l10_, l11_, l12_, l13_, l23_, l24_, l30_, l31_, l33_, l35_, l41_, l42_, l45_, l48_, l57_, l58_, l59_, l60_, l64_, l96_, l99_, l100_, l101_, l126_, l168_, l808_, l909_, l900_, l20_, l1440_, l2003_, l15486209_, l2147483647_, l999_, l1439_, iI_add, iI_sub, iI_mul, iI_neg, iI_rem, iI_lt, iI_le, iI_eq, vp_iI, cl_iI, Int.toNat_natCast]
      rw [if_neg (by omega)]
      exact hJ
    refine s_ldN (by omega) (by decide) (s_X0_firstOfWeek hW hO (by omega) (by omega) ?_)
    rw [po1]
    refine s_letV (iI 0) (fun J hJ => ?_) ?_
    · simp (disch := omega) only [lm1_, lm2_, lm3_, lm9_, lm10_, lm999_, lm1000_, l0_, l1_, l2_, l3_, l4_, l5_, l6_, l7_, l8_, l9_, l10_, l11_, l12_, l13_, l23_, l24_, l30_, l31_, l33_, l35_, l41_, l42_, l45_, l48_, l57_, l58_, l59_, l60_, l64_, l96_, l99_, l100_, l101_, l126_, l168_, l808_, l909_, l900_, l20_, l1440_, l2003_, l15486209_, l2147483647_, l999_, l1439_, iI_add, iI_sub, iI_mul, iI_neg, iI_rem, iI_lt, iI_le, iI_eq, vp_iI, cl_iI, Int.toNat_natCast]
      rw [if_pos (by omega)]
      exact hJ
    rw [kb_1 c1, kb_2 c2] at h1
    rw [if_neg (by decide)]
    refine ⟨bz1, h1 ?_⟩
    by_cases hw0 : w = 0
    · rw [if_pos hw0]
      omega
    · rw [if_neg hw0]
      have := hL e he c1 hw0
      omega
  · refine s_letV (iI 0) (fun J hJ => ?_) ?_
    · simp (disch := omega) only [lm1_, lm2_, lm3_, lm9_, lm10_, lm999_, lm1000_, l0_, l1_, l2_, l3_, l4_, l5_, l6_, l7_, l8_, l9_, l10_, l11_, l12_, l13_, l23_, l24_, l30_, l31_, l33_, l35_, l41_, l42_, l45_, l48_, l57_, l58_, l59_, l60_, l64_, l96_, l99_, l100_, l101_, l126_, l168_, l808_, l909_, l900_, l20_, l1440_, l2003_, l15486209_, l2147483647_, l999_, l1439_, iI_add, iI_sub, iI_mul, iI_neg, iI_rem, iI_lt, iI_le, iI_eq, vp_iI, cl_iI, Int.toNat_natCast]
      rw [if_pos (by omega)]
      exact hJ
    refine s_ldN (by omega) (by decide) (s_X0_firstOfWeek hW hO (by omega) (by omega) ?_)
    rw [po1]
    refine s_letV (iI 1) (fun J hJ => ?_) ?_
    · simp (disch := omega) only [lm1_, lm2_, lm3_, lm9_, lm10_, lm999_, lm1000_, l0_, l1_, l2_, l3_, l4_, l5_, l6_, l7_, l8_, l9_, l10_, l11_, l12_, l13_, l23_, l24_, l30_, l31_, l33_, l35_, l41_, l42_, l45_, l48_, l57_, l58_, l59_, l60_, l64_, l96_, l99_, l100_, l101_, l126_, l168_, l808_, l909_, l900_, l20_, l1440_, l2003_, l15486209_, l2147483647_, l999_, l1439_, iI_add, iI_sub, iI_mul, iI_neg, iI_rem, iI_lt, iI_le, iI_eq, vp_iI, cl_iI, Int.toNat_natCast]
      rw [if_neg (by omega)]
      exact hJ
    rw [kb_2 c1, kb_1 c2] at h0
    rw [if_neg (by decide)]
    refine ⟨bz0, h0 ?_⟩
    by_cases hw0 : w = 0
    · rw [if_pos hw0]
      omega
    · rw [if_neg hw0]
      have := hL o ho c2 hw0
      omega
  · refine s_letV (iI 0) (fun J hJ => ?_) ?_
    · simp (disch := omega) only [lm1_, lm2_, lm3_, lm9_, lm10_, lm999_, lm1000_, l0_, l1_, l2_, l3_, l4_, l5_, l6_, l7_, l8_, l9_, l10_, l11_, l12_, l13_, l23_, l24_, l30_, l31_, l33_, l35_, l41_, l42_, l45_, l48_, l57_, l58_, l59_, l60_, l64_, l96_, l99_, l100_, l101_, l126_, l168_, l808_, l909_, l900_, l20_, l1440_, l2003_, l15486209_, l2147483647_, l999_, l1439_, iI_add, iI_sub, iI_mul, iI_neg, iI_rem, iI_lt, iI_le, iI_eq, vp_iI, cl_iI, Int.toNat_natCast]
      rw [if_pos (by omega)]
      exact hJ
    refine s_ldN (by omega) (by decide) (s_X0_firstOfWeek hW hO (by omega) (by omega) ?_)
    rw [po1]
    refine s_letV (iI 0) (fun J hJ => ?_) ?_
    · simp (disch := omega) only [lm1_, lm2_, lm3_, lm9_, lm10_, lm999_, lm1000_, l0_, l1_, l2_, l3_, l4_, l5_, l6_, l7_, l8_, l9_, l10_, l11_, l12_, l13_, l23_, l24_, l30_, l31_, l33_, l35_, l41_, l42_, l45_, l48_, l57_, l58_, l59_, l60_, l64_, l96_, l99_, l100_, l101_, l126_, l168_, l808_, l909_, l900_, l20_, l1440_, l2003_, l15486209_, l2147483647_, l999_, l1439_, iI_add, iI_sub, iI_mul, iI_neg, iI_rem, iI_lt, iI_le, iI_eq, vp_iI, cl_iI, Int.toNat_natCast]
      rw [if_pos (by omega)]
      exact hJ
    rw [kb_2 c1, kb_2 c2] at h1 h0
    rw [if_pos rfl, if_pos (by decide)]
    refine s_ldN (by omega) (by decide) (s_ldN (by omega) (by decide) ?_)
    rw [pe1, po1]
    refine s_if (fun q => ?_) (fun q => ?_)
    · have q := (iI_eq (by omega) (by omega) (by omega) (by omega)).mp q
      refine s_ldN (by omega) (by decide) (s_ldN (by omega) (by decide) ?_)
      rw [pe2, po2]
      refine s_if (fun q2 => ?_) (fun q2 => ?_)
      · have q2 := (iI_eq (by omega) (by omega) (by omega) (by omega)).mp q2
        refine s_ldN (by omega) (by decide) (s_ldN (by omega) (by decide) ?_)
        rw [pe4, po4]
        simp (disch := omega) only [lm1_, lm2_, lm3_, lm9_, lm10_, lm999_, lm1000_, l0_, l1_, l2_, l3_, l4_, l5_, l6_, l7_, l8_, l9_, l10_, l11_, l12_, l13_, l23_, l24_, l30_, l31_, l33_, l35_, l41_, l42_, l45_, l48_, l57_, l58_, l59_, l60_, l64_, l96_, l99_, l100_, l101_, l126_, l168_, l808_, l909_, l900_, l20_, l1440_, l2003_, l15486209_, l2147483647_, l999_, l1439_, iI_add, iI_sub, iI_mul, iI_neg, iI_rem, iI_lt, iI_le, iI_eq, vp_iI, cl_iI, Int.toNat_natCast]
        exact s_if (fun q3 => h0 (by omega)) (fun q3 => h1 (by omega))
      · have q2 : ¬ A 2 e = A 2 o := fun z => q2 (by rw [z])
        refine s_ldN (by omega) (by decide) (s_ldN (by omega) (by decide) ?_)
        rw [pe2, po2]
        simp (disch := omega) only [lm1_, lm2_, lm3_, lm9_, lm10_, lm999_, lm1000_, l0_, l1_, l2_, l3_, l4_, l5_, l6_, l7_, l8_, l9_, l10_, l11_, l12_, l13_, l23_, l24_, l30_, l31_, l33_, l35_, l41_, l42_, l45_, l48_, l57_, l58_, l59_, l60_, l64_, l96_, l99_, l100_, l101_, l126_, l168_, l808_, l909_, l900_, l20_, l1440_, l2003_, l15486209_, l2147483647_, l999_, l1439_, iI_add, iI_sub, iI_mul, iI_neg, iI_rem, iI_lt, iI_le, iI_eq, vp_iI, cl_iI, Int.toNat_natCast]
        exact s_if (fun q3 => h0 (by omega)) (fun q3 => h1 (by omega))
    · have q : ¬ A 1 e = A 1 o := fun z => q (by rw [z])
      refine s_ldN (by omega) (by decide) (s_ldN (by omega) (by decide) ?_)
      rw [pe1, po1]
      simp (disch := omega) only [lm1_, lm2_, lm3_, lm9_, lm10_, lm999_, lm1000_, l0_, l1_, l2_, l3_, l4_, l5_, l6_, l7_, l8_, l9_, l10_, l11_, l12_, l13_, l23_, l24_, l30_, l31_, l33_, l35_, l41_, l42_, l45_, l48_, l57_, l58_, l59_, l60_, l64_, l96_, l99_, l100_, l101_, l126_, l168_, l808_, l909_, l900_, l20_, l1440_, l2003_, l15486209_, l2147483647_, l999_, l1439_, iI_add, iI_sub, iI_mul, iI_neg, iI_rem, iI_lt, iI_le, iI_eq, vp_iI, cl_iI, Int.toNat_natCast]
      exact s_if (fun q3 => h0 (by omega)) (fun q3 => h1 (by omega))
theorem s_X0_isStackedBefore {Q : Int32 → Mm → Prop} (hP : Pl M p A) (hO : Ok A) {e o : Nat} (he : (e : Int) < A 0 4) (hoe : o < e) (h1 : ks A e < ks A o → Q (iI 1) M) (h0 : ¬ ks A e < ks A o → Q (iI 0) M) : w_X0_isStackedBefore p M (iI e) (iI o) Q := by
  have ob := hO.b
  have oe := hO.e he
  have oo := hO.e (e := o) (by omega)
  obtain ⟨pe1, pe2, pe3, pe4⟩ := hP.2 e he
  obtain ⟨po1, po2, po3, po4⟩ := hP.2 o (by omega)
  unfold ks at h1 h0
  unfold w_X0_isStackedBefore
  refine s_ldN (by omega) (by decide) (s_ldN (by omega) (by decide) ?_)
  rw [pe4, po4]
  refine s_if (fun q => ?_) (fun q => ?_)
  · have q := (iI_eq (by omega) (by omega) (by omega) (by omega)).mp q
    refine s_ldN (by omega) (by decide) (s_ldN (by omega) (by decide) ?_)
    rw [pe3, po3]
    simp (disch := omega) only [lm1_, lm2_, lm3_, lm9_, lm10_, lm999_, lm1000_, l0_, l1_, l2_, l3_, l4_, l5_, l6_, l7_, l8_, l9_, l10_, l11_, l12_, l13_, l23_, l24_, l30_, l31_, l33_, l35_, l41_, l42_, l45_, l48_, l57_, l58_, l59_, l60_, l64_, l96_, l99_, l100_, l101_, l126_, l168_, l808_, l909_, l900_, l20_, l1440_, l2003_, l15486209_, l2147483647_, l999_, l1439_, iI_add, iI_sub, iI_mul, iI_neg, iI_rem, iI_lt, iI_le, iI_eq, vp_iI, cl_iI, Int.toNat_natCast]
    exact s_if (fun q3 => h0 (by omega)) (fun q3 => h1 (by omega))
  · have q : ¬ A 4 e = A 4 o := fun z => q (by rw [z])
    refine s_ldN (by omega) (by decide) (s_ldN (by omega) (by decide) ?_)
    rw [pe4, po4]
    simp (disch := omega) only [lm1_, lm2_, lm3_, lm9_, lm10_, lm999_, lm1000_, l0_, l1_, l2_, l3_, l4_, l5_, l6_, l7_, l8_, l9_, l10_, l11_, l12_, l13_, l23_, l24_, l30_, l31_, l33_, l35_, l41_, l42_, l45_, l48_, l57_, l58_, l59_, l60_, l64_, l96_, l99_, l100_, l101_, l126_, l168_, l808_, l909_, l900_, l20_, l1440_, l2003_, l15486209_, l2147483647_, l999_, l1439_, iI_add, iI_sub, iI_mul, iI_neg, iI_rem, iI_lt, iI_le, iI_eq, vp_iI, cl_iI, Int.toNat_natCast]
    exact s_if (fun q3 => h0 (by omega)) (fun q3 => h1 (by omega))
end BARS
