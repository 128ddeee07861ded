/-! what the queries answer -/
def vEntry (A : Ab) (L : Nat → Nat → Int) (R : Nat → Int) (e : Nat) (b : Int) : Int := if b = 0 then A 1 e else if b = 1 then A 2 e else if b = 2 then A 3 e else if b = 3 then A 4 e else if b = 4 then (if lng A e then 1 else 0) else if b = 5 then max 0 (min (A 2 e) (A 0 1) - max (A 1 e) (A 0 0) + 1) else if b = 6 then (hdd A L R e (A 0 1 - A 0 0 + 1).toNat : Nat) else (bre L e : Nat)
def vBar (A : Ab) (L : Nat → Nat → Int) (e : Nat) (w b : Int) : Int := if nW A ≤ w then -9 else if L e w.toNat = -9 then -9 else if b = 0 then L e w.toNat else if b = 1 then max (A 1 e) (wS A w) else if b = 2 then min (A 2 e) (wL A w) else if b = 3 then (if A 1 e < wS A w then 1 else 0) else (if wL A w < A 2 e then 1 else 0)
def vShown (A : Ab) (L : Nat → Nat → Int) (R : Nat → Int) (D r : Int) : Int := if A 0 3 ≤ r then -9 else if A 0 3 < ned A L R D (A 0 4).toNat ∧ r = A 0 3 - 1 then -10 - (hidD A L R D (A 0 3) : Nat) else inRow A L R D r
def vDay (A : Ab) (L : Nat → Nat → Int) (R : Nat → Int) (D b : Int) : Int := if b = 0 then wk A D else if b = 1 then D % 7 else if b = 2 then (lgd A D (A 0 4).toNat : Nat) else if b = 3 then (shn A D D (A 0 4).toNat : Nat) else if b = 4 then (hidD A L R D (A 0 3) : Nat) else ned A L R D (A 0 4).toNat
def vWeek (A : Ab) (L : Nat → Nat → Int) (R : Nat → Int) (w b : Int) : Int := if b = 0 then wS A w else if b = 1 then wL A w else if b = 2 then (brw A L w.toNat : Nat) else if b = 3 then lns L w.toNat (A 0 4).toNat else if b = 4 then (shn A (wS A w) (wL A w) (A 0 4).toNat : Nat) else (hidS A L R (A 0 3) (wS A w) (wL A w + 1 - wS A w).toNat : Nat)
def vTold (A : Ab) (L : Nat → Nat → Int) (R : Nat → Int) (tl n : Nat) (b : Int) : Int := if b = 0 then A 0 0 else if b = 1 then A 0 1 else if b = 2 then A 0 2 else if b = 3 then A 0 3 else if b = 4 then nW A else if b = 5 then A 0 4 else if b = 6 then (lgn A (A 0 4).toNat : Nat) else if b = 7 then (prn A (A 0 4).toNat : Nat) else if b = 8 then (brp A L : Nat) else if b = 9 then (hidP A L R (A 0 3) : Nat) else if b = 10 then (tl : Int) else if b = 11 then (n : Int) else -1
section CA
variable {M : Mm} {A : Ab} {L : Nat → Nat → Int} {R : Nat → Int} {D : Int} {Q : Int32 → Mm → Prop}
theorem s_X4_isOnPage (hP : Pl M 0 A) (hO : Ok A) {a : Int} (ha : i32 a) (h1 : A 0 0 ≤ a ∧ a ≤ A 0 1 → Q (iI 1) M) (h0 : ¬ (A 0 0 ≤ a ∧ a ≤ A 0 1) → Q (iI 0) M) : w_X4_isOnPage M (iI a) Q := by
  have ob := hO.b
  unfold w_X4_isOnPage
  rw [hP.1 0 (by decide), hP.1 1 (by decide)]
  exact s_X4_isWithin ha (by omega) (by omega) h1 h0
theorem s_X4_as1 (h : Q (iI 1) M) : w_X4_asNumber M (iI 1) Q := by
  unfold w_X4_asNumber
  simp only [lm1_, lm2_, lm3_, lm9_, lm10_, lm999_, lm1000_, l0_, l1_, l2_, l3_, l4_, l5_, l6_, l7_, l8_, l9_, l10_, l11_, l12_, l13_, l23_, l24_, l30_, l31_, l33_, l35_, l41_, l42_, l45_, l48_, l57_, l58_, l59_, l60_, l64_, l96_, l99_, l100_, l101_, l126_, l168_, l808_, l909_, l900_, l20_, l1440_, l2003_, l15486209_, l2147483647_, l999_, l1439_, iI_add, iI_sub, iI_mul, iI_neg]
  exact z1 h
theorem s_X4_as0 (h : Q (iI 0) M) : w_X4_asNumber M (iI 0) Q := by
  unfold w_X4_asNumber
  exact z0 h
theorem s_X4_entry (hP : Pl M 0 A) (hO : Ok A) (hL : Laid M 0 A L R) {a b : Int} (ha : i32 a) (hb : i32 b) (h1 : ∀ e : Nat, a = e → (e : Int) < A 0 4 → 0 ≤ b ∧ b ≤ 7 → Q (iI (vEntry A L R e b)) M) (h0 : ¬ ((0 ≤ a ∧ a < A 0 4) ∧ 0 ≤ b ∧ b ≤ 7) → Q (iI (-1)) M) : w_X4_entry M (iI a) (iI b) Q := by
  have ob := hO.b
  unfold w_X4_entry
  simp only [lm1_, lm2_, lm3_, lm9_, lm10_, lm999_, lm1000_, l0_, l1_, l2_, l3_, l4_, l5_, l6_, l7_, l8_, l9_, l10_, l11_, l12_, l13_, l23_, l24_, l30_, l31_, l33_, l35_, l41_, l42_, l45_, l48_, l57_, l58_, l59_, l60_, l64_, l96_, l99_, l100_, l101_, l126_, l168_, l808_, l909_, l900_, l20_, l1440_, l2003_, l15486209_, l2147483647_, l999_, l1439_, iI_add, iI_sub, iI_mul, iI_neg]
  refine s_X4_isEntry hP hO ha (fun c1 => z1 ?_) (fun c1 => z0 (h0 (fun z => c1 z.1)))
  obtain ⟨e, rfl⟩ : ∃ e : Nat, a = e := ⟨a.toNat, by omega⟩
  have he := c1.2
  obtain ⟨p1, p2, p3, p4⟩ := hP.2 e he
  refine s_if (fun q => ?_) (fun q0 => s_if (fun q => ?_) (fun q1 => s_if (fun q => ?_) (fun q2 => s_if (fun q => ?_) (fun q3 => s_if (fun q => ?_) (fun q4 => s_if (fun q => ?_) (fun q5 => s_if (fun q => ?_) (fun q6 => s_if (fun q => ?_) (fun q7 => ?_))))))))
  · obtain rfl : b = 0 := (iI_eq (by omega) (by omega) (by omega) (by omega)).mp q
    refine s_ldN (by omega) (by decide) ?_
    rw [p1]
    exact h1 e rfl he (by omega)
  · obtain rfl : b = 1 := (iI_eq (by omega) (by omega) (by omega) (by omega)).mp q
    refine s_ldN (by omega) (by decide) ?_
    rw [p2]
    exact h1 e rfl he (by omega)
  · obtain rfl : b = 2 := (iI_eq (by omega) (by omega) (by omega) (by omega)).mp q
    refine s_ldN (by omega) (by decide) ?_
    rw [p3]
    exact h1 e rfl he (by omega)
  · obtain rfl : b = 3 := (iI_eq (by omega) (by omega) (by omega) (by omega)).mp q
    refine s_ldN (by omega) (by decide) ?_
    rw [p4]
    exact h1 e rfl he (by omega)
  · obtain rfl : b = 4 := (iI_eq (by omega) (by omega) (by omega) (by omega)).mp q
    have h1 : Q (iI (if lng A e then 1 else 0)) M := h1 e rfl he (by omega)
    refine s_X2_isLong hP hO he (fun c => s_X4_as1 ?_) (fun c => s_X4_as0 ?_)
    · rw [if_pos c] at h1
      exact h1
    · rw [if_neg c] at h1
      exact h1
  · obtain rfl : b = 5 := (iI_eq (by omega) (by omega) (by omega) (by omega)).mp q
    exact s_X2_daysOnPage hP hO he (h1 e rfl he (by omega))
  · obtain rfl : b = 6 := (iI_eq (by omega) (by omega) (by omega) (by omega)).mp q
    exact s_X0_daysHidden hP hO hL he (h1 e rfl he (by omega))
  · obtain rfl : b = 7 := (iI_eq (by omega) (by omega) (by omega) (by omega)).mp q
    exact s_X0_barsOfEntry hP hO hL he (h1 e rfl he (by omega))
  · refine h0 (fun z => ?_)
    rcases (show b = 0 ∨ b = 1 ∨ b = 2 ∨ b = 3 ∨ b = 4 ∨ b = 5 ∨ b = 6 ∨ b = 7 by omega) with rfl | rfl | rfl | rfl | rfl | rfl | rfl | rfl
    · exact q0 rfl
    · exact q1 rfl
    · exact q2 rfl
    · exact q3 rfl
    · exact q4 rfl
    · exact q5 rfl
    · exact q6 rfl
    · exact q7 rfl
theorem s_X4_bar (hP : Pl M 0 A) (hO : Ok A) (hL : Laid M 0 A L R) {a w b : Int} (ha : i32 a) (hw : i32 w) (hb : i32 b) (h1 : ∀ e : Nat, a = e → (e : Int) < A 0 4 → 0 ≤ w → 0 ≤ b ∧ b ≤ 4 → Q (iI (vBar A L e w b)) M) (h0 : ¬ ((0 ≤ a ∧ a < A 0 4) ∧ 0 ≤ w ∧ 0 ≤ b ∧ b ≤ 4) → Q (iI (-1)) M) : w_X4_bar M (iI a) (iI w) (iI b) Q := by
  have ob := hO.b
  have hn := nW_b hO
  obtain ⟨gW, gL, gR, gLb, gRb, gLm, g8, gT⟩ := hL
  unfold w_X4_bar
  simp only [lm1_, lm2_, lm3_, lm9_, lm10_, lm999_, lm1000_, l0_, l1_, l2_, l3_, l4_, l5_, l6_, l7_, l8_, l9_, l10_, l11_, l12_, l13_, l23_, l24_, l30_, l31_, l33_, l35_, l41_, l42_, l45_, l48_, l57_, l58_, l59_, l60_, l64_, l96_, l99_, l100_, l101_, l126_, l168_, l808_, l909_, l900_, l20_, l1440_, l2003_, l15486209_, l2147483647_, l999_, l1439_, iI_add, iI_sub, iI_mul, iI_neg]
  refine s_X4_isEntry hP hO ha (fun c1 => z1 ?_) (fun c1 => z0 (h0 (fun z => c1 z.1)))
  obtain ⟨e, rfl⟩ : ∃ e : Nat, a = e := ⟨a.toNat, by omega⟩
  have he := c1.2
  have oe := hO.e he
  obtain ⟨p1, p2, p3, p4⟩ := hP.2 e he
  refine s_if (fun q => ?_) (fun q => ?_)
  · have q := (iI_lt (by omega) (by omega) (by omega) (by omega)).mp q
    exact h0 (fun z => by omega)
  have q : ¬ w < 0 := fun z => q ((iI_lt (by omega) (by omega) (by omega) (by omega)).mpr z)
  refine s_X4_isWithin hb (by omega) (by omega) (fun c2 => z1 ?_) (fun c2 => z0 (h0 (fun z => c2 z.2.2)))
  have h1 := h1 e rfl he (by omega) c2
  rw [vBar] at h1
  rw [gW.1]
  refine s_if (fun q2 => ?_) (fun q2 => ?_)
  · have q2 := (iI_le (by omega) (by omega) (by omega) (by omega)).mp q2
    rw [if_pos q2] at h1
    exact h1
  have q2 : ¬ nW A ≤ w := fun z => q2 ((iI_le (by omega) (by omega) (by omega) (by omega)).mpr z)
  rw [if_neg q2] at h1
  have hwb := wS_b hO (w := w) (by omega) (by omega)
  have hwb2 := wS_b hO (w := w + 1) (by omega) (by omega)
  have hwl : wL A w = wS A (w + 1) - 1 := rfl
  have hlb := gLb e w.toNat
  refine s_ldRN (by omega) (by decide) (s_ldA (by omega) (by omega) (by decide) ?_)
  have e20 : M 12 (24 * 0 + e) w.toNat = iI (L e w.toNat) := gLm e w.toNat (by omega) (by omega)
  rw [e20]
  refine s_if (fun q3 => ?_) (fun q3 => ?_)
  · have q3 := (iI_eq (by omega) (by omega) (by omega) (by omega)).mp q3
    rw [if_pos q3] at h1
    exact h1
  have q3 : ¬ L e w.toNat = -9 := fun z => q3 (by rw [z])
  rw [if_neg q3] at h1
  refine s_X0_firstOfWeek gW hO (by omega) (by omega) (s_X0_lastOfWeek gW hO (by omega) (by omega) ?_)
  refine s_if (fun q => ?_) (fun q0 => s_if (fun q => ?_) (fun q1 => s_if (fun q => ?_) (fun q2 => s_if (fun q => ?_) (fun q3 => ?_))))
  · obtain rfl : b = 0 := (iI_eq (by omega) (by omega) (by omega) (by omega)).mp q
    refine s_ldRN (by omega) (by decide) (s_ldA (by omega) (by omega) (by decide) ?_)
    rw [e20]
    exact h1
  · obtain rfl : b = 1 := (iI_eq (by omega) (by omega) (by omega) (by omega)).mp q
    refine s_ldN (by omega) (by decide) ?_
    rw [p1]
    have h1 : Q (iI (max (A 1 e) (wS A w))) M := h1
    by_cases c : A 1 e < wS A w
    · rw [if_pos ((iI_lt (by omega) (by omega) (by omega) (by omega)).mpr c)]
      rw [show max (A 1 e) (wS A w) = wS A w by omega] at h1
      exact h1
    · rw [if_neg (fun z => c ((iI_lt (by omega) (by omega) (by omega) (by omega)).mp z))]
      rw [show max (A 1 e) (wS A w) = A 1 e by omega] at h1
      exact h1
  · obtain rfl : b = 2 := (iI_eq (by omega) (by omega) (by omega) (by omega)).mp q
    refine s_ldN (by omega) (by decide) ?_
    rw [p2]
    have h1 : Q (iI (min (A 2 e) (wL A w))) M := h1
    by_cases c : wL A w < A 2 e
    · rw [if_pos ((iI_lt (by omega) (by omega) (by omega) (by omega)).mpr c)]
      rw [show min (A 2 e) (wL A w) = wL A w by omega] at h1
      exact h1
    · rw [if_neg (fun z => c ((iI_lt (by omega) (by omega) (by omega) (by omega)).mp z))]
      rw [show min (A 2 e) (wL A w) = A 2 e by omega] at h1
      exact h1
  · obtain rfl : b = 3 := (iI_eq (by omega) (by omega) (by omega) (by omega)).mp q
    refine s_ldN (by omega) (by decide) ?_
    rw [p1]
    have h1 : Q (iI (if A 1 e < wS A w then 1 else 0)) M := h1
    by_cases c : A 1 e < wS A w
    · rw [if_pos c] at h1
      refine s_letV (iI 1) (fun J hJ => ?_) (s_X4_as1 h1)
      rw [if_neg (fun z => by have := (iI_le (by omega) (by omega) (by omega) (by omega)).mp z; omega)]
      exact hJ
    · rw [if_neg c] at h1
      refine s_letV (iI 0) (fun J hJ => ?_) (s_X4_as0 h1)
      rw [if_pos ((iI_le (by omega) (by omega) (by omega) (by omega)).mpr (by omega))]
      exact hJ
  · have q0 : ¬ b = 0 := fun z => q0 (by rw [z])
    have q1 : ¬ b = 1 := fun z => q1 (by rw [z])
    have q2 : ¬ b = 2 := fun z => q2 (by rw [z])
    have q3 : ¬ b = 3 := fun z => q3 (by rw [z])
    obtain rfl : b = 4 := by omega
    refine s_ldN (by omega) (by decide) ?_
    rw [p2]
    have h1 : Q (iI (if wL A w < A 2 e then 1 else 0)) M := h1
    by_cases c : wL A w < A 2 e
    · rw [if_pos c] at h1
      refine s_letV (iI 1) (fun J hJ => ?_) (s_X4_as1 h1)
      rw [if_neg (fun z => by have := (iI_le (by omega) (by omega) (by omega) (by omega)).mp z; omega)]
      exact hJ
    · rw [if_neg c] at h1
      refine s_letV (iI 0) (fun J hJ => ?_) (s_X4_as0 h1)
      rw [if_pos ((iI_le (by omega) (by omega) (by omega) (by omega)).mpr (by omega))]
      exact hJ
theorem hidD_le {r : Int} : hidD A L R D r ≤ (A 0 4).toNat := cntP_le _ _
theorem s_X4_shown (hP : Pl M 0 A) (hO : Ok A) (hL : Laid M 0 A L R) {r : Int} (hD : i32 D) (hr : i32 r) (h1 : A 0 0 ≤ D ∧ D ≤ A 0 1 → 0 ≤ r ∧ r ≤ 11 → Q (iI (vShown A L R D r)) M) (h0 : ¬ ((A 0 0 ≤ D ∧ D ≤ A 0 1) ∧ 0 ≤ r ∧ r ≤ 11) → Q (iI (-1)) M) : w_X4_shown M (iI D) (iI r) Q := by
  have ob := hO.b
  unfold w_X4_shown
  simp only [lm1_, lm2_, lm3_, lm9_, lm10_, lm999_, lm1000_, l0_, l1_, l2_, l3_, l4_, l5_, l6_, l7_, l8_, l9_, l10_, l11_, l12_, l13_, l23_, l24_, l30_, l31_, l33_, l35_, l41_, l42_, l45_, l48_, l57_, l58_, l59_, l60_, l64_, l96_, l99_, l100_, l101_, l126_, l168_, l808_, l909_, l900_, l20_, l1440_, l2003_, l15486209_, l2147483647_, l999_, l1439_, iI_add, iI_sub, iI_mul, iI_neg]
  refine s_X4_isOnPage hP hO hD (fun c1 => z1 (s_X4_isWithin hr (by omega) (by omega) (fun c2 => z1 ?_) (fun c2 => z0 (h0 (fun z => c2 z.2))))) (fun c1 => z0 (h0 (fun z => c1 z.1)))
  have h1 := h1 c1 c2
  rw [vShown] at h1
  rw [hP.1 3 (by decide)]
  refine s_bI ?_
  refine s_if (fun q => ?_) (fun q => ?_)
  · have q := (iI_lt (by omega) (by omega) (by omega) (by omega)).mp q
    rw [if_neg (by omega)] at h1
    refine s_X0_hiddenOnDay hP hO hL c1.1 c1.2 (by omega) ?_
    have hle := hidD_le (A := A) (L := L) (R := R) (D := D) (r := A 0 3)
    by_cases c : A 0 3 < ned A L R D (A 0 4).toNat ∧ r = A 0 3 - 1
    · rw [if_pos c] at h1
      have hp := hidD_gt (A := A) (L := L) (R := R) (D := D) (r := A 0 3) (by omega) c.1
      refine s_letJ (fun _ => False) (fun J hJ => ?_) (fun _ z => z.elim)
      rw [if_neg (fun z => by have := (iI_le (by omega) (by omega) (by omega) (by omega)).mp z; omega), if_pos (by rw [iI_sub, c.2]), iI_sub]
      exact h1
    · rw [if_neg c] at h1
      refine s_letV () (fun J hJ => ?_) (s_X0_entryInRow hP hO hL c1.1 c1.2 (by omega) h1)
      refine s_if (fun _ => hJ) (fun q2 => ?_)
      have q2 : ¬ (hidD A L R D (A 0 3) : Int) ≤ 0 := fun z => q2 ((iI_le (by omega) (by omega) (by omega) (by omega)).mpr z)
      have hp := (hidD_pos (A := A) (L := L) (R := R) (D := D) (r := A 0 3)).mp (by omega)
      rw [iI_sub]
      rw [if_neg (fun z => c ⟨hp.1, (iI_eq (by omega) (by omega) (by omega) (by omega)).mp z⟩)]
      exact hJ
  · have q : ¬ r < A 0 3 := fun z => q ((iI_lt (by omega) (by omega) (by omega) (by omega)).mpr z)
    rw [if_pos (by omega)] at h1
    exact h1
theorem s_X4_rowOf (hP : Pl M 0 A) (hO : Ok A) (hL : Laid M 0 A L R) {a : Int} (ha : i32 a) (hD : i32 D) (h1 : ∀ e : Nat, a = e → (e : Int) < A 0 4 → A 0 0 ≤ D ∧ D ≤ A 0 1 → Q (iI (rowD A L R e D)) M) (h0 : ¬ ((0 ≤ a ∧ a < A 0 4) ∧ A 0 0 ≤ D ∧ D ≤ A 0 1) → Q (iI (-1)) M) : w_X4_rowOf M (iI a) (iI D) Q := by
  unfold w_X4_rowOf
  simp only [lm1_, lm2_, lm3_, lm9_, lm10_, lm999_, lm1000_, l0_, l1_, l2_, l3_, l4_, l5_, l6_, l7_, l8_, l9_, l10_, l11_, l12_, l13_, l23_, l24_, l30_, l31_, l33_, l35_, l41_, l42_, l45_, l48_, l57_, l58_, l59_, l60_, l64_, l96_, l99_, l100_, l101_, l126_, l168_, l808_, l909_, l900_, l20_, l1440_, l2003_, l15486209_, l2147483647_, l999_, l1439_, iI_add, iI_sub, iI_mul, iI_neg]
  refine s_X4_isEntry hP hO ha (fun c1 => z1 (s_X4_isOnPage hP hO hD (fun c2 => z1 ?_) (fun c2 => z0 (h0 (fun z => c2 z.2))))) (fun c1 => z0 (h0 (fun z => c1 z.1)))
  obtain ⟨e, rfl⟩ : ∃ e : Nat, a = e := ⟨a.toNat, by omega⟩
  exact s_X0_rowOnDay hP hO hL c2.1 c2.2 c1.2 (h1 e rfl c1.2 c2)
theorem s_X4_day (hP : Pl M 0 A) (hO : Ok A) (hL : Laid M 0 A L R) {b : Int} (hD : i32 D) (hb : i32 b) (h1 : A 0 0 ≤ D ∧ D ≤ A 0 1 → 0 ≤ b ∧ b ≤ 5 → Q (iI (vDay A L R D b)) M) (h0 : ¬ ((A 0 0 ≤ D ∧ D ≤ A 0 1) ∧ 0 ≤ b ∧ b ≤ 5) → Q (iI (-1)) M) : w_X4_day M (iI D) (iI b) Q := by
  have ob := hO.b
  have gW := hL.1
  unfold w_X4_day
  simp only [lm1_, lm2_, lm3_, lm9_, lm10_, lm999_, lm1000_, l0_, l1_, l2_, l3_, l4_, l5_, l6_, l7_, l8_, l9_, l10_, l11_, l12_, l13_, l23_, l24_, l30_, l31_, l33_, l35_, l41_, l42_, l45_, l48_, l57_, l58_, l59_, l60_, l64_, l96_, l99_, l100_, l101_, l126_, l168_, l808_, l909_, l900_, l20_, l1440_, l2003_, l15486209_, l2147483647_, l999_, l1439_, iI_add, iI_sub, iI_mul, iI_neg]
  refine s_X4_isOnPage hP hO hD (fun c1 => z1 ?_) (fun c1 => z0 (h0 (fun z => c1 z.1)))
  have h1 := h1 c1
  refine s_if (fun q => ?_) (fun q0 => s_if (fun q => ?_) (fun q1 => s_if (fun q => ?_) (fun q2 => s_if (fun q => ?_) (fun q3 => s_if (fun q => ?_) (fun q4 => s_if (fun q => ?_) (fun q5 => ?_))))))
  · obtain rfl : b = 0 := (iI_eq (by omega) (by omega) (by omega) (by omega)).mp q
    exact s_X0_weekOfDay gW hO c1.1 c1.2 (h1 (by omega))
  · obtain rfl : b = 1 := (iI_eq (by omega) (by omega) (by omega) (by omega)).mp q
    rw [iI_rem (by omega) (by omega) (by omega) (by omega)]
    exact h1 (by omega)
  · obtain rfl : b = 2 := (iI_eq (by omega) (by omega) (by omega) (by omega)).mp q
    exact s_X2_longOnes hP hO hD (h1 (by omega))
  · obtain rfl : b = 3 := (iI_eq (by omega) (by omega) (by omega) (by omega)).mp q
    exact s_X2_shortOnes hP hO hD hD (h1 (by omega))
  · obtain rfl : b = 4 := (iI_eq (by omega) (by omega) (by omega) (by omega)).mp q
    rw [hP.1 3 (by decide)]
    exact s_X0_hiddenOnDay hP hO hL c1.1 c1.2 (by omega) (h1 (by omega))
  · obtain rfl : b = 5 := (iI_eq (by omega) (by omega) (by omega) (by omega)).mp q
    exact s_X0_rowsOnDay hP hO hL c1.1 c1.2 (h1 (by omega))
  · refine h0 (fun z => ?_)
    rcases (show b = 0 ∨ b = 1 ∨ b = 2 ∨ b = 3 ∨ b = 4 ∨ b = 5 by omega) with rfl | rfl | rfl | rfl | rfl | rfl
    · exact q0 rfl
    · exact q1 rfl
    · exact q2 rfl
    · exact q3 rfl
    · exact q4 rfl
    · exact q5 rfl
theorem s_X4_week (hP : Pl M 0 A) (hO : Ok A) (hL : Laid M 0 A L R) {w b : Int} (hw : i32 w) (hb : i32 b) (h1 : 0 ≤ w ∧ w < nW A → 0 ≤ b ∧ b ≤ 5 → Q (iI (vWeek A L R w b)) M) (h2 : nW A ≤ w → 0 ≤ b ∧ b ≤ 5 → Q (iI (-9)) M) (h0 : ¬ (0 ≤ w ∧ 0 ≤ b ∧ b ≤ 5) → Q (iI (-1)) M) : w_X4_week M (iI w) (iI b) Q := by
  have ob := hO.b
  have hn := nW_b hO
  have gW := hL.1
  unfold w_X4_week
  simp only [lm1_, lm2_, lm3_, lm9_, lm10_, lm999_, lm1000_, l0_, l1_, l2_, l3_, l4_, l5_, l6_, l7_, l8_, l9_, l10_, l11_, l12_, l13_, l23_, l24_, l30_, l31_, l33_, l35_, l41_, l42_, l45_, l48_, l57_, l58_, l59_, l60_, l64_, l96_, l99_, l100_, l101_, l126_, l168_, l808_, l909_, l900_, l20_, l1440_, l2003_, l15486209_, l2147483647_, l999_, l1439_, iI_add, iI_sub, iI_mul, iI_neg]
  refine s_if (fun q => ?_) (fun q => ?_)
  · have q := (iI_lt (by omega) (by omega) (by omega) (by omega)).mp q
    exact h0 (fun z => by omega)
  have q : ¬ w < 0 := fun z => q ((iI_lt (by omega) (by omega) (by omega) (by omega)).mpr z)
  refine s_X4_isWithin hb (by omega) (by omega) (fun c2 => z1 ?_) (fun c2 => z0 (h0 (fun z => c2 z.2)))
  rw [gW.1]
  refine s_if (fun q2 => ?_) (fun q2 => ?_)
  · have q2 := (iI_lt (by omega) (by omega) (by omega) (by omega)).mp q2
    have h1 := h1 (by omega) c2
    have hwb := wS_b hO (w := w) (by omega) (by omega)
    have hlt := wS_lt hO (w := w) (by omega) (by omega)
    have hwb2 := wS_b hO (w := w + 1) (by omega) (by omega)
    have hwl : wL A w = wS A (w + 1) - 1 := rfl
    refine s_X0_firstOfWeek gW hO (by omega) (by omega) (s_X0_lastOfWeek gW hO (by omega) (by omega) ?_)
    refine s_if (fun q => ?_) (fun q0 => s_if (fun q => ?_) (fun q1 => s_if (fun q => ?_) (fun q2 => s_if (fun q => ?_) (fun q3 => s_if (fun q => ?_) (fun q4 => ?_)))))
    · obtain rfl : b = 0 := (iI_eq (by omega) (by omega) (by omega) (by omega)).mp q
      exact h1
    · obtain rfl : b = 1 := (iI_eq (by omega) (by omega) (by omega) (by omega)).mp q
      exact h1
    · obtain rfl : b = 2 := (iI_eq (by omega) (by omega) (by omega) (by omega)).mp q
      rw [← Int.toNat_of_nonneg (show 0 ≤ w by omega)]
      exact s_X0_barsInWeek hP hO hL (by omega) h1
    · obtain rfl : b = 3 := (iI_eq (by omega) (by omega) (by omega) (by omega)).mp q
      rw [← Int.toNat_of_nonneg (show 0 ≤ w by omega)]
      exact s_X0_lanesInWeek hP hO hL (by omega) h1
    · obtain rfl : b = 4 := (iI_eq (by omega) (by omega) (by omega) (by omega)).mp q
      exact s_X2_shortOnes hP hO (by omega) (by omega) h1
    · have q0 : ¬ b = 0 := fun z => q0 (by rw [z])
      have q1 : ¬ b = 1 := fun z => q1 (by rw [z])
      have q2 : ¬ b = 2 := fun z => q2 (by rw [z])
      have q3 : ¬ b = 3 := fun z => q3 (by rw [z])
      have q4 : ¬ b = 4 := fun z => q4 (by rw [z])
      obtain rfl : b = 5 := by omega
      rw [hP.1 3 (by decide)]
      exact s_X0_hiddenOnDays hP hO hL (by omega) (by omega) (by omega) (by omega) h1
  · have q2 : ¬ w < nW A := fun z => q2 ((iI_lt (by omega) (by omega) (by omega) (by omega)).mpr z)
    exact h2 (by omega) c2
theorem s_X4_enough (hP : Pl M 0 A) (hO : Ok A) (hL : Laid M 0 A L R) (h : Q (iI (enq A L R (A 0 1 - A 0 0 + 1).toNat)) M) : w_X4_enough M Q := by
  have ob := hO.b
  have hLb := hL.2.2.2.1
  have hRb := hL.2.2.2.2.1
  unfold w_X4_enough
  rw [hP.1 0 (by decide)]
  refine s_bI (loop_up (fun k x => x = (iI (enq A L R k), iI (A 0 0 + k), M)) (A 0 1 - A 0 0 + 1).toNat ?_ ?_ (Nat.zero_le _) (by rw [show A 0 0 + ((0 : Nat) : Int) = A 0 0 by omega]; rfl))
  · rintro Rr k x hk rfl hR
    have hnb := ned_b (A := A) (D := A 0 0 + k) hLb hRb (A 0 4).toNat
    have heb := enq_b (A := A) hLb hRb k
    unfold w_X4_enough_L13
    dsimp only
    rw [hP.1 1 (by decide), if_neg (fun z => by have := (iI_lt (by omega) (by omega) (by omega) (by omega)).mp z; omega)]
    simp only [lm1_, lm2_, lm3_, lm9_, lm10_, lm999_, lm1000_, l0_, l1_, l2_, l3_, l4_, l5_, l6_, l7_, l8_, l9_, l10_, l11_, l12_, l13_, l23_, l24_, l30_, l31_, l33_, l35_, l41_, l42_, l45_, l48_, l57_, l58_, l59_, l60_, l64_, l96_, l99_, l100_, l101_, l126_, l168_, l808_, l909_, l900_, l20_, l1440_, l2003_, l15486209_, l2147483647_, l999_, l1439_, iI_add, iI_sub, iI_mul, iI_neg]
    refine s_X0_rowsOnDay hP hO hL (by omega) (by omega) ?_
    have e1 : (if iI (enq A L R k) < iI (ned A L R (A 0 0 + k) (A 0 4).toNat) then iI (ned A L R (A 0 0 + k) (A 0 4).toNat) else iI (enq A L R k)) = iI (enq A L R (k + 1)) := by
      show _ = iI (max (enq A L R k) (ned A L R (A 0 0 + k) (A 0 4).toNat))
      by_cases c : enq A L R k < ned A L R (A 0 0 + k) (A 0 4).toNat
      · rw [if_pos ((iI_lt (by omega) (by omega) (by omega) (by omega)).mpr c), show max (enq A L R k) (ned A L R (A 0 0 + k) (A 0 4).toNat) = ned A L R (A 0 0 + k) (A 0 4).toNat by omega]
      · rw [if_neg (fun z => c ((iI_lt (by omega) (by omega) (by omega) (by omega)).mp z)), show max (enq A L R k) (ned A L R (A 0 0 + k) (A 0 4).toNat) = enq A L R k by omega]
    rw [e1]
    exact s_bI (s_bI (hR _ (by rw [show A 0 0 + ((k + 1 : Nat) : Int) = A 0 0 + k + 1 by omega])))
  · rintro Rr x rfl
    unfold w_X4_enough_L13
    dsimp only
    rw [hP.1 1 (by decide), if_pos ((iI_lt (by omega) (by omega) (by omega) (by omega)).mpr (by omega))]
    exact h
theorem s_X4_ifRows (hP : Pl M 0 A) (hO : Ok A) (hL : Laid M 0 A L R) {r : Int} (hr : i32 r) (h1 : 1 ≤ r ∧ r ≤ 12 → Q (iI (hidP A L R r)) M) (h0 : ¬ (1 ≤ r ∧ r ≤ 12) → Q (iI (-1)) M) : w_X4_ifRows M (iI r) Q := by
  unfold w_X4_ifRows
  simp only [lm1_, lm2_, lm3_, lm9_, lm10_, lm999_, lm1000_, l0_, l1_, l2_, l3_, l4_, l5_, l6_, l7_, l8_, l9_, l10_, l11_, l12_, l13_, l23_, l24_, l30_, l31_, l33_, l35_, l41_, l42_, l45_, l48_, l57_, l58_, l59_, l60_, l64_, l96_, l99_, l100_, l101_, l126_, l168_, l808_, l909_, l900_, l20_, l1440_, l2003_, l15486209_, l2147483647_, l999_, l1439_, iI_add, iI_sub, iI_mul, iI_neg]
  exact s_X4_isWithin hr (by omega) (by omega) (fun c => z1 (s_X0_hiddenOnPage hP hO hL (by omega) (h1 c))) (fun c => z0 (h0 c))
theorem s_X4_told (hP : Pl M 0 A) (hO : Ok A) (hL : Laid M 0 A L R) {tl n : Nat} (hT : M 3 0 1 = iI tl) (hN : M 1 0 2 = iI n) {b : Int} (hb : i32 b) (h : Q (iI (vTold A L R tl n b)) M) : w_X4_told M (iI b) Q := by
  have ob := hO.b
  have gW := hL.1
  unfold w_X4_told
  simp only [lm1_, lm2_, lm3_, lm9_, lm10_, lm999_, lm1000_, l0_, l1_, l2_, l3_, l4_, l5_, l6_, l7_, l8_, l9_, l10_, l11_, l12_, l13_, l23_, l24_, l30_, l31_, l33_, l35_, l41_, l42_, l45_, l48_, l57_, l58_, l59_, l60_, l64_, l96_, l99_, l100_, l101_, l126_, l168_, l808_, l909_, l900_, l20_, l1440_, l2003_, l15486209_, l2147483647_, l999_, l1439_, iI_add, iI_sub, iI_mul, iI_neg]
  refine s_if (fun q => ?_) (fun q0 => s_if (fun q => ?_) (fun q1 => s_if (fun q => ?_) (fun q2 => s_if (fun q => ?_) (fun q3 => s_if (fun q => ?_) (fun q4 => s_if (fun q => ?_) (fun q5 => s_if (fun q => ?_) (fun q6 => s_if (fun q => ?_) (fun q7 => s_if (fun q => ?_) (fun q8 => s_if (fun q => ?_) (fun q9 => s_if (fun q => ?_) (fun q10 => s_if (fun q => ?_) (fun q11 => ?_))))))))))))
  · obtain rfl : b = 0 := (iI_eq (by omega) (by omega) (by omega) (by omega)).mp q
    rw [hP.1 0 (by decide)]
    exact h
  · obtain rfl : b = 1 := (iI_eq (by omega) (by omega) (by omega) (by omega)).mp q
    rw [hP.1 1 (by decide)]
    exact h
  · obtain rfl : b = 2 := (iI_eq (by omega) (by omega) (by omega) (by omega)).mp q
    rw [hP.1 2 (by decide)]
    exact h
  · obtain rfl : b = 3 := (iI_eq (by omega) (by omega) (by omega) (by omega)).mp q
    rw [hP.1 3 (by decide)]
    exact h
  · obtain rfl : b = 4 := (iI_eq (by omega) (by omega) (by omega) (by omega)).mp q
    rw [gW.1]
    exact h
  · obtain rfl : b = 5 := (iI_eq (by omega) (by omega) (by omega) (by omega)).mp q
    rw [hP.1 4 (by decide)]
    exact h
  · obtain rfl : b = 6 := (iI_eq (by omega) (by omega) (by omega) (by omega)).mp q
    exact s_X2_allLongOnes hP hO h
  · obtain rfl : b = 7 := (iI_eq (by omega) (by omega) (by omega) (by omega)).mp q
    exact s_X2_allOnPage hP hO h
  · obtain rfl : b = 8 := (iI_eq (by omega) (by omega) (by omega) (by omega)).mp q
    exact s_X0_barsOnPage hP hO hL h
  · obtain rfl : b = 9 := (iI_eq (by omega) (by omega) (by omega) (by omega)).mp q
    rw [hP.1 3 (by decide)]
    exact s_X0_hiddenOnPage hP hO hL (by omega) h
  · obtain rfl : b = 10 := (iI_eq (by omega) (by omega) (by omega) (by omega)).mp q
    rw [hT]
    exact h
  · obtain rfl : b = 11 := (iI_eq (by omega) (by omega) (by omega) (by omega)).mp q
    rw [hN]
    exact h
  · have n0 : ¬ b = 0 := fun z => q0 (by rw [z])
    have n1 : ¬ b = 1 := fun z => q1 (by rw [z])
    have n2 : ¬ b = 2 := fun z => q2 (by rw [z])
    have n3 : ¬ b = 3 := fun z => q3 (by rw [z])
    have n4 : ¬ b = 4 := fun z => q4 (by rw [z])
    have n5 : ¬ b = 5 := fun z => q5 (by rw [z])
    have n6 : ¬ b = 6 := fun z => q6 (by rw [z])
    have n7 : ¬ b = 7 := fun z => q7 (by rw [z])
    have n8 : ¬ b = 8 := fun z => q8 (by rw [z])
    have n9 : ¬ b = 9 := fun z => q9 (by rw [z])
    have n10 : ¬ b = 10 := fun z => q10 (by rw [z])
    have n11 : ¬ b = 11 := fun z => q11 (by rw [z])
    rw [vTold, if_neg n0, if_neg n1, if_neg n2, if_neg n3, if_neg n4, if_neg n5, if_neg n6, if_neg n7, if_neg n8, if_neg n9, if_neg n10, if_neg n11] at h
    exact h
end CA
