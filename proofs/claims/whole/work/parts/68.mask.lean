section MQ
variable {M : Mm} {A : Ab} {L : Nat → Nat → Int} {R : Nat → Int} {D : Int} {Q : Int32 → Mm → Prop}
theorem odn_eq (hO : Ok A) {e : Nat} (he : (e : Int) < A 0 4) : (odn A e (A 0 1 - A 0 0 + 1).toNat : Int) = max 0 (min (A 2 e) (A 0 1) - max (A 1 e) (A 0 0) + 1) := by
  have ob := hO.b
  have oe := hO.e he
  have := cnt_days (a := A 1 e) (b := A 2 e) (c := A 0 0) (by omega) (A 0 1 - A 0 0 + 1).toNat
  rw [show A 0 0 + (((A 0 1 - A 0 0 + 1).toNat : Nat) : Int) - 1 = A 0 1 by omega] at this
  exact this
theorem s_X5_entryOf (hP : Pm M 0 A) (hO : Ok A) (hL : ML M A L R) {e : Nat} (he : (e : Int) < A 0 4) {b : Int} (hb : 0 ≤ b ∧ b ≤ 7) (h : Q (iI (vEntry A L R e b)) M) : w_X5_entryOf M (iI e) (iI b) Q := by
  have ob := hO.b
  obtain ⟨y1, y2, y3, y4⟩ := hP.y he
  unfold w_X5_entryOf
  simp only [lm1_, lm2_, lm3_, lm9_, lm10_, lm999_, lm1000_, l0_, l1_, l2_, l3_, l4_, l5_, l6_, l7_, l8_, l9_, l10_, l11_, l12_, l13_, l23_, l24_, l30_, l31_, l33_, l35_, l41_, l42_, l45_, l48_, l57_, l58_, l59_, l60_, l64_, l96_, l99_, l100_, l101_, l126_, l168_, l808_, l909_, l999_, l1439_, iI_add, iI_sub, iI_mul, iI_neg]
  refine s_if (fun q => ?_) (fun q => ?_)
  · have q := (iI_le (by omega) (by omega) (by omega) (by omega)).mp q
    refine s_if (fun q => ?_) (fun q1 => s_if (fun q => ?_) (fun q2 => ?_))
    · obtain rfl : b = 4 := (iI_eq (by omega) (by omega) (by omega) (by omega)).mp q
      have h : Q (iI (if lng A e then 1 else 0)) M := h
      refine s_X5_isLong hP hO he (fun c => z1 ?_) (fun c => z0 ?_)
      · rw [if_pos c] at h
        exact h
      · rw [if_neg c] at h
        exact h
    · obtain rfl : b = 7 := (iI_eq (by omega) (by omega) (by omega) (by omega)).mp q
      exact s_X5_barsOf hL.2.2.2.2.1 hL.2.2.1 (by omega) h
    · have q1 : ¬ b = 4 := fun z => q1 (by rw [z])
      have q2 : ¬ b = 7 := fun z => q2 (by rw [z])
      by_cases q6 : b = 6
      · subst q6
        refine s_letV (iI 1) (fun J hJ => ?_) (s_X5_daysOf1 hP hO hL he h)
        rw [if_pos rfl]
        exact hJ
      · obtain rfl : b = 5 := by omega
        refine s_letV (iI 0) (fun J hJ => ?_) (s_X5_daysOf0 hP hO he ?_)
        · rw [if_neg (by decide)]
          exact hJ
        · rw [odn_eq hO he]
          exact h
  · have q : ¬ 4 ≤ b := fun z => q ((iI_le (by omega) (by omega) (by omega) (by omega)).mpr z)
    refine s_ldA (by omega) (by omega) (by decide) ?_
    rcases (show b = 0 ∨ b = 1 ∨ b = 2 ∨ b = 3 by omega) with rfl | rfl | rfl | rfl
    · rw [show (5 + 4 * (e : Int) + 0).toNat = 5 + 4 * e by omega, y1]
      exact h
    · rw [show (5 + 4 * (e : Int) + 1).toNat = 5 + 4 * e + 1 by omega, y2]
      exact h
    · rw [show (5 + 4 * (e : Int) + 2).toNat = 5 + 4 * e + 2 by omega, y3]
      exact h
    · rw [show (5 + 4 * (e : Int) + 3).toNat = 5 + 4 * e + 3 by omega, y4]
      exact h
theorem s_X5_hasBar (hP : Pm M 0 A) (hO : Ok A) (hL : ML M A L R) {e : Nat} (he : (e : Int) < A 0 4) {w : Int} (hw : 0 ≤ w ∧ w ≤ 2147483647) (h1 : w < nW A → L e w.toNat ≠ -9 → Q (iI 1) M) (h0 : nW A ≤ w ∨ L e w.toNat = -9 → Q (iI 0) M) : w_X5_hasBar M (iI e) (iI w) Q := by
  have ob := hO.b
  have hn := nW_b hO
  have hlb := hL.2.2.1 e w.toNat
  unfold w_X5_hasBar
  refine s_X5_weeks hP hO ?_
  refine s_if (fun q => ?_) (fun q => ?_)
  · have q := (iI_le (by omega) (by omega) (by omega) (by omega)).mp q
    exact h0 (Or.inl q)
  · have q : ¬ nW A ≤ w := fun z => q ((iI_le (by omega) (by omega) (by omega) (by omega)).mpr z)
    simp only [lm1_, lm2_, lm3_, lm9_, lm10_, lm999_, lm1000_, l0_, l1_, l2_, l3_, l4_, l5_, l6_, l7_, l8_, l9_, l10_, l11_, l12_, l13_, l23_, l24_, l30_, l31_, l33_, l35_, l41_, l42_, l45_, l48_, l57_, l58_, l59_, l60_, l64_, l96_, l99_, l100_, l101_, l126_, l168_, l808_, l909_, l999_, l1439_, iI_add, iI_sub, iI_mul, iI_neg]
    rw [show 7 * (e : Int) + w = 7 * (e : Int) + (w.toNat : Nat) by omega]
    refine s_lm hL.2.2.2.2.1 (by omega) (by omega) ?_
    refine s_if (fun q2 => ?_) (fun q2 => ?_)
    · exact h0 (Or.inr ((iI_eq (by omega) (by omega) (by omega) (by omega)).mp q2))
    · exact h1 (by omega) (fun z => q2 (by rw [z]))
theorem s_X5_barOf (hP : Pm M 0 A) (hO : Ok A) (hL : ML M A L R) {e : Nat} (he : (e : Int) < A 0 4) {w b : Int} (hw : 0 ≤ w ∧ w < nW A) (hl : L e w.toNat ≠ -9) (hb : 0 ≤ b ∧ b ≤ 4) (h : Q (iI (vBar A L e w b)) M) : w_X5_barOf M (iI e) (iI w) (iI b) Q := by
  have ob := hO.b
  have oe := hO.e he
  have hn := nW_b hO
  have hwb := wS_b hO (w := w) (by omega) (by omega)
  have hwb2 := wS_b hO (w := w + 1) (by omega) (by omega)
  have hwl : wL A w = wS A (w + 1) - 1 := rfl
  have hlb := hL.2.2.1 e w.toNat
  rw [vBar, if_neg (by omega), if_neg hl] at h
  unfold w_X5_barOf
  simp only [lm1_, lm2_, lm3_, lm9_, lm10_, lm999_, lm1000_, l0_, l1_, l2_, l3_, l4_, l5_, l6_, l7_, l8_, l9_, l10_, l11_, l12_, l13_, l23_, l24_, l30_, l31_, l33_, l35_, l41_, l42_, l45_, l48_, l57_, l58_, l59_, l60_, l64_, l96_, l99_, l100_, l101_, l126_, l168_, l808_, l909_, l999_, l1439_, iI_add, iI_sub, iI_mul, iI_neg]
  refine s_X5_begins hP hO he (s_X5_weekFirst hP hO hw.1 hw.2 ?_)
  refine s_letV (iI (max (A 1 e) (wS A w)), M) (fun J hJ => ?_) ?_
  · refine s_if (fun q => ?_) (fun q => ?_)
    · have q := (iI_le (by omega) (by omega) (by omega) (by omega)).mp q
      refine s_X5_weekFirst hP hO hw.1 hw.2 ?_
      rw [show max (A 1 e) (wS A w) = wS A w by omega] at hJ
      exact hJ
    · have q : ¬ A 1 e ≤ wS A w := fun z => q ((iI_le (by omega) (by omega) (by omega) (by omega)).mpr z)
      refine s_X5_begins hP hO he ?_
      rw [show max (A 1 e) (wS A w) = A 1 e by omega] at hJ
      exact hJ
  · dsimp only
    refine s_X5_ends hP hO he (s_X5_weekLast hP hO hw.1 hw.2 ?_)
    refine s_letV (iI (min (A 2 e) (wL A w)), M) (fun J hJ => ?_) ?_
    · refine s_if (fun q => ?_) (fun q => ?_)
      · have q := (iI_le (by omega) (by omega) (by omega) (by omega)).mp q
        refine s_X5_weekLast hP hO hw.1 hw.2 ?_
        rw [show min (A 2 e) (wL A w) = wL A w by omega] at hJ
        exact hJ
      · have q : ¬ wL A w ≤ A 2 e := fun z => q ((iI_le (by omega) (by omega) (by omega) (by omega)).mpr z)
        refine s_X5_ends hP hO he ?_
        rw [show min (A 2 e) (wL A w) = A 2 e by omega] at hJ
        exact hJ
    · dsimp only
      refine s_if (fun q => ?_) (fun q0 => s_if (fun q => ?_) (fun q1 => s_if (fun q => ?_) (fun q2 => s_if (fun q => ?_) (fun q3 => ?_))))
      · obtain rfl : b = 0 := (iI_eq (by omega) (by omega) (by omega) (by omega)).mp q
        rw [show 7 * (e : Int) + w = 7 * (e : Int) + (w.toNat : Nat) by omega]
        exact s_lm hL.2.2.2.2.1 (by omega) (by omega) h
      · obtain rfl : b = 1 := (iI_eq (by omega) (by omega) (by omega) (by omega)).mp q
        exact h
      · obtain rfl : b = 2 := (iI_eq (by omega) (by omega) (by omega) (by omega)).mp q
        exact h
      · obtain rfl : b = 3 := (iI_eq (by omega) (by omega) (by omega) (by omega)).mp q
        have h : Q (iI (if A 1 e < wS A w then 1 else 0)) M := h
        refine s_X5_begins hP hO he ?_
        by_cases c : A 1 e < wS A w
        · rw [if_pos c] at h
          rw [if_neg (fun z => by have := (iI_le (by omega) (by omega) (by omega) (by omega)).mp z; omega)]
          exact h
        · rw [if_neg c] at h
          rw [if_pos ((iI_le (by omega) (by omega) (by omega) (by omega)).mpr (by omega))]
          exact h
      · have q0 : ¬ b = 0 := fun z => q0 (by rw [z])
        have q1 : ¬ b = 1 := fun z => q1 (by rw [z])
        have q2 : ¬ b = 2 := fun z => q2 (by rw [z])
        have q3 : ¬ b = 3 := fun z => q3 (by rw [z])
        obtain rfl : b = 4 := by omega
        have h : Q (iI (if wL A w < A 2 e then 1 else 0)) M := h
        refine s_X5_ends hP hO he ?_
        by_cases c : wL A w < A 2 e
        · rw [if_pos c] at h
          rw [if_neg (fun z => by have := (iI_le (by omega) (by omega) (by omega) (by omega)).mp z; omega)]
          exact h
        · rw [if_neg c] at h
          rw [if_pos ((iI_le (by omega) (by omega) (by omega) (by omega)).mpr (by omega))]
          exact h
theorem s_X5_search (hP : Pm M 0 A) (hO : Ok A) (hL : ML M A L R) (d1 : A 0 0 ≤ D) (d2 : D ≤ A 0 1) {r : Int} (hr : 0 ≤ r ∧ r ≤ 24) {K : Int32 × Mm → Prop} (hK : ∀ v, inRow A L R D r = -9 → K (v, M)) (h : ∀ k : Nat, inRow A L R D r = k → Q (iI k) M) : ∃ n, loop (w_X5_shownAt_L71 (iI D) (iI r) Q K) n (iI 0, M) := by
  have ob := hO.b
  obtain ⟨gL, gR, gLb, gRb, gLm, gRm, gW⟩ := hL
  refine loop_up (fun k x => x = (iI k, M) ∧ ∀ o, o < k → ¬ tk1 A L R D r o) (A 0 4).toNat ?_ ?_ (Nat.zero_le _) ⟨rfl, fun o ho => absurd ho (Nat.not_lt_zero _)⟩
  · rintro Rr k x hk ⟨rfl, hno⟩ hR
    have hk1 : (k : Int) < A 0 4 := by omega
    have hrb := rowv_b (A := A) (D := D) gLb gRb k
    unfold w_X5_shownAt_L71
    dsimp only
    refine s_pg hP (j := 4) (by decide) rfl ?_
    rw [if_neg (fun z => by have := (iI_le (by omega) (by omega) (by omega) (by omega)).mp z; omega)]
    simp only [lm1_, lm2_, lm3_, lm9_, lm10_, lm999_, lm1000_, l0_, l1_, l2_, l3_, l4_, l5_, l6_, l7_, l8_, l9_, l10_, l11_, l12_, l13_, l23_, l24_, l30_, l31_, l33_, l35_, l41_, l42_, l45_, l48_, l57_, l58_, l59_, l60_, l64_, l96_, l99_, l100_, l101_, l126_, l168_, l808_, l909_, l999_, l1439_, iI_add, iI_sub, iI_mul, iI_neg]
    have hgo : ¬ tk1 A L R D r k → Rr (iI ((k : Int) + 1), M) := fun ht => hR _ ⟨rfl, fun o ho => by
      by_cases hok : o = k
      · rw [hok]; exact ht
      · exact hno o (by omega)⟩
    refine s_X5_isOn hP hO hk1 (by omega) (fun c => z1 (s_X5_rowAt hP gW hO gLm gRm d1 d2 hk1 ?_)) (fun c => z0 (s_bI (hgo (fun z => c z.1))))
    refine s_if (fun q => ?_) (fun q => ?_)
    · have q := (iI_eq (by omega) (by omega) (by omega) (by omega)).mp q
      exact h k (fst_at hk (decide_eq_true ⟨c, q⟩) (fun i hi z => hno i hi (of_decide_eq_true z)))
    · exact s_bI (hgo (fun z => q (by rw [z.2])))
  · rintro Rr x ⟨rfl, hno⟩
    unfold w_X5_shownAt_L71
    dsimp only
    refine s_pg hP (j := 4) (by decide) rfl ?_
    rw [if_pos ((iI_le (by omega) (by omega) (by omega) (by omega)).mpr (by omega))]
    exact hK _ (fst_no (fun i hi z => hno i hi (of_decide_eq_true z)))
theorem s_X5_shownAt (hP : Pm M 0 A) (hO : Ok A) (hL : ML M A L R) (d1 : A 0 0 ≤ D) (d2 : D ≤ A 0 1) {r : Int} (hr : 0 ≤ r ∧ r ≤ 11) (h : Q (iI (vShown A L R D r)) M) : w_X5_shownAt M (iI D) (iI r) Q := by
  have ob := hO.b
  obtain ⟨gL, gR, gLb, gRb, gLm, gRm, gW⟩ := id hL
  have hnb := ned_b (A := A) (D := D) gLb gRb (A 0 4).toNat
  rw [vShown] at h
  unfold w_X5_shownAt
  simp only [lm1_, lm2_, lm3_, lm9_, lm10_, lm999_, lm1000_, l0_, l1_, l2_, l3_, l4_, l5_, l6_, l7_, l8_, l9_, l10_, l11_, l12_, l13_, l23_, l24_, l30_, l31_, l33_, l35_, l41_, l42_, l45_, l48_, l57_, l58_, l59_, l60_, l64_, l96_, l99_, l100_, l101_, l126_, l168_, l808_, l909_, l999_, l1439_, iI_add, iI_sub, iI_mul, iI_neg]
  refine s_X5_needed hP gW hO gLm gRm gLb gRb d1 d2 (s_pg hP (j := 3) (by decide) rfl ?_)
  have hJ4 : (A 0 3 ≤ r ∨ A 0 3 < ned A L R D (A 0 4).toNat ∧ r = A 0 3 - 1) → ldA (M 18 0) 909 (iI 3) fun v5 => if iI r < v5 then (ldA (M 18 0) 909 (iI 3) fun v6 => w_X5_hiddenOn M (iI D) v6 fun v8 M7 => Q (iI (-10) - v8) M7) else (Q (iI (-9)) M) := by
    intro c
    refine s_pg hP (j := 3) (by decide) rfl ?_
    by_cases c2 : A 0 3 ≤ r
    · rw [if_pos c2] at h
      rw [if_neg (fun z => by have := (iI_lt (by omega) (by omega) (by omega) (by omega)).mp z; omega)]
      exact h
    · rw [if_neg c2, if_pos (by omega)] at h
      rw [if_pos ((iI_lt (by omega) (by omega) (by omega) (by omega)).mpr (by omega))]
      refine s_pg hP (j := 3) (by decide) rfl (s_X5_hiddenOn hP gW hO gLm gRm gLb gRb d1 d2 (by omega) ?_)
      rw [iI_sub]
      exact h
  refine s_letJ (fun _ => A 0 3 ≤ r ∨ A 0 3 < ned A L R D (A 0 4).toNat ∧ r = A 0 3 - 1) (fun J hJ => ?_) (fun _ c => hJ4 c)
  refine s_if (fun q => ?_) (fun q => ?_)
  · have q := (iI_le (by omega) (by omega) (by omega) (by omega)).mp q
    exact hJ _ (Or.inl q)
  · have q : ¬ A 0 3 ≤ r := fun z => q ((iI_le (by omega) (by omega) (by omega) (by omega)).mpr z)
    rw [if_neg q] at h
    refine s_pg hP (j := 3) (by decide) rfl ?_
    refine s_letJ (fun _ => ¬ (A 0 3 < ned A L R D (A 0 4).toNat ∧ r = A 0 3 - 1)) (fun J2 hJ2 => ?_) (fun _ c => ?_)
    · refine s_if (fun q2 => ?_) (fun q2 => ?_)
      · have q2 := (iI_le (by omega) (by omega) (by omega) (by omega)).mp q2
        exact hJ2 _ (fun z => by omega)
      · have q2 : ¬ ned A L R D (A 0 4).toNat ≤ A 0 3 := fun z => q2 ((iI_le (by omega) (by omega) (by omega) (by omega)).mpr z)
        refine s_pg hP (j := 3) (by decide) rfl ?_
        simp only [lm1_, lm2_, lm3_, lm9_, lm10_, lm999_, lm1000_, l0_, l1_, l2_, l3_, l4_, l5_, l6_, l7_, l8_, l9_, l10_, l11_, l12_, l13_, l23_, l24_, l30_, l31_, l33_, l35_, l41_, l42_, l45_, l48_, l57_, l58_, l59_, l60_, l64_, l96_, l99_, l100_, l101_, l126_, l168_, l808_, l909_, l999_, l1439_, iI_add, iI_sub, iI_mul, iI_neg]
        refine s_if (fun q3 => ?_) (fun q3 => ?_)
        · have q3 := (iI_eq (by omega) (by omega) (by omega) (by omega)).mp q3
          exact hJ _ (Or.inr ⟨by omega, q3⟩)
        · exact hJ2 _ (fun z => q3 (by rw [z.2]))
    · rw [if_neg c] at h
      refine s_X5_search hP hO hL d1 d2 (by omega) (fun v q2 => ?_) (fun k q2 => ?_)
      · rw [q2] at h
        exact h
      · rw [q2] at h
        exact h
theorem s_X5_dayOf (hP : Pm M 0 A) (hO : Ok A) (hL : ML M A L R) (d1 : A 0 0 ≤ D) (d2 : D ≤ A 0 1) {b : Int} (hb : 0 ≤ b ∧ b ≤ 5) (h : Q (iI (vDay A L R D b)) M) : w_X5_dayOf M (iI D) (iI b) Q := by
  have ob := hO.b
  obtain ⟨gL, gR, gLb, gRb, gLm, gRm, gW⟩ := id hL
  unfold w_X5_dayOf
  simp only [lm1_, lm2_, lm3_, lm9_, lm10_, lm999_, lm1000_, l0_, l1_, l2_, l3_, l4_, l5_, l6_, l7_, l8_, l9_, l10_, l11_, l12_, l13_, l23_, l24_, l30_, l31_, l33_, l35_, l41_, l42_, l45_, l48_, l57_, l58_, l59_, l60_, l64_, l96_, l99_, l100_, l101_, l126_, l168_, l808_, l909_, l999_, l1439_, iI_add, iI_sub, iI_mul, iI_neg]
  refine s_if (fun q => ?_) (fun q0 => s_if (fun q => ?_) (fun q1 => s_if (fun q => ?_) (fun q2 => s_if (fun q => ?_) (fun q3 => s_if (fun q => ?_) (fun q4 => ?_)))))
  · obtain rfl : b = 0 := (iI_eq (by omega) (by omega) (by omega) (by omega)).mp q
    exact s_X5_weekOf hP hO d1 (by omega) h
  · obtain rfl : b = 1 := (iI_eq (by omega) (by omega) (by omega) (by omega)).mp q
    rw [iI_rem (by omega) (by omega) (by omega) (by omega)]
    exact h
  · obtain rfl : b = 2 := (iI_eq (by omega) (by omega) (by omega) (by omega)).mp q
    exact s_X5_barsOn hP hO (by omega) h
  · obtain rfl : b = 3 := (iI_eq (by omega) (by omega) (by omega) (by omega)).mp q
    exact s_X5_shortsIn hP hO (by omega) (by omega) h
  · obtain rfl : b = 4 := (iI_eq (by omega) (by omega) (by omega) (by omega)).mp q
    exact s_pg hP (j := 3) (by decide) rfl (s_X5_hiddenOn hP gW hO gLm gRm gLb gRb d1 d2 (by omega) h)
  · have q0 : ¬ b = 0 := fun z => q0 (by rw [z])
    have q1 : ¬ b = 1 := fun z => q1 (by rw [z])
    have q2 : ¬ b = 2 := fun z => q2 (by rw [z])
    have q3 : ¬ b = 3 := fun z => q3 (by rw [z])
    have q4 : ¬ b = 4 := fun z => q4 (by rw [z])
    obtain rfl : b = 5 := by omega
    exact s_X5_needed hP gW hO gLm gRm gLb gRb d1 d2 h
theorem s_X5_weekOfAll (hP : Pm M 0 A) (hO : Ok A) (hL : ML M A L R) {w b : Int} (hw : 0 ≤ w ∧ w < nW A) (hb : 0 ≤ b ∧ b ≤ 5) (h : Q (iI (vWeek A L R w b)) M) : w_X5_weekOfAll M (iI w) (iI b) Q := by
  have ob := hO.b
  have hn := nW_b hO
  obtain ⟨gL, gR, gLb, gRb, gLm, gRm, gW⟩ := id hL
  have hwb := wS_b hO (w := w) (by omega) (by omega)
  have hlt := wS_lt hO (w := w) (by omega) (by omega)
  have hwb2 := wS_b hO (w := w + 1) (by omega) (by omega)
  have hwl : wL A w = wS A (w + 1) - 1 := rfl
  unfold w_X5_weekOfAll
  simp only [lm1_, lm2_, lm3_, lm9_, lm10_, lm999_, lm1000_, l0_, l1_, l2_, l3_, l4_, l5_, l6_, l7_, l8_, l9_, l10_, l11_, l12_, l13_, l23_, l24_, l30_, l31_, l33_, l35_, l41_, l42_, l45_, l48_, l57_, l58_, l59_, l60_, l64_, l96_, l99_, l100_, l101_, l126_, l168_, l808_, l909_, l999_, l1439_, iI_add, iI_sub, iI_mul, iI_neg]
  refine s_X5_weekFirst hP hO hw.1 hw.2 (s_X5_weekLast hP hO hw.1 hw.2 ?_)
  refine s_if (fun q => ?_) (fun q0 => s_if (fun q => ?_) (fun q1 => s_if (fun q => ?_) (fun q2 => s_if (fun q => ?_) (fun q3 => s_if (fun q => ?_) (fun q4 => ?_)))))
  · obtain rfl : b = 0 := (iI_eq (by omega) (by omega) (by omega) (by omega)).mp q
    exact h
  · obtain rfl : b = 1 := (iI_eq (by omega) (by omega) (by omega) (by omega)).mp q
    exact h
  · obtain rfl : b = 2 := (iI_eq (by omega) (by omega) (by omega) (by omega)).mp q
    rw [← Int.toNat_of_nonneg hw.1]
    exact s_X5_barsIn hP hO gLm gLb (by omega) h
  · obtain rfl : b = 3 := (iI_eq (by omega) (by omega) (by omega) (by omega)).mp q
    rw [← Int.toNat_of_nonneg hw.1]
    exact s_X5_lanesIn hP hO gLm gLb (by omega) h
  · obtain rfl : b = 4 := (iI_eq (by omega) (by omega) (by omega) (by omega)).mp q
    exact s_X5_shortsIn hP hO (by omega) (by omega) h
  · have q0 : ¬ b = 0 := fun z => q0 (by rw [z])
    have q1 : ¬ b = 1 := fun z => q1 (by rw [z])
    have q2 : ¬ b = 2 := fun z => q2 (by rw [z])
    have q3 : ¬ b = 3 := fun z => q3 (by rw [z])
    have q4 : ¬ b = 4 := fun z => q4 (by rw [z])
    obtain rfl : b = 5 := by omega
    exact s_pg hP (j := 3) (by decide) rfl (s_X5_hidden hP gW hO gLm gRm gLb gRb (by omega) (by omega) (by omega) (by omega) h)
theorem s_mrows (hP : Pm M 0 A) (hO : Ok A) (hL : ML M A L R) {K : Int32 × Int32 × Mm → Prop} (hK : ∀ v, K (iI (enq A L R (A 0 1 - A 0 0 + 1).toNat), v, M)) : ∃ n, loop (w_X5_enough_L13 K) n (iI 1, iI (A 0 0), M) := by
  have ob := hO.b
  obtain ⟨gL, gR, gLb, gRb, gLm, gRm, gW⟩ := hL
  refine loop_up (fun k x => x = (iI (enq A L R k), iI (A 0 0 + k), M)) (A 0 1 - A 0 0 + 1).toNat ?_ ?_ (Nat.zero_le _) (by rw [show A 0 0 + ((0 : Nat) : Int) = A 0 0 by omega]; rfl)
  · rintro Rr k x hk rfl hR
    have hnb := ned_b (A := A) (D := A 0 0 + k) gLb gRb (A 0 4).toNat
    have heb := enq_b (A := A) gLb gRb k
    have e1 : enq A L R (k + 1) = max (enq A L R k) (ned A L R (A 0 0 + k) (A 0 4).toNat) := rfl
    unfold w_X5_enough_L13
    dsimp only
    refine s_pg hP (j := 1) (by decide) rfl ?_
    rw [if_neg (fun z => by have := (iI_lt (by omega) (by omega) (by omega) (by omega)).mp z; omega)]
    simp only [lm1_, lm2_, lm3_, lm9_, lm10_, lm999_, lm1000_, l0_, l1_, l2_, l3_, l4_, l5_, l6_, l7_, l8_, l9_, l10_, l11_, l12_, l13_, l23_, l24_, l30_, l31_, l33_, l35_, l41_, l42_, l45_, l48_, l57_, l58_, l59_, l60_, l64_, l96_, l99_, l100_, l101_, l126_, l168_, l808_, l909_, l999_, l1439_, iI_add, iI_sub, iI_mul, iI_neg]
    refine s_X5_needed hP gW hO gLm gRm gLb gRb (by omega) (by omega) ?_
    refine s_if (fun q => ?_) (fun q => ?_)
    · have q := (iI_le (by omega) (by omega) (by omega) (by omega)).mp q
      exact s_bI (hR _ (by rw [e1, show max (enq A L R k) (ned A L R (A 0 0 + k) (A 0 4).toNat) = enq A L R k by omega, show A 0 0 + ((k + 1 : Nat) : Int) = A 0 0 + k + 1 by omega]))
    · have q : ¬ ned A L R (A 0 0 + k) (A 0 4).toNat ≤ enq A L R k := fun z => q ((iI_le (by omega) (by omega) (by omega) (by omega)).mpr z)
      refine s_X5_needed hP gW hO gLm gRm gLb gRb (by omega) (by omega) ?_
      exact s_bI (hR _ (by rw [e1, show max (enq A L R k) (ned A L R (A 0 0 + k) (A 0 4).toNat) = ned A L R (A 0 0 + k) (A 0 4).toNat by omega, show A 0 0 + ((k + 1 : Nat) : Int) = A 0 0 + k + 1 by omega]))
  · rintro Rr x rfl
    unfold w_X5_enough_L13
    dsimp only
    refine s_pg hP (j := 1) (by decide) rfl ?_
    rw [if_pos ((iI_lt (by omega) (by omega) (by omega) (by omega)).mpr (by omega))]
    exact hK _
theorem s_mbars (hP : Pm M 0 A) (hO : Ok A) (hL : ML M A L R) {K : Int32 × Int32 × Mm → Prop} (hK : ∀ v, K (iI (brp A L), v, M)) : ∃ n, loop (w_X5_bars_L8 K) n (iI 0, iI 0, M) := by
  have ob := hO.b
  obtain ⟨gL, gR, gLb, gRb, gLm, gRm, gW⟩ := hL
  refine loop_up (fun k x => x = (iI (sumN (fun e => bre L e) k), iI k, M)) (A 0 4).toNat ?_ ?_ (Nat.zero_le _) rfl
  · rintro Rr k x hk rfl hR
    unfold w_X5_bars_L8
    dsimp only
    refine s_pg hP (j := 4) (by decide) rfl ?_
    rw [if_neg (fun z => by have := (iI_le (by omega) (by omega) (by omega) (by omega)).mp z; omega)]
    simp only [lm1_, lm2_, lm3_, lm9_, lm10_, lm999_, lm1000_, l0_, l1_, l2_, l3_, l4_, l5_, l6_, l7_, l8_, l9_, l10_, l11_, l12_, l13_, l23_, l24_, l30_, l31_, l33_, l35_, l41_, l42_, l45_, l48_, l57_, l58_, l59_, l60_, l64_, l96_, l99_, l100_, l101_, l126_, l168_, l808_, l909_, l999_, l1439_, iI_add, iI_sub, iI_mul, iI_neg]
    refine s_X5_barsOf gLm gLb (by omega) ?_
    rw [iI_add]
    exact s_bI (s_bI (hR _ rfl))
  · rintro Rr x rfl
    unfold w_X5_bars_L8
    dsimp only
    refine s_pg hP (j := 4) (by decide) rfl ?_
    rw [if_pos ((iI_le (by omega) (by omega) (by omega) (by omega)).mpr (by omega))]
    exact hK _
end MQ
section MQ2
variable {M Mc : Mm} {p : Nat} {A : Ab} {L : Nat → Nat → Int} {R : Nat → Int} {D : Int} {Q : Int32 → Mm → Prop}
theorem s_X5_laysC {Q : Mm → Prop} (hP : Pm M 0 A) (hO : Ok A) (hC : Laid Mc p A L R) (h : ∀ M' : Mm, ML M' A L R → Pm M' 0 A → sx kl M M' → Q M') : w_X5_lays M Q :=
  s_X5_laysA hP hO (fun M' _ _ a1 a2 a3 => h M' (lay_one hO hC a1) a2 a3)
theorem s_X5_entry (hP : Pm M 0 A) (hO : Ok A) (hC : Laid Mc p A L R) {a b : Int} (ha : i32 a) (hb : i32 b) (h1 : ∀ e : Nat, a = e → (e : Int) < A 0 4 → 0 ≤ b ∧ b ≤ 7 → ∀ M', Pm M' 0 A → sx kl M M' → Q (iI (vEntry A L R e b)) M') (h0 : ¬ ((0 ≤ a ∧ a < A 0 4) ∧ 0 ≤ b ∧ b ≤ 7) → Q (iI (-1)) M) : w_X5_entry M (iI a) (iI b) Q := by
  unfold w_X5_entry
  simp only [lm1_, lm2_, lm3_, lm9_, lm10_, lm999_, lm1000_, l0_, l1_, l2_, l3_, l4_, l5_, l6_, l7_, l8_, l9_, l10_, l11_, l12_, l13_, l23_, l24_, l30_, l31_, l33_, l35_, l41_, l42_, l45_, l48_, l57_, l58_, l59_, l60_, l64_, l96_, l99_, l100_, l101_, l126_, l168_, l808_, l909_, l999_, l1439_, iI_add, iI_sub, iI_mul, iI_neg]
  refine s_X5_isEntry hP hO ha (fun c1 => z1 (s_X5_in hb (by omega) (by omega) (fun c2 => z1 ?_) (fun c2 => z0 (h0 (fun z => c2 z.2))))) (fun c1 => z0 (h0 (fun z => c1 z.1)))
  obtain ⟨e, rfl⟩ : ∃ e : Nat, a = e := ⟨a.toNat, by omega⟩
  exact s_X5_laysC hP hO hC (fun M' k1 k2 k3 => s_X5_entryOf k2 hO k1 c1.2 c2 (h1 e rfl c1.2 c2 M' k2 k3))
theorem s_X5_bar (hP : Pm M 0 A) (hO : Ok A) (hC : Laid Mc p A L R) {a w b : Int} (ha : i32 a) (hw : i32 w) (hb : i32 b) (h1 : ∀ e : Nat, a = e → (e : Int) < A 0 4 → 0 ≤ w → 0 ≤ b ∧ b ≤ 4 → ∀ M', Pm M' 0 A → sx kl M M' → Q (iI (vBar A L e w b)) M') (h0 : ¬ ((0 ≤ a ∧ a < A 0 4) ∧ 0 ≤ w ∧ 0 ≤ b ∧ b ≤ 4) → Q (iI (-1)) M) : w_X5_bar M (iI a) (iI w) (iI b) Q := by
  unfold w_X5_bar
  simp only [lm1_, lm2_, lm3_, lm9_, lm10_, lm999_, lm1000_, l0_, l1_, l2_, l3_, l4_, l5_, l6_, l7_, l8_, l9_, l10_, l11_, l12_, l13_, l23_, l24_, l30_, l31_, l33_, l35_, l41_, l42_, l45_, l48_, l57_, l58_, l59_, l60_, l64_, l96_, l99_, l100_, l101_, l126_, l168_, l808_, l909_, l999_, l1439_, iI_add, iI_sub, iI_mul, iI_neg]
  refine s_X5_isEntry hP hO ha (fun c1 => z1 ?_) (fun c1 => z0 (h0 (fun z => c1 z.1)))
  refine s_if (fun q => ?_) (fun q => ?_)
  · have q := (iI_lt (by omega) (by omega) (by omega) (by omega)).mp q
    exact h0 (fun z => by omega)
  have q : ¬ w < 0 := fun z => q ((iI_lt (by omega) (by omega) (by omega) (by omega)).mpr z)
  refine s_X5_in hb (by omega) (by omega) (fun c2 => z1 ?_) (fun c2 => z0 (h0 (fun z => c2 z.2.2)))
  obtain ⟨e, rfl⟩ : ∃ e : Nat, a = e := ⟨a.toNat, by omega⟩
  refine s_X5_laysC hP hO hC (fun M' k1 k2 k3 => ?_)
  have h1 := h1 e rfl c1.2 (by omega) c2 M' k2 k3
  refine s_X5_hasBar k2 hO k1 c1.2 (by omega) (fun g1 g2 => z1 (s_X5_barOf k2 hO k1 c1.2 (by omega) g2 c2 h1)) (fun g => z0 ?_)
  rw [vBar] at h1
  by_cases g1 : nW A ≤ w
  · rw [if_pos g1] at h1
    exact h1
  · rw [if_neg g1, if_pos (g.resolve_left g1)] at h1
    exact h1
theorem s_X5_shown (hP : Pm M 0 A) (hO : Ok A) (hC : Laid Mc p A L R) {r : Int} (hD : i32 D) (hr : i32 r) (h1 : A 0 0 ≤ D ∧ D ≤ A 0 1 → 0 ≤ r ∧ r ≤ 11 → ∀ M', Pm M' 0 A → sx kl M M' → Q (iI (vShown A L R D r)) M') (h0 : ¬ ((A 0 0 ≤ D ∧ D ≤ A 0 1) ∧ 0 ≤ r ∧ r ≤ 11) → Q (iI (-1)) M) : w_X5_shown M (iI D) (iI r) Q := by
  unfold w_X5_shown
  simp only [lm1_, lm2_, lm3_, lm9_, lm10_, lm999_, lm1000_, l0_, l1_, l2_, l3_, l4_, l5_, l6_, l7_, l8_, l9_, l10_, l11_, l12_, l13_, l23_, l24_, l30_, l31_, l33_, l35_, l41_, l42_, l45_, l48_, l57_, l58_, l59_, l60_, l64_, l96_, l99_, l100_, l101_, l126_, l168_, l808_, l909_, l999_, l1439_, iI_add, iI_sub, iI_mul, iI_neg]
  refine s_X5_isOnPage hP hO hD (fun c1 => z1 (s_X5_in hr (by omega) (by omega) (fun c2 => z1 ?_) (fun c2 => z0 (h0 (fun z => c2 z.2))))) (fun c1 => z0 (h0 (fun z => c1 z.1)))
  exact s_X5_laysC hP hO hC (fun M' k1 k2 k3 => s_X5_shownAt k2 hO k1 c1.1 c1.2 c2 (h1 c1 c2 M' k2 k3))
theorem s_X5_rowOf (hP : Pm M 0 A) (hO : Ok A) (hC : Laid Mc p A L R) {a : Int} (ha : i32 a) (hD : i32 D) (h1 : ∀ e : Nat, a = e → (e : Int) < A 0 4 → A 0 0 ≤ D ∧ D ≤ A 0 1 → ∀ M', Pm M' 0 A → sx kl M M' → Q (iI (rowD A L R e D)) M') (h0 : ¬ ((0 ≤ a ∧ a < A 0 4) ∧ A 0 0 ≤ D ∧ D ≤ A 0 1) → Q (iI (-1)) M) : w_X5_rowOf M (iI a) (iI D) Q := by
  unfold w_X5_rowOf
  simp only [lm1_, lm2_, lm3_, lm9_, lm10_, lm999_, lm1000_, l0_, l1_, l2_, l3_, l4_, l5_, l6_, l7_, l8_, l9_, l10_, l11_, l12_, l13_, l23_, l24_, l30_, l31_, l33_, l35_, l41_, l42_, l45_, l48_, l57_, l58_, l59_, l60_, l64_, l96_, l99_, l100_, l101_, l126_, l168_, l808_, l909_, l999_, l1439_, iI_add, iI_sub, iI_mul, iI_neg]
  refine s_X5_isEntry hP hO ha (fun c1 => z1 (s_X5_isOnPage hP hO hD (fun c2 => z1 ?_) (fun c2 => z0 (h0 (fun z => c2 z.2))))) (fun c1 => z0 (h0 (fun z => c1 z.1)))
  obtain ⟨e, rfl⟩ : ∃ e : Nat, a = e := ⟨a.toNat, by omega⟩
  refine s_X5_laysC hP hO hC (fun M' k1 k2 k3 => ?_)
  have h1 := h1 e rfl c1.2 c2 M' k2 k3
  rw [rowD] at h1
  refine s_X5_isOn k2 hO c1.2 hD (fun c => z1 ?_) (fun c => z0 ?_)
  · rw [if_pos c] at h1
    exact s_X5_rowAt k2 k1.2.2.2.2.2.2 hO k1.2.2.2.2.1 k1.2.2.2.2.2.1 c2.1 c2.2 c1.2 h1
  · rw [if_neg c] at h1
    exact h1
theorem s_X5_day (hP : Pm M 0 A) (hO : Ok A) (hC : Laid Mc p A L R) {b : Int} (hD : i32 D) (hb : i32 b) (h1 : A 0 0 ≤ D ∧ D ≤ A 0 1 → 0 ≤ b ∧ b ≤ 5 → ∀ M', Pm M' 0 A → sx kl M M' → Q (iI (vDay A L R D b)) M') (h0 : ¬ ((A 0 0 ≤ D ∧ D ≤ A 0 1) ∧ 0 ≤ b ∧ b ≤ 5) → Q (iI (-1)) M) : w_X5_day M (iI D) (iI b) Q := by
  unfold w_X5_day
  simp only [lm1_, lm2_, lm3_, lm9_, lm10_, lm999_, lm1000_, l0_, l1_, l2_, l3_, l4_, l5_, l6_, l7_, l8_, l9_, l10_, l11_, l12_, l13_, l23_, l24_, l30_, l31_, l33_, l35_, l41_, l42_, l45_, l48_, l57_, l58_, l59_, l60_, l64_, l96_, l99_, l100_, l101_, l126_, l168_, l808_, l909_, l999_, l1439_, iI_add, iI_sub, iI_mul, iI_neg]
  refine s_X5_isOnPage hP hO hD (fun c1 => z1 (s_X5_in hb (by omega) (by omega) (fun c2 => z1 ?_) (fun c2 => z0 (h0 (fun z => c2 z.2))))) (fun c1 => z0 (h0 (fun z => c1 z.1)))
  exact s_X5_laysC hP hO hC (fun M' k1 k2 k3 => s_X5_dayOf k2 hO k1 c1.1 c1.2 c2 (h1 c1 c2 M' k2 k3))
theorem s_X5_week (hP : Pm M 0 A) (hO : Ok A) (hC : Laid Mc p A L R) {w b : Int} (hw : i32 w) (hb : i32 b) (h1 : 0 ≤ w ∧ w < nW A → 0 ≤ b ∧ b ≤ 5 → ∀ M', Pm M' 0 A → sx kl M M' → Q (iI (vWeek A L R w b)) M') (h2 : nW A ≤ w → 0 ≤ b ∧ b ≤ 5 → ∀ M', Pm M' 0 A → sx kl M M' → Q (iI (-9)) M') (h0 : ¬ (0 ≤ w ∧ 0 ≤ b ∧ b ≤ 5) → Q (iI (-1)) M) : w_X5_week M (iI w) (iI b) Q := by
  have hn := nW_b hO
  unfold w_X5_week
  simp only [lm1_, lm2_, lm3_, lm9_, lm10_, lm999_, lm1000_, l0_, l1_, l2_, l3_, l4_, l5_, l6_, l7_, l8_, l9_, l10_, l11_, l12_, l13_, l23_, l24_, l30_, l31_, l33_, l35_, l41_, l42_, l45_, l48_, l57_, l58_, l59_, l60_, l64_, l96_, l99_, l100_, l101_, l126_, l168_, l808_, l909_, l999_, l1439_, iI_add, iI_sub, iI_mul, iI_neg]
  refine s_if (fun q => ?_) (fun q => ?_)
  · have q := (iI_lt (by omega) (by omega) (by omega) (by omega)).mp q
    exact h0 (fun z => by omega)
  have q : ¬ w < 0 := fun z => q ((iI_lt (by omega) (by omega) (by omega) (by omega)).mpr z)
  refine s_X5_in hb (by omega) (by omega) (fun c2 => z1 ?_) (fun c2 => z0 (h0 (fun z => c2 z.2)))
  refine s_X5_laysC hP hO hC (fun M' k1 k2 k3 => s_X5_weeks k2 hO ?_)
  refine s_if (fun q2 => ?_) (fun q2 => ?_)
  · have q2 := (iI_le (by omega) (by omega) (by omega) (by omega)).mp q2
    exact h2 q2 c2 M' k2 k3
  · have q2 : ¬ nW A ≤ w := fun z => q2 ((iI_le (by omega) (by omega) (by omega) (by omega)).mpr z)
    exact s_X5_weekOfAll k2 hO k1 (by omega) c2 (h1 (by omega) c2 M' k2 k3)
theorem s_X5_enough (hP : Pm M 0 A) (hO : Ok A) (hC : Laid Mc p A L R) (h : ∀ M', Pm M' 0 A → ML M' A L R → sx kl M M' → Q (iI (enq A L R (A 0 1 - A 0 0 + 1).toNat)) M') : w_X5_enough M Q := by
  unfold w_X5_enough
  refine s_X5_laysC hP hO hC (fun M' k1 k2 k3 => s_pg k2 (j := 0) (by decide) rfl ?_)
  simp only [lm1_, lm2_, lm3_, lm9_, lm10_, lm999_, lm1000_, l0_, l1_, l2_, l3_, l4_, l5_, l6_, l7_, l8_, l9_, l10_, l11_, l12_, l13_, l23_, l24_, l30_, l31_, l33_, l35_, l41_, l42_, l45_, l48_, l57_, l58_, l59_, l60_, l64_, l96_, l99_, l100_, l101_, l126_, l168_, l808_, l909_, l999_, l1439_, iI_add, iI_sub, iI_mul, iI_neg]
  exact s_mrows k2 hO k1 (fun v => h M' k2 k1 k3)
theorem s_X5_hiddenWith (hP : Pm M 0 A) (hO : Ok A) (hC : Laid Mc p A L R) {r : Int} (hr : -2000000000 ≤ r ∧ r ≤ 2000000000) (h : ∀ M', Pm M' 0 A → ML M' A L R → sx kl M M' → Q (iI (hidP A L R r)) M') : w_X5_hiddenWith M (iI r) Q := by
  have ob := hO.b
  unfold w_X5_hiddenWith
  refine s_X5_laysC hP hO hC (fun M' k1 k2 k3 => s_pg k2 (j := 0) (by decide) rfl (s_pg k2 (j := 1) (by decide) rfl ?_))
  obtain ⟨gL, gR, gLb, gRb, gLm, gRm, gW⟩ := id k1
  exact s_X5_hidden k2 gW hO gLm gRm gLb gRb (by omega) (by omega) (by omega) hr (h M' k2 k1 k3)
theorem s_X5_ifRows (hP : Pm M 0 A) (hO : Ok A) (hC : Laid Mc p A L R) {r : Int} (hr : i32 r) (h1 : 1 ≤ r ∧ r ≤ 12 → ∀ M', Pm M' 0 A → sx kl M M' → Q (iI (hidP A L R r)) M') (h0 : ¬ (1 ≤ r ∧ r ≤ 12) → Q (iI (-1)) M) : w_X5_ifRows M (iI r) Q := by
  unfold w_X5_ifRows
  simp only [lm1_, lm2_, lm3_, lm9_, lm10_, lm999_, lm1000_, l0_, l1_, l2_, l3_, l4_, l5_, l6_, l7_, l8_, l9_, l10_, l11_, l12_, l13_, l23_, l24_, l30_, l31_, l33_, l35_, l41_, l42_, l45_, l48_, l57_, l58_, l59_, l60_, l64_, l96_, l99_, l100_, l101_, l126_, l168_, l808_, l909_, l999_, l1439_, iI_add, iI_sub, iI_mul, iI_neg]
  exact s_X5_in hr (by omega) (by omega) (fun c => z1 (s_X5_hiddenWith hP hO hC (by omega) (fun M' k1 _ k3 => h1 c M' k1 k3))) (fun c => z0 (h0 c))
theorem s_X5_told (hP : Pm M 0 A) (hO : Ok A) (hC : Laid Mc p A L R) {tl n : Nat} (hT : M 17 0 3 = iI tl) (hN : M 17 0 1 = iI n) {b : Int} (hb : i32 b) (h : ∀ M', Pm M' 0 A → sx kl M M' → Q (iI (vTold A L R tl n b)) M') : w_X5_told M (iI b) Q := by
  have ob := hO.b
  have h' := h M hP sx_rf
  unfold w_X5_told
  simp only [lm1_, lm2_, lm3_, lm9_, lm10_, lm999_, lm1000_, l0_, l1_, l2_, l3_, l4_, l5_, l6_, l7_, l8_, l9_, l10_, l11_, l12_, l13_, l23_, l24_, l30_, l31_, l33_, l35_, l41_, l42_, l45_, l48_, l57_, l58_, l59_, l60_, l64_, l96_, l99_, l100_, l101_, l126_, l168_, l808_, l909_, l999_, l1439_, iI_add, iI_sub, iI_mul, iI_neg]
  refine s_if (fun q => ?_) (fun q0 => s_if (fun q => ?_) (fun q1 => s_if (fun q => ?_) (fun q2 => s_if (fun q => ?_) (fun q3 => s_if (fun q => ?_) (fun q4 => s_if (fun q => ?_) (fun q5 => s_if (fun q => ?_) (fun q6 => s_if (fun q => ?_) (fun q7 => s_if (fun q => ?_) (fun q8 => s_if (fun q => ?_) (fun q9 => s_if (fun q => ?_) (fun q10 => s_if (fun q => ?_) (fun q11 => ?_))))))))))))
  · obtain rfl : b = 0 := (iI_eq (by omega) (by omega) (by omega) (by omega)).mp q
    exact s_pg hP (j := 0) (by decide) rfl h'
  · obtain rfl : b = 1 := (iI_eq (by omega) (by omega) (by omega) (by omega)).mp q
    exact s_pg hP (j := 1) (by decide) rfl h'
  · obtain rfl : b = 2 := (iI_eq (by omega) (by omega) (by omega) (by omega)).mp q
    exact s_pg hP (j := 2) (by decide) rfl h'
  · obtain rfl : b = 3 := (iI_eq (by omega) (by omega) (by omega) (by omega)).mp q
    exact s_pg hP (j := 3) (by decide) rfl h'
  · obtain rfl : b = 4 := (iI_eq (by omega) (by omega) (by omega) (by omega)).mp q
    exact s_X5_weeks hP hO h'
  · obtain rfl : b = 5 := (iI_eq (by omega) (by omega) (by omega) (by omega)).mp q
    exact s_pg hP (j := 4) (by decide) rfl h'
  · obtain rfl : b = 6 := (iI_eq (by omega) (by omega) (by omega) (by omega)).mp q
    exact s_X5_longOnes hP hO h'
  · obtain rfl : b = 7 := (iI_eq (by omega) (by omega) (by omega) (by omega)).mp q
    exact s_X5_present hP hO h'
  · obtain rfl : b = 8 := (iI_eq (by omega) (by omega) (by omega) (by omega)).mp q
    unfold w_X5_bars
    refine s_X5_laysC hP hO hC (fun M' k1 k2 k3 => ?_)
    simp only [lm1_, lm2_, lm3_, lm9_, lm10_, lm999_, lm1000_, l0_, l1_, l2_, l3_, l4_, l5_, l6_, l7_, l8_, l9_, l10_, l11_, l12_, l13_, l23_, l24_, l30_, l31_, l33_, l35_, l41_, l42_, l45_, l48_, l57_, l58_, l59_, l60_, l64_, l96_, l99_, l100_, l101_, l126_, l168_, l808_, l909_, l999_, l1439_, iI_add, iI_sub, iI_mul, iI_neg]
    exact s_mbars k2 hO k1 (fun v => h M' k2 k3)
  · obtain rfl : b = 9 := (iI_eq (by omega) (by omega) (by omega) (by omega)).mp q
    exact s_pg hP (j := 3) (by decide) rfl (s_X5_hiddenWith hP hO hC (by omega) (fun M' k1 _ k3 => h M' k1 k3))
  · obtain rfl : b = 10 := (iI_eq (by omega) (by omega) (by omega) (by omega)).mp q
    rw [hT]
    exact h'
  · obtain rfl : b = 11 := (iI_eq (by omega) (by omega) (by omega) (by omega)).mp q
    rw [hN]
    exact h'
  · have n0 : ¬ b = 0 := fun z => q0 (by rw [z])
    have n1 : ¬ b = 1 := fun z => q1 (by rw [z])
    have n2 : ¬ b = 2 := fun z => q2 (by rw [z])
    have n3 : ¬ b = 3 := fun z => q3 (by rw [z])
    have n4 : ¬ b = 4 := fun z => q4 (by rw [z])
    have n5 : ¬ b = 5 := fun z => q5 (by rw [z])
    have n6 : ¬ b = 6 := fun z => q6 (by rw [z])
    have n7 : ¬ b = 7 := fun z => q7 (by rw [z])
    have n8 : ¬ b = 8 := fun z => q8 (by rw [z])
    have n9 : ¬ b = 9 := fun z => q9 (by rw [z])
    have n10 : ¬ b = 10 := fun z => q10 (by rw [z])
    have n11 : ¬ b = 11 := fun z => q11 (by rw [z])
    rw [vTold, if_neg n0, if_neg n1, if_neg n2, if_neg n3, if_neg n4, if_neg n5, if_neg n6, if_neg n7, if_neg n8, if_neg n9, if_neg n10, if_neg n11] at h'
    exact h'
end MQ2
