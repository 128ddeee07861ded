/-- how many are hidden on a day, with r rows -/
abbrev hidD (A : Ab) (L : Nat → Nat → Int) (R : Nat → Int) (D r : Int) : Nat := hidN A L R D (mrk (ned A L R D (A 0 4).toNat) r) (A 0 4).toNat
/-- and on the page -/
abbrev hidP (A : Ab) (L : Nat → Nat → Int) (R : Nat → Int) (r : Int) : Nat := hidS A L R r (A 0 0) (A 0 1 + 1 - A 0 0).toNat
theorem iI_nz {n : Nat} (h : n < 2147483648) (z : iI (n : Int) = (0 : Int32)) : n = 0 := by
  rw [l0_] at z
  have := (iI_eq (by omega) (by omega) (by omega) (by omega)).mp z
  omega
section CH
variable {M : Mm} {p : Nat} {A : Ab} {L : Nat → Nat → Int} {R : Nat → Int} {D : Int} {Q : Int32 → Mm → Prop}
theorem s_X0_hiddenOnDay (hP : Pl M p A) (hO : Ok A) (hL : Laid M p A L R) (d1 : A 0 0 ≤ D) (d2 : D ≤ A 0 1) {r : Int} (hr : 1 ≤ r ∧ r ≤ 24) (h : Q (iI (hidD A L R D r)) M) : w_X0_hiddenOnDay p M (iI D) (iI r) Q := by
  have ob := hO.b
  obtain ⟨gW, gL, gR, gLb, gRb, gLm, g8, gT⟩ := hL
  obtain ⟨T, hT1, hT2⟩ := Bt.get hO gT d1 d2
  obtain ⟨hn1, hn2⟩ := hT2.ned hO
  have hT3 := hT2.1
  have hnb := ned_b (A := A) (D := D) gLb gRb (A 0 4).toNat
  obtain ⟨k, rfl⟩ : ∃ k : Nat, r = k := ⟨r.toNat, by omega⟩
  unfold w_X0_hiddenOnDay
  rw [hP.1 0 (by decide), iI_sub]
  refine s_ldA (by omega) (by omega) (by decide) ?_
  rw [hT1, bit_sh (by omega) (by omega)]
  have hle : T >>> k ≤ T := by rw [Nat.shiftRight_eq_div_pow]; exact Nat.div_le_self _ _
  by_cases hN : (k : Int) < ned A L R D (A 0 4).toNat
  · have hz : T >>> k ≠ 0 := fun z => by
      have h1 := hn2 (ned A L R D (A 0 4).toNat - 1).toNat (by omega)
      have h2 := Nat.testBit_shiftRight (x := T) (i := k) (j := (ned A L R D (A 0 4).toNat - 1).toNat - k)
      rw [z, Nat.zero_testBit, show k + ((ned A L R D (A 0 4).toNat - 1).toNat - k) = (ned A L R D (A 0 4).toNat - 1).toNat by omega, h1] at h2
      cases h2
    rw [if_neg (fun z => hz (iI_nz (Nat.lt_of_le_of_lt hle (by omega)) z))]
    rw [show iI (k : Int) - (1 : Int32) = iI ((k - 1 : Nat) : Int) by rw [l1_, iI_sub]; congr 1; omega, bit_sh (by omega) (by omega)]
    have hle2 : T >>> (k - 1) ≤ T := by rw [Nat.shiftRight_eq_div_pow]; exact Nat.div_le_self _ _
    refine s_bitCount (Nat.lt_of_le_of_lt hle2 hT3) ?_
    rw [hidD, mrk, if_pos hN, show (k : Int) - 1 = ((k - 1 : Nat) : Int) by omega, hT2.hid hO gL gR gLb gRb d1 d2] at h
    exact h
  · have hz : T >>> k = 0 := by
      apply Nat.eq_of_testBit_eq
      intro i
      rw [Nat.testBit_shiftRight, Nat.zero_testBit]
      cases hb : T.testBit (k + i) with
      | false => rfl
      | true =>
        have := hn1 _ hb
        omega
    rw [hz, if_pos (show iI ((0 : Nat) : Int) = (0 : Int32) from rfl)]
    rw [hidD, mrk, if_neg hN] at h
    have h0 : hidN A L R D (ned A L R D (A 0 4).toNat) (A 0 4).toNat = 0 := by
      refine cntP_no (fun o ho q => ?_)
      have q := of_decide_eq_true q
      have := ned_ge (A := A) (L := L) (R := R) (D := D) (k := (A 0 4).toNat) ho q.1
      omega
    rw [h0] at h
    exact h
theorem s_X0_rowsOnDay (hP : Pl M p A) (hO : Ok A) (hL : Laid M p A L R) (d1 : A 0 0 ≤ D) (d2 : D ≤ A 0 1) (h : Q (iI (ned A L R D (A 0 4).toNat)) M) : w_X0_rowsOnDay p M (iI D) Q := by
  have ob := hO.b
  obtain ⟨gW, gL, gR, gLb, gRb, gLm, g8, gT⟩ := hL
  obtain ⟨T, hT1, hT2⟩ := Bt.get hO gT d1 d2
  obtain ⟨hn1, hn2⟩ := hT2.ned hO
  have hT3 := hT2.1
  have hnb := ned_b (A := A) (D := D) gLb gRb (A 0 4).toNat
  unfold w_X0_rowsOnDay
  refine loop_I (fun k x => x = (iI (k : Nat), M) ∧ ned A L R D (A 0 4).toNat ≤ k ∧ k ≤ 24) ?_ (k := 24) ⟨rfl, by omega, by omega⟩
  rintro Rr k x ⟨rfl, h1, h2⟩ hR
  unfold w_X0_rowsOnDay_L3
  dsimp only
  rw [hP.1 0 (by decide), iI_sub]
  refine s_if (fun q => ?_) (fun q => ?_)
  · rw [l0_] at q
    have q := (iI_le (by omega) (by omega) (by omega) (by omega)).mp q
    rw [show (k : Int) = ned A L R D (A 0 4).toNat by omega]
    exact h
  · have q : ¬ (k : Int) ≤ 0 := fun z => q (by rw [l0_]; exact (iI_le (by omega) (by omega) (by omega) (by omega)).mpr z)
    refine s_ldA (by omega) (by omega) (by decide) ?_
    rw [hT1, show iI (k : Int) - (1 : Int32) = iI ((k - 1 : Nat) : Int) by rw [l1_, iI_sub]; congr 1; omega, bit_t (by omega) (by omega)]
    by_cases hb : T.testBit (k - 1) = true
    · rw [if_pos hb, if_neg (by decide)]
      have := hn1 _ hb
      rw [show (k : Int) = ned A L R D (A 0 4).toNat by omega]
      exact h
    · rw [if_neg hb, if_pos (by decide)]
      refine s_bI (hR (k - 1) _ (by omega) ⟨by rw [lm1_, iI_add, show (k : Int) + -1 = ((k - 1 : Nat) : Int) by omega], ?_, by omega⟩)
      have : ¬ ned A L R D (A 0 4).toNat = ((k - 1 : Nat) : Int) + 1 := fun z => hb (hn2 _ z)
      omega
theorem s_X0_hiddenOnDays (hP : Pl M p A) (hO : Ok A) (hL : Laid M p A L R) {a b : Int} (d0 : a ≤ b + 1) (d1 : A 0 0 ≤ a) (d2 : b ≤ A 0 1) {r : Int} (hr : 1 ≤ r ∧ r ≤ 24) (h : Q (iI (hidS A L R r a (b + 1 - a).toNat)) M) : w_X0_hiddenOnDays p M (iI a) (iI b) (iI r) Q := by
  have ob := hO.b
  unfold w_X0_hiddenOnDays
  refine loop_up (fun k x => x = (iI (hidS A L R r a k), iI (a + k), M)) (b + 1 - a).toNat ?_ ?_ (Nat.zero_le _) (by rw [show a + ((0 : Nat) : Int) = a by omega]; rfl)
  · rintro Rr k x hk rfl hRr
    unfold w_X0_hiddenOnDays_L6
    dsimp only
    rw [if_neg (fun z => by have := (iI_lt (by omega) (by omega) (by omega) (by omega)).mp z; omega)]
    refine s_X0_hiddenOnDay hP hO hL (by omega) (by omega) hr ?_
    simp only [lm1_, lm2_, lm3_, lm9_, lm10_, lm999_, lm1000_, l0_, l1_, l2_, l3_, l4_, l5_, l6_, l7_, l8_, l9_, l10_, l11_, l12_, l13_, l23_, l24_, l30_, l31_, l33_, l35_, l41_, l42_, l45_, l48_, l57_, l58_, l59_, l60_, l64_, l96_, l99_, l100_, l101_, l126_, l168_, l808_, l909_, l900_, l20_, l1440_, l2003_, l15486209_, l2147483647_, l999_, l1439_, iI_add, iI_sub, iI_mul, iI_neg]
    refine s_bI (s_bI (hRr _ ?_))
    rw [show a + ((k + 1 : Nat) : Int) = a + k + 1 by omega]
    rfl
  · rintro Rr x rfl
    unfold w_X0_hiddenOnDays_L6
    dsimp only
    rw [if_pos ((iI_lt (by omega) (by omega) (by omega) (by omega)).mpr (by omega))]
    exact h
theorem s_X0_hiddenOnPage (hP : Pl M p A) (hO : Ok A) (hL : Laid M p A L R) {r : Int} (hr : 1 ≤ r ∧ r ≤ 24) (h : Q (iI (hidP A L R r)) M) : w_X0_hiddenOnPage p M (iI r) Q := by
  have ob := hO.b
  unfold w_X0_hiddenOnPage
  rw [hP.1 0 (by decide), hP.1 1 (by decide)]
  exact s_X0_hiddenOnDays hP hO hL (by omega) (by omega) (by omega) hr h
end CH
