theorem zT {P1 P2 : Prop} [Decidable True] (h : P1) : if True then P1 else P2 := by
  rw [if_pos trivial]
  exact h
/-- how many of n days from c on lie from a to b -/
theorem cnt_days {a b c : Int} (hab : a ≤ b) (n : Nat) : (cntP (fun k => decide (a ≤ c + k ∧ c + k ≤ b)) n : Int) = max 0 (min b (c + n - 1) - max a c + 1) := by
  induction n with
  | zero =>
    show ((0 : Nat) : Int) = _
    omega
  | succ n ih =>
    by_cases h : a ≤ c + n ∧ c + n ≤ b
    · rw [cntP_t (decide_eq_true h)]
      omega
    · rw [cntP_f (fun z => h (of_decide_eq_true z))]
      omega
/-- the reference, laid -/
def ML (M : Mm) (A : Ab) (L : Nat → Nat → Int) (R : Nat → Int) : Prop := LayL A L ∧ LayR A L R ∧ Lbd L ∧ Rbd R ∧ Lmm M L ∧ Rm M R ∧ Wm M A
abbrev shn (A : Ab) (a b : Int) (k : Nat) : Nat := cntP (fun e => decide (¬ lng A e ∧ A 1 e ≤ b ∧ a ≤ A 2 e)) k
abbrev lgd (A : Ab) (a : Int) (k : Nat) : Nat := cntP (fun e => decide (lng A e ∧ A 1 e ≤ a ∧ a ≤ A 2 e)) k
abbrev lgn (A : Ab) (k : Nat) : Nat := cntP (fun e => decide (lng A e)) k
abbrev prn (A : Ab) (k : Nat) : Nat := cntP (fun e => decide (A 1 e ≤ A 0 1 ∧ A 0 0 ≤ A 2 e)) k
abbrev odn (A : Ab) (e : Nat) (k : Nat) : Nat := cntP (fun j => decide (onD A (A 0 0 + j) e)) k
/-- the rows that the first k days need, at least 1 -/
def enq (A : Ab) (L : Nat → Nat → Int) (R : Nat → Int) : Nat → Int
  | 0 => 1
  | k + 1 => max (enq A L R k) (ned A L R (A 0 0 + k) (A 0 4).toNat)
theorem enq_b {A : Ab} {L : Nat → Nat → Int} {R : Nat → Int} (hLb : Lbd L) (hRb : Rbd R) (k : Nat) : 1 ≤ enq A L R k ∧ enq A L R k ≤ 24 := by
  induction k with
  | zero => exact ⟨Int.le_refl _, (by decide : (1 : Int) ≤ 24)⟩
  | succ k ih =>
    have := ned_b (A := A) (D := A 0 0 + k) hLb hRb (A 0 4).toNat
    show 1 ≤ max (enq A L R k) (ned A L R (A 0 0 + k) (A 0 4).toNat) ∧ max (enq A L R k) (ned A L R (A 0 0 + k) (A 0 4).toNat) ≤ 24
    omega
section MG
variable {M : Mm} {A : Ab} {L : Nat → Nat → Int} {R : Nat → Int} {D : Int} {Q : Int32 → Mm → Prop}
theorem s_X5_lanesIn (hP : Pm M 0 A) (hO : Ok A) (hM : Lmm M L) (hLb : Lbd L) {w : Nat} (hw : w < 7) (h : Q (iI (lns L w (A 0 4).toNat)) M) : w_X5_lanesIn M (iI w) Q := by
  have ob := hO.b
  unfold w_X5_lanesIn
  refine loop_up (fun k x => x = (iI (lns L w k), iI k, M)) (A 0 4).toNat ?_ ?_ (Nat.zero_le _) rfl
  · rintro Rr k x hk rfl hRr
    have hb := hLb k w
    have hl := lns_b hLb w k
    unfold w_X5_lanesIn_L4
    dsimp only
    refine s_pg hP (j := 4) (by decide) rfl ?_
    simp only [lm1_, lm2_, lm3_, lm9_, lm10_, lm999_, lm1000_, l0_, l1_, l2_, l3_, l4_, l5_, l6_, l7_, l8_, l9_, l10_, l11_, l12_, l13_, l23_, l24_, l30_, l31_, l33_, l35_, l41_, l42_, l45_, l48_, l57_, l58_, l59_, l60_, l64_, l96_, l99_, l100_, l101_, l126_, l168_, l808_, l909_, l999_, l1439_, iI_add, iI_sub, iI_mul, iI_neg]
    rw [if_neg (fun z => by have := (iI_le (by omega) (by omega) (by omega) (by omega)).mp z; omega)]
    refine s_lm hM (by omega) hw ?_
    refine s_if (fun q => ?_) (fun q => ?_)
    · have q := (iI_lt (by omega) (by omega) (by omega) (by omega)).mp q
      refine s_bI (hRr _ ?_)
      rw [show lns L w (k + 1) = lns L w k by show max (lns L w k) (L k w + 1) = _; omega]
      rfl
    · have q : ¬ L k w < lns L w k := fun z => q ((iI_lt (by omega) (by omega) (by omega) (by omega)).mpr z)
      refine s_lm hM (by omega) hw ?_
      simp only [lm1_, lm2_, lm3_, lm9_, lm10_, lm999_, lm1000_, l0_, l1_, l2_, l3_, l4_, l5_, l6_, l7_, l8_, l9_, l10_, l11_, l12_, l13_, l23_, l24_, l30_, l31_, l33_, l35_, l41_, l42_, l45_, l48_, l57_, l58_, l59_, l60_, l64_, l96_, l99_, l100_, l101_, l126_, l168_, l808_, l909_, l999_, l1439_, iI_add, iI_sub, iI_mul, iI_neg]
      refine s_bI (s_bI (hRr _ ?_))
      rw [show lns L w (k + 1) = L k w + 1 by show max (lns L w k) (L k w + 1) = _; omega]
      rfl
  · rintro Rr x rfl
    unfold w_X5_lanesIn_L4
    dsimp only
    refine s_pg hP (j := 4) (by decide) rfl ?_
    rw [if_pos ((iI_le (by omega) (by omega) (by omega) (by omega)).mpr (by omega))]
    exact h
theorem s_X5_shortsIn (hP : Pm M 0 A) (hO : Ok A) {a b : Int} (ha : i32 a) (hb : i32 b) (h : Q (iI (shn A a b (A 0 4).toNat)) M) : w_X5_shortsIn M (iI a) (iI b) Q := by
  have ob := hO.b
  unfold w_X5_shortsIn
  refine loop_up (fun k x => x = (iI (shn A a b k), iI k, M)) (A 0 4).toNat ?_ ?_ (Nat.zero_le _) rfl
  · rintro Rr k x hk rfl hRr
    have hk1 : (k : Int) < A 0 4 := by omega
    have ok := hO.e hk1
    unfold w_X5_shortsIn_L5
    dsimp only
    refine s_pg hP (j := 4) (by decide) rfl ?_
    simp only [lm1_, lm2_, lm3_, lm9_, lm10_, lm999_, lm1000_, l0_, l1_, l2_, l3_, l4_, l5_, l6_, l7_, l8_, l9_, l10_, l11_, l12_, l13_, l23_, l24_, l30_, l31_, l33_, l35_, l41_, l42_, l45_, l48_, l57_, l58_, l59_, l60_, l64_, l96_, l99_, l100_, l101_, l126_, l168_, l808_, l909_, l999_, l1439_, iI_add, iI_sub, iI_mul, iI_neg]
    rw [if_neg (fun z => by have := (iI_le (by omega) (by omega) (by omega) (by omega)).mp z; omega)]
    have hno : ¬ (¬ lng A k ∧ A 1 k ≤ b ∧ a ≤ A 2 k) → Rr (iI (shn A a b k : Int), iI ((k : Int) + 1), M) := fun z => hRr _ (by rw [show shn A a b (k + 1) = shn A a b k from cntP_f (fun q => z (of_decide_eq_true q))]; rfl)
    refine s_X5_isLong hP hO hk1 (fun c => z1 ?_) (fun c => z0 (s_X5_begins hP hO hk1 (s_X5_in (by omega) ha hb (fun c2 => z1 ?_) (fun c2 => z0 ?_))))
    · rw [Int.add_zero]
      exact s_bI (s_bI (hno (fun z => z.1 c)))
    · have := sh_same hO hk1 c
      refine s_bI (s_bI (hRr _ ?_))
      rw [show shn A a b (k + 1) = shn A a b k + 1 from cntP_t (decide_eq_true ⟨c, by omega, by omega⟩)]
      rfl
    · have := sh_same hO hk1 c
      rw [Int.add_zero]
      exact s_bI (s_bI (hno (fun z => c2 (by omega))))
  · rintro Rr x rfl
    unfold w_X5_shortsIn_L5
    dsimp only
    refine s_pg hP (j := 4) (by decide) rfl ?_
    rw [if_pos ((iI_le (by omega) (by omega) (by omega) (by omega)).mpr (by omega))]
    exact h
theorem s_X5_barsOn (hP : Pm M 0 A) (hO : Ok A) {a : Int} (ha : i32 a) (h : Q (iI (lgd A a (A 0 4).toNat)) M) : w_X5_barsOn M (iI a) Q := by
  have ob := hO.b
  unfold w_X5_barsOn
  refine loop_up (fun k x => x = (iI (lgd A a k), iI k, M)) (A 0 4).toNat ?_ ?_ (Nat.zero_le _) rfl
  · rintro Rr k x hk rfl hRr
    have hk1 : (k : Int) < A 0 4 := by omega
    unfold w_X5_barsOn_L4
    dsimp only
    refine s_pg hP (j := 4) (by decide) rfl ?_
    simp only [lm1_, lm2_, lm3_, lm9_, lm10_, lm999_, lm1000_, l0_, l1_, l2_, l3_, l4_, l5_, l6_, l7_, l8_, l9_, l10_, l11_, l12_, l13_, l23_, l24_, l30_, l31_, l33_, l35_, l41_, l42_, l45_, l48_, l57_, l58_, l59_, l60_, l64_, l96_, l99_, l100_, l101_, l126_, l168_, l808_, l909_, l999_, l1439_, iI_add, iI_sub, iI_mul, iI_neg]
    rw [if_neg (fun z => by have := (iI_le (by omega) (by omega) (by omega) (by omega)).mp z; omega)]
    have hno : ¬ (lng A k ∧ A 1 k ≤ a ∧ a ≤ A 2 k) → Rr (iI (lgd A a k : Int), iI ((k : Int) + 1), M) := fun z => hRr _ (by rw [show lgd A a (k + 1) = lgd A a k from cntP_f (fun q => z (of_decide_eq_true q))]; rfl)
    refine s_X5_isLong hP hO hk1 (fun c => z1 (s_X5_isOn hP hO hk1 ha (fun c2 => z1 ?_) (fun c2 => z0 ?_))) (fun c => z0 ?_)
    · refine s_bI (s_bI (hRr _ ?_))
      rw [show lgd A a (k + 1) = lgd A a k + 1 from cntP_t (decide_eq_true ⟨c, c2⟩)]
      rfl
    · rw [Int.add_zero]
      exact s_bI (s_bI (hno (fun z => c2 z.2)))
    · rw [Int.add_zero]
      exact s_bI (s_bI (hno (fun z => c z.1)))
  · rintro Rr x rfl
    unfold w_X5_barsOn_L4
    dsimp only
    refine s_pg hP (j := 4) (by decide) rfl ?_
    rw [if_pos ((iI_le (by omega) (by omega) (by omega) (by omega)).mpr (by omega))]
    exact h
theorem s_X5_longOnes (hP : Pm M 0 A) (hO : Ok A) (h : Q (iI (lgn A (A 0 4).toNat)) M) : w_X5_longOnes M Q := by
  have ob := hO.b
  unfold w_X5_longOnes
  refine loop_up (fun k x => x = (iI (lgn A k), iI k, M)) (A 0 4).toNat ?_ ?_ (Nat.zero_le _) rfl
  · rintro Rr k x hk rfl hRr
    have hk1 : (k : Int) < A 0 4 := by omega
    unfold w_X5_longOnes_L4
    dsimp only
    refine s_pg hP (j := 4) (by decide) rfl ?_
    simp only [lm1_, lm2_, lm3_, lm9_, lm10_, lm999_, lm1000_, l0_, l1_, l2_, l3_, l4_, l5_, l6_, l7_, l8_, l9_, l10_, l11_, l12_, l13_, l23_, l24_, l30_, l31_, l33_, l35_, l41_, l42_, l45_, l48_, l57_, l58_, l59_, l60_, l64_, l96_, l99_, l100_, l101_, l126_, l168_, l808_, l909_, l999_, l1439_, iI_add, iI_sub, iI_mul, iI_neg]
    rw [if_neg (fun z => by have := (iI_le (by omega) (by omega) (by omega) (by omega)).mp z; omega)]
    refine s_X5_isLong hP hO hk1 (fun c => z1 (s_bI (s_bI (hRr _ ?_)))) (fun c => z0 (s_bI (s_bI (hRr _ ?_))))
    · rw [show lgn A (k + 1) = lgn A k + 1 from cntP_t (decide_eq_true c)]
      rfl
    · rw [show lgn A (k + 1) = lgn A k from cntP_f (fun q => c (of_decide_eq_true q)), Int.add_zero]
      rfl
  · rintro Rr x rfl
    unfold w_X5_longOnes_L4
    dsimp only
    refine s_pg hP (j := 4) (by decide) rfl ?_
    rw [if_pos ((iI_le (by omega) (by omega) (by omega) (by omega)).mpr (by omega))]
    exact h
theorem s_X5_present (hP : Pm M 0 A) (hO : Ok A) (h : Q (iI (prn A (A 0 4).toNat)) M) : w_X5_present M Q := by
  have ob := hO.b
  unfold w_X5_present
  refine loop_up (fun k x => x = (iI (prn A k), iI k, M)) (A 0 4).toNat ?_ ?_ (Nat.zero_le _) rfl
  · rintro Rr k x hk rfl hRr
    have hk1 : (k : Int) < A 0 4 := by omega
    have ok := hO.e hk1
    unfold w_X5_present_L4
    dsimp only
    refine s_pg hP (j := 4) (by decide) rfl ?_
    simp only [lm1_, lm2_, lm3_, lm9_, lm10_, lm999_, lm1000_, l0_, l1_, l2_, l3_, l4_, l5_, l6_, l7_, l8_, l9_, l10_, l11_, l12_, l13_, l23_, l24_, l30_, l31_, l33_, l35_, l41_, l42_, l45_, l48_, l57_, l58_, l59_, l60_, l64_, l96_, l99_, l100_, l101_, l126_, l168_, l808_, l909_, l999_, l1439_, iI_add, iI_sub, iI_mul, iI_neg]
    rw [if_neg (fun z => by have := (iI_le (by omega) (by omega) (by omega) (by omega)).mp z; omega)]
    have hno : ¬ (A 1 k ≤ A 0 1 ∧ A 0 0 ≤ A 2 k) → Rr (iI (prn A k : Int), iI ((k : Int) + 1), M) := fun z => hRr _ (by rw [show prn A (k + 1) = prn A k from cntP_f (fun q => z (of_decide_eq_true q))]; rfl)
    refine s_X5_begins hP hO hk1 (s_pg hP (j := 1) (by decide) rfl ?_)
    refine s_if (fun q => ?_) (fun q => s_X5_ends hP hO hk1 (s_pg hP (j := 0) (by decide) rfl ?_))
    · have q := (iI_lt (by omega) (by omega) (by omega) (by omega)).mp q
      rw [Int.add_zero]
      exact s_bI (s_bI (hno (fun z => by omega)))
    · have q : ¬ A 0 1 < A 1 k := fun z => q ((iI_lt (by omega) (by omega) (by omega) (by omega)).mpr z)
      refine s_if (fun q2 => ?_) (fun q2 => ?_)
      · have q2 := (iI_lt (by omega) (by omega) (by omega) (by omega)).mp q2
        rw [Int.add_zero]
        exact s_bI (s_bI (hno (fun z => by omega)))
      · have q2 : ¬ A 2 k < A 0 0 := fun z => q2 ((iI_lt (by omega) (by omega) (by omega) (by omega)).mpr z)
        refine s_bI (s_bI (hRr _ ?_))
        rw [show prn A (k + 1) = prn A k + 1 from cntP_t (decide_eq_true ⟨by omega, by omega⟩)]
        rfl
  · rintro Rr x rfl
    unfold w_X5_present_L4
    dsimp only
    refine s_pg hP (j := 4) (by decide) rfl ?_
    rw [if_pos ((iI_le (by omega) (by omega) (by omega) (by omega)).mpr (by omega))]
    exact h
theorem s_X5_barsOf (hM : Lmm M L) (hLb : Lbd L) {e : Nat} (he : e < 24) (h : Q (iI (bre L e)) M) : w_X5_barsOf M (iI e) Q := by
  unfold w_X5_barsOf
  refine loop_up (fun k x => x = (iI (cntP (fun w => decide (L e w ≠ -9)) k), iI k, M)) 7 ?_ ?_ (Nat.zero_le _) rfl
  · rintro Rr k x hk rfl hRr
    have hb := hLb e k
    unfold w_X5_barsOf_L4
    dsimp only
    simp only [lm1_, lm2_, lm3_, lm9_, lm10_, lm999_, lm1000_, l0_, l1_, l2_, l3_, l4_, l5_, l6_, l7_, l8_, l9_, l10_, l11_, l12_, l13_, l23_, l24_, l30_, l31_, l33_, l35_, l41_, l42_, l45_, l48_, l57_, l58_, l59_, l60_, l64_, l96_, l99_, l100_, l101_, l126_, l168_, l808_, l909_, l999_, l1439_, iI_add, iI_sub, iI_mul, iI_neg]
    rw [if_neg (fun z => by have := (iI_le (by omega) (by omega) (by omega) (by omega)).mp z; omega)]
    refine s_lm hM he hk ?_
    refine s_if (fun q => ?_) (fun q => ?_)
    · have q := (iI_eq (by omega) (by omega) (by omega) (by omega)).mp q
      refine s_bI (s_bI (hRr _ ?_))
      rw [Int.add_zero, show cntP (fun w => decide (L e w ≠ -9)) (k + 1) = cntP (fun w => decide (L e w ≠ -9)) k from cntP_f (by rw [decide_eq_true_eq]; exact fun z => z q)]
      rfl
    · refine s_bI (s_bI (hRr _ ?_))
      rw [show cntP (fun w => decide (L e w ≠ -9)) (k + 1) = cntP (fun w => decide (L e w ≠ -9)) k + 1 from cntP_t (by rw [decide_eq_true_eq]; exact fun z => q (by rw [z]))]
      rfl
  · rintro Rr x rfl
    unfold w_X5_barsOf_L4
    dsimp only
    simp only [lm1_, lm2_, lm3_, lm9_, lm10_, lm999_, lm1000_, l0_, l1_, l2_, l3_, l4_, l5_, l6_, l7_, l8_, l9_, l10_, l11_, l12_, l13_, l23_, l24_, l30_, l31_, l33_, l35_, l41_, l42_, l45_, l48_, l57_, l58_, l59_, l60_, l64_, l96_, l99_, l100_, l101_, l126_, l168_, l808_, l909_, l999_, l1439_, iI_add, iI_sub, iI_mul, iI_neg]
    rw [if_pos ((iI_le (by omega) (by omega) (by omega) (by omega)).mpr (by omega))]
    exact h
theorem s_X5_daysOf0 (hP : Pm M 0 A) (hO : Ok A) {e : Nat} (he : (e : Int) < A 0 4) (h : Q (iI (odn A e (A 0 1 - A 0 0 + 1).toNat)) M) : w_X5_daysOf M (iI e) (iI 0) Q := by
  have ob := hO.b
  unfold w_X5_daysOf
  refine s_pg hP (j := 0) (by decide) rfl ?_
  refine loop_up (fun k x => x = (iI (odn A e k), iI (A 0 0 + k), M)) (A 0 1 - A 0 0 + 1).toNat ?_ ?_ (Nat.zero_le _) (by rw [show A 0 0 + ((0 : Nat) : Int) = A 0 0 by omega]; rfl)
  · rintro Rr k x hk rfl hRr
    unfold w_X5_daysOf_L10
    dsimp only
    refine s_pg hP (j := 1) (by decide) rfl ?_
    simp only [lm1_, lm2_, lm3_, lm9_, lm10_, lm999_, lm1000_, l0_, l1_, l2_, l3_, l4_, l5_, l6_, l7_, l8_, l9_, l10_, l11_, l12_, l13_, l23_, l24_, l30_, l31_, l33_, l35_, l41_, l42_, l45_, l48_, l57_, l58_, l59_, l60_, l64_, l96_, l99_, l100_, l101_, l126_, l168_, l808_, l909_, l999_, l1439_, iI_add, iI_sub, iI_mul, iI_neg]
    rw [if_neg (fun z => by have := (iI_lt (by omega) (by omega) (by omega) (by omega)).mp z; omega)]
    refine s_X5_isOn hP hO he (by omega) (fun c => z1 (zT (s_bI (s_bI (hRr _ ?_))))) (fun c => z0 (s_bI (s_bI (hRr _ ?_))))
    · rw [show odn A e (k + 1) = odn A e k + 1 from cntP_t (decide_eq_true c), show A 0 0 + ((k + 1 : Nat) : Int) = A 0 0 + k + 1 by omega]
      rfl
    · rw [show odn A e (k + 1) = odn A e k from cntP_f (fun q => c (of_decide_eq_true q)), Int.add_zero, show A 0 0 + ((k + 1 : Nat) : Int) = A 0 0 + k + 1 by omega]
  · rintro Rr x rfl
    unfold w_X5_daysOf_L10
    dsimp only
    refine s_pg hP (j := 1) (by decide) rfl ?_
    rw [if_pos ((iI_lt (by omega) (by omega) (by omega) (by omega)).mpr (by omega))]
    exact h
theorem s_X5_daysOf1 (hP : Pm M 0 A) (hO : Ok A) (hL : ML M A L R) {e : Nat} (he : (e : Int) < A 0 4) (h : Q (iI (hdd A L R e (A 0 1 - A 0 0 + 1).toNat)) M) : w_X5_daysOf M (iI e) (iI 1) Q := by
  have ob := hO.b
  obtain ⟨gL, gR, gLb, gRb, gLm, gRm, gW⟩ := hL
  unfold w_X5_daysOf
  refine s_pg hP (j := 0) (by decide) rfl ?_
  refine loop_up (fun k x => x = (iI (hdd A L R e k), iI (A 0 0 + k), M)) (A 0 1 - A 0 0 + 1).toNat ?_ ?_ (Nat.zero_le _) (by rw [show A 0 0 + ((0 : Nat) : Int) = A 0 0 by omega]; rfl)
  · rintro Rr k x hk rfl hRr
    have hrb := rowv_b (A := A) (D := A 0 0 + k) gLb gRb e
    have hnb := ned_b (A := A) (D := A 0 0 + k) gLb gRb (A 0 4).toNat
    unfold w_X5_daysOf_L10
    dsimp only
    refine s_pg hP (j := 1) (by decide) rfl ?_
    simp only [lm1_, lm2_, lm3_, lm9_, lm10_, lm999_, lm1000_, l0_, l1_, l2_, l3_, l4_, l5_, l6_, l7_, l8_, l9_, l10_, l11_, l12_, l13_, l23_, l24_, l30_, l31_, l33_, l35_, l41_, l42_, l45_, l48_, l57_, l58_, l59_, l60_, l64_, l96_, l99_, l100_, l101_, l126_, l168_, l808_, l909_, l999_, l1439_, iI_add, iI_sub, iI_mul, iI_neg]
    rw [if_neg (fun z => by have := (iI_lt (by omega) (by omega) (by omega) (by omega)).mp z; omega)]
    have hno : ¬ (onD A (A 0 0 + k) e ∧ mrk (ned A L R (A 0 0 + k) (A 0 4).toNat) (A 0 3) ≤ rowv A L R (A 0 0 + k) e) → Rr (iI (hdd A L R e k : Int), iI (A 0 0 + k + 1), M) := fun z => hRr _ (by rw [show hdd A L R e (k + 1) = hdd A L R e k from cntP_f (fun q => z (of_decide_eq_true q)), show A 0 0 + ((k + 1 : Nat) : Int) = A 0 0 + k + 1 by omega])
    refine s_X5_isOn hP hO he (by omega) (fun c => z1 (z1 (s_X5_rowAt hP gW hO gLm gRm (by omega) (by omega) he (s_pg hP (j := 3) (by decide) rfl (s_X5_markOf hP gW hO gLm gRm gLb gRb (by omega) (by omega) (by omega) ?_))))) (fun c => z0 ?_)
    · have hm : 0 ≤ mrk (ned A L R (A 0 0 + k) (A 0 4).toNat) (A 0 3) ∧ mrk (ned A L R (A 0 0 + k) (A 0 4).toNat) (A 0 3) ≤ 24 := by
        unfold mrk
        split <;> omega
      refine s_if (fun q => ?_) (fun q => ?_)
      · have q := (iI_lt (by omega) (by omega) (by omega) (by omega)).mp q
        rw [Int.add_zero]
        exact s_bI (s_bI (hno (fun z => by have := z.2; omega)))
      · have q : ¬ rowv A L R (A 0 0 + k) e < mrk (ned A L R (A 0 0 + k) (A 0 4).toNat) (A 0 3) := fun z => q ((iI_lt (by omega) (by omega) (by omega) (by omega)).mpr z)
        refine s_bI (s_bI (hRr _ ?_))
        rw [show hdd A L R e (k + 1) = hdd A L R e k + 1 from cntP_t (decide_eq_true ⟨c, by omega⟩), show A 0 0 + ((k + 1 : Nat) : Int) = A 0 0 + k + 1 by omega]
        rfl
    · rw [Int.add_zero]
      exact s_bI (s_bI (hno (fun z => c z.1)))
  · rintro Rr x rfl
    unfold w_X5_daysOf_L10
    dsimp only
    refine s_pg hP (j := 1) (by decide) rfl ?_
    rw [if_pos ((iI_lt (by omega) (by omega) (by omega) (by omega)).mpr (by omega))]
    exact h
theorem s_X5_isEmpty (hP : Pm M 0 A) (hO : Ok A) (hD : i32 D) (h1 : emp A D → Q (iI 1) M) (h0 : ¬ emp A D → Q (iI 0) M) : w_X5_isEmpty M (iI D) Q := by
  have ob := hO.b
  unfold w_X5_isEmpty
  refine loop_up (fun k x => ∃ b : Int, x = (iI b, iI k, M) ∧ (b = 1 ∧ (∀ o, o < k → ¬ onD A D o) ∨ b = 0 ∧ ¬ emp A D)) (A 0 4).toNat ?_ ?_ (Nat.zero_le _) ⟨1, rfl, Or.inl ⟨rfl, fun o ho => absurd ho (Nat.not_lt_zero _)⟩⟩
  · rintro Rr k x hk ⟨b, rfl, hI⟩ hRr
    have hk1 : (k : Int) < A 0 4 := by omega
    unfold w_X5_isEmpty_L4
    dsimp only
    refine s_pg hP (j := 4) (by decide) rfl ?_
    simp only [lm1_, lm2_, lm3_, lm9_, lm10_, lm999_, lm1000_, l0_, l1_, l2_, l3_, l4_, l5_, l6_, l7_, l8_, l9_, l10_, l11_, l12_, l13_, l23_, l24_, l30_, l31_, l33_, l35_, l41_, l42_, l45_, l48_, l57_, l58_, l59_, l60_, l64_, l96_, l99_, l100_, l101_, l126_, l168_, l808_, l909_, l999_, l1439_, iI_add, iI_sub, iI_mul, iI_neg]
    rw [if_neg (fun z => by have := (iI_le (by omega) (by omega) (by omega) (by omega)).mp z; omega)]
    rcases hI with ⟨rfl, hI⟩ | ⟨rfl, hI⟩
    · refine z1 (s_X5_isOn hP hO hk1 hD (fun c => z1 (s_bI (hRr _ ⟨0, rfl, Or.inr ⟨rfl, fun z => z k hk1 c⟩⟩))) (fun c => z0 (s_bI (hRr _ ⟨1, rfl, Or.inl ⟨rfl, fun o ho => ?_⟩⟩))))
      by_cases hok : o = k
      · rw [hok]; exact c
      · exact hI o (by omega)
    · exact z0 (s_bI (hRr _ ⟨0, rfl, Or.inr ⟨rfl, hI⟩⟩))
  · rintro Rr x ⟨b, rfl, hI⟩
    unfold w_X5_isEmpty_L4
    dsimp only
    refine s_pg hP (j := 4) (by decide) rfl ?_
    rw [if_pos ((iI_le (by omega) (by omega) (by omega) (by omega)).mpr (by omega))]
    rcases hI with ⟨rfl, hI⟩ | ⟨rfl, hI⟩
    · exact ⟨bz1, h1 (fun o ho => hI o (by omega))⟩
    · exact ⟨bz0, h0 hI⟩
/-- the reference lays, and asks then -/
abbrev kl : Nat → Nat → Prop := fun c i => (c = 20 ∨ c = 21 ∨ c = 22) ∧ i = 0
theorem s_X5_laysA {Q : Mm → Prop} (hP : Pm M 0 A) (hO : Ok A) (h : ∀ (M' : Mm) (L : Nat → Nat → Int) (R : Nat → Int), ML M' A L R → Pm M' 0 A → sx kl M M' → Q M') : w_X5_lays M Q :=
  s_X5_lays hP hO (fun M' L R a1 a2 a3 a4 a5 a6 a7 a8 => h M' L R ⟨a1, a2, a3, a4, a5, a6, a7⟩ (hP.sx a8 (by omega)) a8)
/-- what the class has laid is what the reference lays -/
theorem lay_one {M' : Mm} {L' : Nat → Nat → Int} {R' : Nat → Int} {p : Nat} (hO : Ok A) (h : Laid M p A L R) (h' : ML M' A L' R') : ML M' A L R := by
  have e1 : L' = L := LayL_one hO h.2.1 h'.1 h.2.2.2.1
  subst e1
  have e2 : R' = R := LayR_one hO h.2.2.1 h'.2.1
  subst e2
  exact h'
end MG
