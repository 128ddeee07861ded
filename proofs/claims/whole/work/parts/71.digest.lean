/-! the digest -/
def dg (h : Int64) (v : Int) : Int64 := ((31 : Int64) * h) + (Int32.toInt64 (iI v))
def fdH (g : Nat → Int64 → Int64) : Nat → Int64 → Int64
  | 0, h => h
  | n + 1, h => g n (fdH g n h)
def dgTold (A : Ab) (L : Nat → Nat → Int) (R : Nat → Int) (tl n : Nat) (k : Nat) (h : Int64) : Int64 := fdH (fun b h => dg h (vTold A L R tl n b)) k h
def dgBar (A : Ab) (L : Nat → Nat → Int) (e w : Nat) (k : Nat) (h : Int64) : Int64 := fdH (fun b h => dg h (vBar A L e w b)) k h
def dgBars (A : Ab) (L : Nat → Nat → Int) (e : Nat) (k : Nat) (h : Int64) : Int64 := fdH (fun w h => dgBar A L e w 5 h) k h
def dgEnt (A : Ab) (L : Nat → Nat → Int) (R : Nat → Int) (e : Nat) (k : Nat) (h : Int64) : Int64 := fdH (fun b h => dg h (vEntry A L R e b)) k h
def dgEnts (A : Ab) (L : Nat → Nat → Int) (R : Nat → Int) (k : Nat) (h : Int64) : Int64 := fdH (fun e h => dgBars A L e (nW A).toNat (dgEnt A L R e 8 h)) k h
def dgWk (A : Ab) (L : Nat → Nat → Int) (R : Nat → Int) (w : Nat) (k : Nat) (h : Int64) : Int64 := fdH (fun b h => dg h (vWeek A L R w b)) k h
def dgWks (A : Ab) (L : Nat → Nat → Int) (R : Nat → Int) (k : Nat) (h : Int64) : Int64 := fdH (fun w h => dgWk A L R w 6 h) k h
def dgDay (A : Ab) (L : Nat → Nat → Int) (R : Nat → Int) (D : Int) (k : Nat) (h : Int64) : Int64 := fdH (fun b h => dg h (vDay A L R D b)) k h
def dgShw (A : Ab) (L : Nat → Nat → Int) (R : Nat → Int) (D : Int) (k : Nat) (h : Int64) : Int64 := fdH (fun b h => dg h (vShown A L R D b)) k h
def dgDays (A : Ab) (L : Nat → Nat → Int) (R : Nat → Int) (k : Nat) (h : Int64) : Int64 := fdH (fun d h => dgShw A L R (A 0 0 + d) 12 (dgDay A L R (A 0 0 + d) 6 h)) k h
noncomputable def vDig (A : Ab) (L : Nat → Nat → Int) (R : Nat → Int) (tl n : Nat) : Int64 := dg (dg (dgDays A L R (A 0 1 - A 0 0 + 1).toNat (dgWks A L R (nW A).toNat (dgEnts A L R (A 0 4).toNat (dgTold A L R tl n 12 43104)))) (enq A L R (A 0 1 - A 0 0 + 1).toNat)) (frv A 1 (iI 0))
section DG4
variable {M : Mm} {A : Ab} {L : Nat → Nat → Int} {R : Nat → Int} {h : Int64}
theorem s_d4told (hP : Pl M 0 A) (hO : Ok A) (hL : Laid M 0 A L R) {tl n : Nat} (hT : M 3 0 1 = iI tl) (hN : M 1 0 2 = iI n) {K : Int64 × Int32 × Mm → Prop} (hK : ∀ v, K (dgTold A L R tl n 12 h, v, M)) : ∃ n, loop (w_X4_digest_L6 K) n (h, iI 0, M) := by
  refine loop_up (fun k x => x = (dgTold A L R tl n k h, iI k, M)) 12 ?_ ?_ (Nat.zero_le _) rfl
  · rintro Rr k x hk rfl hR
    unfold w_X4_digest_L6
    dsimp only
    simp only [lm1_, lm2_, lm3_, lm9_, lm10_, lm999_, lm1000_, l0_, l1_, l2_, l3_, l4_, l5_, l6_, l7_, l8_, l9_, l10_, l11_, l12_, l13_, l23_, l24_, l30_, l31_, l33_, l35_, l41_, l42_, l45_, l48_, l57_, l58_, l59_, l60_, l64_, l96_, l99_, l100_, l101_, l126_, l168_, l808_, l909_, l999_, l1439_, iI_add, iI_sub, iI_mul, iI_neg]
    rw [if_neg (fun z => by have := (iI_lt (by omega) (by omega) (by omega) (by omega)).mp z; omega)]
    exact s_X4_told hP hO hL hT hN (by omega) (s_bL (s_bI (hR _ rfl)))
  · rintro Rr x rfl
    unfold w_X4_digest_L6
    dsimp only
    simp only [lm1_, lm2_, lm3_, lm9_, lm10_, lm999_, lm1000_, l0_, l1_, l2_, l3_, l4_, l5_, l6_, l7_, l8_, l9_, l10_, l11_, l12_, l13_, l23_, l24_, l30_, l31_, l33_, l35_, l41_, l42_, l45_, l48_, l57_, l58_, l59_, l60_, l64_, l96_, l99_, l100_, l101_, l126_, l168_, l808_, l909_, l999_, l1439_, iI_add, iI_sub, iI_mul, iI_neg]
    rw [if_pos ((iI_lt (by omega) (by omega) (by omega) (by omega)).mpr (by omega))]
    exact hK _
theorem s_d4ent (hP : Pl M 0 A) (hO : Ok A) (hL : Laid M 0 A L R) {e : Nat} (he : (e : Int) < A 0 4) {K : Int64 × Int32 × Mm → Prop} (hK : ∀ v, K (dgEnt A L R e 8 h, v, M)) : ∃ n, loop (w_X4_digestEntries_L23 (iI e) K) n (h, iI 0, M) := by
  have ob := hO.b
  refine loop_up (fun k x => x = (dgEnt A L R e k h, iI k, M)) 8 ?_ ?_ (Nat.zero_le _) rfl
  · rintro Rr k x hk rfl hR
    unfold w_X4_digestEntries_L23
    dsimp only
    simp only [lm1_, lm2_, lm3_, lm9_, lm10_, lm999_, lm1000_, l0_, l1_, l2_, l3_, l4_, l5_, l6_, l7_, l8_, l9_, l10_, l11_, l12_, l13_, l23_, l24_, l30_, l31_, l33_, l35_, l41_, l42_, l45_, l48_, l57_, l58_, l59_, l60_, l64_, l96_, l99_, l100_, l101_, l126_, l168_, l808_, l909_, l999_, l1439_, iI_add, iI_sub, iI_mul, iI_neg]
    rw [if_neg (fun z => by have := (iI_lt (by omega) (by omega) (by omega) (by omega)).mp z; omega)]
    refine s_X4_entry hP hO hL (by omega) (by omega) (fun e' he' _ _ => s_bL (s_bI (hR _ ?_))) (fun z => absurd (show (0 ≤ (e : Int) ∧ (e : Int) < A 0 4) ∧ 0 ≤ (k : Int) ∧ (k : Int) ≤ 7 by omega) z)
    obtain rfl : e = e' := by omega
    rfl
  · rintro Rr x rfl
    unfold w_X4_digestEntries_L23
    dsimp only
    simp only [lm1_, lm2_, lm3_, lm9_, lm10_, lm999_, lm1000_, l0_, l1_, l2_, l3_, l4_, l5_, l6_, l7_, l8_, l9_, l10_, l11_, l12_, l13_, l23_, l24_, l30_, l31_, l33_, l35_, l41_, l42_, l45_, l48_, l57_, l58_, l59_, l60_, l64_, l96_, l99_, l100_, l101_, l126_, l168_, l808_, l909_, l999_, l1439_, iI_add, iI_sub, iI_mul, iI_neg]
    rw [if_pos ((iI_lt (by omega) (by omega) (by omega) (by omega)).mpr (by omega))]
    exact hK _
theorem s_d4bar (hP : Pl M 0 A) (hO : Ok A) (hL : Laid M 0 A L R) {e w : Nat} (he : (e : Int) < A 0 4) (hw : w < 7) {K : Int64 × Int32 × Mm → Prop} (hK : ∀ v, K (dgBar A L e w 5 h, v, M)) : ∃ n, loop (w_X4_digestEntries_L70 (iI e) (iI w) K) n (h, iI 0, M) := by
  have ob := hO.b
  refine loop_up (fun k x => x = (dgBar A L e w k h, iI k, M)) 5 ?_ ?_ (Nat.zero_le _) rfl
  · rintro Rr k x hk rfl hR
    unfold w_X4_digestEntries_L70
    dsimp only
    simp only [lm1_, lm2_, lm3_, lm9_, lm10_, lm999_, lm1000_, l0_, l1_, l2_, l3_, l4_, l5_, l6_, l7_, l8_, l9_, l10_, l11_, l12_, l13_, l23_, l24_, l30_, l31_, l33_, l35_, l41_, l42_, l45_, l48_, l57_, l58_, l59_, l60_, l64_, l96_, l99_, l100_, l101_, l126_, l168_, l808_, l909_, l999_, l1439_, iI_add, iI_sub, iI_mul, iI_neg]
    rw [if_neg (fun z => by have := (iI_lt (by omega) (by omega) (by omega) (by omega)).mp z; omega)]
    refine s_X4_bar hP hO hL (by omega) (by omega) (by omega) (fun e' he' _ _ _ => s_bL (s_bI (hR _ ?_))) (fun z => absurd (show (0 ≤ (e : Int) ∧ (e : Int) < A 0 4) ∧ 0 ≤ (w : Int) ∧ 0 ≤ (k : Int) ∧ (k : Int) ≤ 4 by omega) z)
    obtain rfl : e = e' := by omega
    rfl
  · rintro Rr x rfl
    unfold w_X4_digestEntries_L70
    dsimp only
    simp only [lm1_, lm2_, lm3_, lm9_, lm10_, lm999_, lm1000_, l0_, l1_, l2_, l3_, l4_, l5_, l6_, l7_, l8_, l9_, l10_, l11_, l12_, l13_, l23_, l24_, l30_, l31_, l33_, l35_, l41_, l42_, l45_, l48_, l57_, l58_, l59_, l60_, l64_, l96_, l99_, l100_, l101_, l126_, l168_, l808_, l909_, l999_, l1439_, iI_add, iI_sub, iI_mul, iI_neg]
    rw [if_pos ((iI_lt (by omega) (by omega) (by omega) (by omega)).mpr (by omega))]
    exact hK _
theorem s_d4bars (hP : Pl M 0 A) (hO : Ok A) (hL : Laid M 0 A L R) {e : Nat} (he : (e : Int) < A 0 4) {K : Int64 × Int32 × Mm → Prop} (hK : ∀ v, K (dgBars A L e (nW A).toNat h, v, M)) : ∃ n, loop (w_X4_digestEntries_L55 (iI e) K) n (h, iI 0, M) := by
  have hn := nW_b hO
  refine loop_up (fun k x => x = (dgBars A L e k h, iI k, M)) (nW A).toNat ?_ ?_ (Nat.zero_le _) rfl
  · rintro Rr k x hk rfl hR
    unfold w_X4_digestEntries_L55
    dsimp only
    simp only [lm1_, lm2_, lm3_, lm9_, lm10_, lm999_, lm1000_, l0_, l1_, l2_, l3_, l4_, l5_, l6_, l7_, l8_, l9_, l10_, l11_, l12_, l13_, l23_, l24_, l30_, l31_, l33_, l35_, l41_, l42_, l45_, l48_, l57_, l58_, l59_, l60_, l64_, l96_, l99_, l100_, l101_, l126_, l168_, l808_, l909_, l999_, l1439_, iI_add, iI_sub, iI_mul, iI_neg]
    rw [hL.1.1, if_neg (fun z => by have := (iI_le (by omega) (by omega) (by omega) (by omega)).mp z; omega)]
    refine s_d4bar hP hO hL he (by omega) (fun v => ?_)
    exact s_bI (hR _ rfl)
  · rintro Rr x rfl
    unfold w_X4_digestEntries_L55
    dsimp only
    rw [hL.1.1, if_pos ((iI_le (by omega) (by omega) (by omega) (by omega)).mpr (by omega))]
    exact hK _
theorem s_X4_digestEntries (hP : Pl M 0 A) (hO : Ok A) (hL : Laid M 0 A L R) {Q : Int64 → Mm → Prop} (hQ : Q (dgEnts A L R (A 0 4).toNat h) M) : w_X4_digestEntries M h Q := by
  have ob := hO.b
  unfold w_X4_digestEntries
  simp only [lm1_, lm2_, lm3_, lm9_, lm10_, lm999_, lm1000_, l0_, l1_, l2_, l3_, l4_, l5_, l6_, l7_, l8_, l9_, l10_, l11_, l12_, l13_, l23_, l24_, l30_, l31_, l33_, l35_, l41_, l42_, l45_, l48_, l57_, l58_, l59_, l60_, l64_, l96_, l99_, l100_, l101_, l126_, l168_, l808_, l909_, l999_, l1439_, iI_add, iI_sub, iI_mul, iI_neg]
  refine loop_up (fun k x => x = (dgEnts A L R k h, iI k, M)) (A 0 4).toNat ?_ ?_ (Nat.zero_le _) rfl
  · rintro Rr k x hk rfl hR
    unfold w_X4_digestEntries_L5
    dsimp only
    simp only [lm1_, lm2_, lm3_, lm9_, lm10_, lm999_, lm1000_, l0_, l1_, l2_, l3_, l4_, l5_, l6_, l7_, l8_, l9_, l10_, l11_, l12_, l13_, l23_, l24_, l30_, l31_, l33_, l35_, l41_, l42_, l45_, l48_, l57_, l58_, l59_, l60_, l64_, l96_, l99_, l100_, l101_, l126_, l168_, l808_, l909_, l999_, l1439_, iI_add, iI_sub, iI_mul, iI_neg]
    rw [hP.1 4 (by decide), if_neg (fun z => by have := (iI_le (by omega) (by omega) (by omega) (by omega)).mp z; omega)]
    refine s_d4ent hP hO hL (by omega) (fun v => ?_)
    refine s_d4bars hP hO hL (by omega) (fun v => ?_)
    exact s_bI (hR _ rfl)
  · rintro Rr x rfl
    unfold w_X4_digestEntries_L5
    dsimp only
    rw [hP.1 4 (by decide), if_pos ((iI_le (by omega) (by omega) (by omega) (by omega)).mpr (by omega))]
    exact hQ
theorem s_d4wk (hP : Pl M 0 A) (hO : Ok A) (hL : Laid M 0 A L R) {w : Nat} (hw : (w : Int) < nW A) {K : Int64 × Int32 × Mm → Prop} (hK : ∀ v, K (dgWk A L R w 6 h, v, M)) : ∃ n, loop (w_X4_digestWeeks_L20 (iI w) K) n (h, iI 0, M) := by
  have hn := nW_b hO
  refine loop_up (fun k x => x = (dgWk A L R w k h, iI k, M)) 6 ?_ ?_ (Nat.zero_le _) rfl
  · rintro Rr k x hk rfl hR
    unfold w_X4_digestWeeks_L20
    dsimp only
    simp only [lm1_, lm2_, lm3_, lm9_, lm10_, lm999_, lm1000_, l0_, l1_, l2_, l3_, l4_, l5_, l6_, l7_, l8_, l9_, l10_, l11_, l12_, l13_, l23_, l24_, l30_, l31_, l33_, l35_, l41_, l42_, l45_, l48_, l57_, l58_, l59_, l60_, l64_, l96_, l99_, l100_, l101_, l126_, l168_, l808_, l909_, l999_, l1439_, iI_add, iI_sub, iI_mul, iI_neg]
    rw [if_neg (fun z => by have := (iI_lt (by omega) (by omega) (by omega) (by omega)).mp z; omega)]
    exact s_X4_week hP hO hL (by omega) (by omega) (fun _ _ => s_bL (s_bI (hR _ rfl))) (fun z _ => absurd z (by omega)) (fun z => absurd (show 0 ≤ (w : Int) ∧ 0 ≤ (k : Int) ∧ (k : Int) ≤ 5 by omega) z)
  · rintro Rr x rfl
    unfold w_X4_digestWeeks_L20
    dsimp only
    simp only [lm1_, lm2_, lm3_, lm9_, lm10_, lm999_, lm1000_, l0_, l1_, l2_, l3_, l4_, l5_, l6_, l7_, l8_, l9_, l10_, l11_, l12_, l13_, l23_, l24_, l30_, l31_, l33_, l35_, l41_, l42_, l45_, l48_, l57_, l58_, l59_, l60_, l64_, l96_, l99_, l100_, l101_, l126_, l168_, l808_, l909_, l999_, l1439_, iI_add, iI_sub, iI_mul, iI_neg]
    rw [if_pos ((iI_lt (by omega) (by omega) (by omega) (by omega)).mpr (by omega))]
    exact hK _
theorem s_X4_digestWeeks (hP : Pl M 0 A) (hO : Ok A) (hL : Laid M 0 A L R) {Q : Int64 → Mm → Prop} (hQ : Q (dgWks A L R (nW A).toNat h) M) : w_X4_digestWeeks M h Q := by
  have hn := nW_b hO
  unfold w_X4_digestWeeks
  simp only [lm1_, lm2_, lm3_, lm9_, lm10_, lm999_, lm1000_, l0_, l1_, l2_, l3_, l4_, l5_, l6_, l7_, l8_, l9_, l10_, l11_, l12_, l13_, l23_, l24_, l30_, l31_, l33_, l35_, l41_, l42_, l45_, l48_, l57_, l58_, l59_, l60_, l64_, l96_, l99_, l100_, l101_, l126_, l168_, l808_, l909_, l999_, l1439_, iI_add, iI_sub, iI_mul, iI_neg]
  refine loop_up (fun k x => x = (dgWks A L R k h, iI k, M)) (nW A).toNat ?_ ?_ (Nat.zero_le _) rfl
  · rintro Rr k x hk rfl hR
    unfold w_X4_digestWeeks_L5
    dsimp only
    simp only [lm1_, lm2_, lm3_, lm9_, lm10_, lm999_, lm1000_, l0_, l1_, l2_, l3_, l4_, l5_, l6_, l7_, l8_, l9_, l10_, l11_, l12_, l13_, l23_, l24_, l30_, l31_, l33_, l35_, l41_, l42_, l45_, l48_, l57_, l58_, l59_, l60_, l64_, l96_, l99_, l100_, l101_, l126_, l168_, l808_, l909_, l999_, l1439_, iI_add, iI_sub, iI_mul, iI_neg]
    rw [hL.1.1, if_neg (fun z => by have := (iI_le (by omega) (by omega) (by omega) (by omega)).mp z; omega)]
    refine s_d4wk hP hO hL (by omega) (fun v => ?_)
    exact s_bI (hR _ rfl)
  · rintro Rr x rfl
    unfold w_X4_digestWeeks_L5
    dsimp only
    rw [hL.1.1, if_pos ((iI_le (by omega) (by omega) (by omega) (by omega)).mpr (by omega))]
    exact hQ
theorem s_d4day (hP : Pl M 0 A) (hO : Ok A) (hL : Laid M 0 A L R) {D : Int} (hD : A 0 0 ≤ D ∧ D ≤ A 0 1) {K : Int64 × Int32 × Mm → Prop} (hK : ∀ v, K (dgDay A L R D 6 h, v, M)) : ∃ n, loop (w_X4_digestDays_L32 (iI D) K) n (h, iI 0, M) := by
  have ob := hO.b
  refine loop_up (fun k x => x = (dgDay A L R D k h, iI k, M)) 6 ?_ ?_ (Nat.zero_le _) rfl
  · rintro Rr k x hk rfl hR
    unfold w_X4_digestDays_L32
    dsimp only
    simp only [lm1_, lm2_, lm3_, lm9_, lm10_, lm999_, lm1000_, l0_, l1_, l2_, l3_, l4_, l5_, l6_, l7_, l8_, l9_, l10_, l11_, l12_, l13_, l23_, l24_, l30_, l31_, l33_, l35_, l41_, l42_, l45_, l48_, l57_, l58_, l59_, l60_, l64_, l96_, l99_, l100_, l101_, l126_, l168_, l808_, l909_, l999_, l1439_, iI_add, iI_sub, iI_mul, iI_neg]
    rw [if_neg (fun z => by have := (iI_lt (by omega) (by omega) (by omega) (by omega)).mp z; omega)]
    exact s_X4_day hP hO hL (by omega) (by omega) (fun _ _ => s_bL (s_bI (hR _ rfl))) (fun z => absurd (show (A 0 0 ≤ D ∧ D ≤ A 0 1) ∧ 0 ≤ (k : Int) ∧ (k : Int) ≤ 5 by omega) z)
  · rintro Rr x rfl
    unfold w_X4_digestDays_L32
    dsimp only
    simp only [lm1_, lm2_, lm3_, lm9_, lm10_, lm999_, lm1000_, l0_, l1_, l2_, l3_, l4_, l5_, l6_, l7_, l8_, l9_, l10_, l11_, l12_, l13_, l23_, l24_, l30_, l31_, l33_, l35_, l41_, l42_, l45_, l48_, l57_, l58_, l59_, l60_, l64_, l96_, l99_, l100_, l101_, l126_, l168_, l808_, l909_, l999_, l1439_, iI_add, iI_sub, iI_mul, iI_neg]
    rw [if_pos ((iI_lt (by omega) (by omega) (by omega) (by omega)).mpr (by omega))]
    exact hK _
theorem s_d4shw (hP : Pl M 0 A) (hO : Ok A) (hL : Laid M 0 A L R) {D : Int} (hD : A 0 0 ≤ D ∧ D ≤ A 0 1) {K : Int64 × Int32 × Mm → Prop} (hK : ∀ v, K (dgShw A L R D 12 h, v, M)) : ∃ n, loop (w_X4_digestDays_L63 (iI D) K) n (h, iI 0, M) := by
  have ob := hO.b
  refine loop_up (fun k x => x = (dgShw A L R D k h, iI k, M)) 12 ?_ ?_ (Nat.zero_le _) rfl
  · rintro Rr k x hk rfl hR
    unfold w_X4_digestDays_L63
    dsimp only
    simp only [lm1_, lm2_, lm3_, lm9_, lm10_, lm999_, lm1000_, l0_, l1_, l2_, l3_, l4_, l5_, l6_, l7_, l8_, l9_, l10_, l11_, l12_, l13_, l23_, l24_, l30_, l31_, l33_, l35_, l41_, l42_, l45_, l48_, l57_, l58_, l59_, l60_, l64_, l96_, l99_, l100_, l101_, l126_, l168_, l808_, l909_, l999_, l1439_, iI_add, iI_sub, iI_mul, iI_neg]
    rw [if_neg (fun z => by have := (iI_le (by omega) (by omega) (by omega) (by omega)).mp z; omega)]
    exact s_X4_shown hP hO hL (by omega) (by omega) (fun _ _ => s_bL (s_bI (hR _ rfl))) (fun z => absurd (show (A 0 0 ≤ D ∧ D ≤ A 0 1) ∧ 0 ≤ (k : Int) ∧ (k : Int) ≤ 11 by omega) z)
  · rintro Rr x rfl
    unfold w_X4_digestDays_L63
    dsimp only
    simp only [lm1_, lm2_, lm3_, lm9_, lm10_, lm999_, lm1000_, l0_, l1_, l2_, l3_, l4_, l5_, l6_, l7_, l8_, l9_, l10_, l11_, l12_, l13_, l23_, l24_, l30_, l31_, l33_, l35_, l41_, l42_, l45_, l48_, l57_, l58_, l59_, l60_, l64_, l96_, l99_, l100_, l101_, l126_, l168_, l808_, l909_, l999_, l1439_, iI_add, iI_sub, iI_mul, iI_neg]
    rw [if_pos ((iI_le (by omega) (by omega) (by omega) (by omega)).mpr (by omega))]
    exact hK _
theorem s_X4_digestDays (hP : Pl M 0 A) (hO : Ok A) (hL : Laid M 0 A L R) {Q : Int64 → Mm → Prop} (hQ : Q (dgDays A L R (A 0 1 - A 0 0 + 1).toNat h) M) : w_X4_digestDays M h Q := by
  have ob := hO.b
  unfold w_X4_digestDays
  rw [hP.1 0 (by decide)]
  refine s_bI (loop_up (fun k x => x = (dgDays A L R k h, iI (A 0 0 + k), M)) (A 0 1 - A 0 0 + 1).toNat ?_ ?_ (Nat.zero_le _) (by rw [show A 0 0 + ((0 : Nat) : Int) = A 0 0 by omega]; rfl))
  · rintro Rr k x hk rfl hR
    unfold w_X4_digestDays_L14
    dsimp only
    simp only [lm1_, lm2_, lm3_, lm9_, lm10_, lm999_, lm1000_, l0_, l1_, l2_, l3_, l4_, l5_, l6_, l7_, l8_, l9_, l10_, l11_, l12_, l13_, l23_, l24_, l30_, l31_, l33_, l35_, l41_, l42_, l45_, l48_, l57_, l58_, l59_, l60_, l64_, l96_, l99_, l100_, l101_, l126_, l168_, l808_, l909_, l999_, l1439_, iI_add, iI_sub, iI_mul, iI_neg]
    rw [hP.1 1 (by decide), if_neg (fun z => by have := (iI_lt (by omega) (by omega) (by omega) (by omega)).mp z; omega)]
    refine s_d4day hP hO hL (by omega) (fun v => ?_)
    refine s_d4shw hP hO hL (by omega) (fun v => ?_)
    exact s_bI (hR _ (by rw [show A 0 0 + ((k + 1 : Nat) : Int) = A 0 0 + k + 1 by omega]; rfl))
  · rintro Rr x rfl
    unfold w_X4_digestDays_L14
    dsimp only
    rw [hP.1 1 (by decide), if_pos ((iI_lt (by omega) (by omega) (by omega) (by omega)).mpr (by omega))]
    exact hQ
theorem s_X4_digest (hP : Pl M 0 A) (hO : Ok A) (hL : Laid M 0 A L R) {tl n : Nat} (hT : M 3 0 1 = iI tl) (hN : M 1 0 2 = iI n) {Q : Int64 → Mm → Prop} (hQ : Q (vDig A L R tl n) M) : w_X4_digest M Q := by
  unfold w_X4_digest
  simp only [lm1_, lm2_, lm3_, lm9_, lm10_, lm999_, lm1000_, l0_, l1_, l2_, l3_, l4_, l5_, l6_, l7_, l8_, l9_, l10_, l11_, l12_, l13_, l23_, l24_, l30_, l31_, l33_, l35_, l41_, l42_, l45_, l48_, l57_, l58_, l59_, l60_, l64_, l96_, l99_, l100_, l101_, l126_, l168_, l808_, l909_, l999_, l1439_, iI_add, iI_sub, iI_mul, iI_neg]
  refine s_d4told hP hO hL hT hN (fun v => ?_)
  refine s_X4_digestEntries hP hO hL (s_X4_digestWeeks hP hO hL (s_X4_digestDays hP hO hL (s_X4_enough hP hO hL (s_bL ?_))))
  exact s_X4_free hP hO hL (by omega) (fun _ => hQ) (fun z => absurd (by omega) z)
end DG4
section DG5
variable {M Mc : Mm} {p : Nat} {A : Ab} {L : Nat → Nat → Int} {R : Nat → Int} {h : Int64}
theorem s_d5told (hP : Pm M 0 A) (hO : Ok A) (hC : Laid Mc p A L R) {tl n : Nat} (hT : M 17 0 3 = iI tl) (hN : M 17 0 1 = iI n) {K : Int64 × Int32 × Mm → Prop} (hK : ∀ v M', Pm M' 0 A → sx kl M M' → K (dgTold A L R tl n 12 h, v, M')) : ∃ n, loop (w_X5_digest_L6 K) n (h, iI 0, M) := by
  refine loop_up (fun k x => ∃ M', x = (dgTold A L R tl n k h, iI k, M') ∧ Pm M' 0 A ∧ sx kl M M') 12 ?_ ?_ (Nat.zero_le _) ⟨M, rfl, hP, sx_rf⟩
  · rintro Rr k x hk ⟨M', rfl, g1, g2⟩ hR
    unfold w_X5_digest_L6
    dsimp only
    simp only [lm1_, lm2_, lm3_, lm9_, lm10_, lm999_, lm1000_, l0_, l1_, l2_, l3_, l4_, l5_, l6_, l7_, l8_, l9_, l10_, l11_, l12_, l13_, l23_, l24_, l30_, l31_, l33_, l35_, l41_, l42_, l45_, l48_, l57_, l58_, l59_, l60_, l64_, l96_, l99_, l100_, l101_, l126_, l168_, l808_, l909_, l999_, l1439_, iI_add, iI_sub, iI_mul, iI_neg]
    rw [if_neg (fun z => by have := (iI_lt (by omega) (by omega) (by omega) (by omega)).mp z; omega)]
    exact s_X5_told g1 hO hC (by rw [g2 17 0 (by omega)]; exact hT) (by rw [g2 17 0 (by omega)]; exact hN) (by omega) (fun M2 k1 k2 => s_bL (s_bI (hR _ ⟨M2, rfl, k1, fun c i hci => by rw [k2 c i hci, g2 c i hci]⟩)))
  · rintro Rr x ⟨M', rfl, g1, g2⟩
    unfold w_X5_digest_L6
    dsimp only
    simp only [lm1_, lm2_, lm3_, lm9_, lm10_, lm999_, lm1000_, l0_, l1_, l2_, l3_, l4_, l5_, l6_, l7_, l8_, l9_, l10_, l11_, l12_, l13_, l23_, l24_, l30_, l31_, l33_, l35_, l41_, l42_, l45_, l48_, l57_, l58_, l59_, l60_, l64_, l96_, l99_, l100_, l101_, l126_, l168_, l808_, l909_, l999_, l1439_, iI_add, iI_sub, iI_mul, iI_neg]
    rw [if_pos ((iI_lt (by omega) (by omega) (by omega) (by omega)).mpr (by omega))]
    exact hK _ M' g1 g2
theorem s_d5ent (hP : Pm M 0 A) (hO : Ok A) (hL : ML M A L R) {e : Nat} (he : (e : Int) < A 0 4) {K : Int64 × Int32 × Mm → Prop} (hK : ∀ v, K (dgEnt A L R e 8 h, v, M)) : ∃ n, loop (w_X5_mixedEntry_L6 (iI e) K) n (h, iI 0, M) := by
  refine loop_up (fun k x => x = (dgEnt A L R e k h, iI k, M)) 8 ?_ ?_ (Nat.zero_le _) rfl
  · rintro Rr k x hk rfl hR
    unfold w_X5_mixedEntry_L6
    dsimp only
    simp only [lm1_, lm2_, lm3_, lm9_, lm10_, lm999_, lm1000_, l0_, l1_, l2_, l3_, l4_, l5_, l6_, l7_, l8_, l9_, l10_, l11_, l12_, l13_, l23_, l24_, l30_, l31_, l33_, l35_, l41_, l42_, l45_, l48_, l57_, l58_, l59_, l60_, l64_, l96_, l99_, l100_, l101_, l126_, l168_, l808_, l909_, l999_, l1439_, iI_add, iI_sub, iI_mul, iI_neg]
    rw [if_neg (fun z => by have := (iI_lt (by omega) (by omega) (by omega) (by omega)).mp z; omega)]
    exact s_X5_entryOf hP hO hL he (by omega) (s_bL (s_bI (hR _ rfl)))
  · rintro Rr x rfl
    unfold w_X5_mixedEntry_L6
    dsimp only
    simp only [lm1_, lm2_, lm3_, lm9_, lm10_, lm999_, lm1000_, l0_, l1_, l2_, l3_, l4_, l5_, l6_, l7_, l8_, l9_, l10_, l11_, l12_, l13_, l23_, l24_, l30_, l31_, l33_, l35_, l41_, l42_, l45_, l48_, l57_, l58_, l59_, l60_, l64_, l96_, l99_, l100_, l101_, l126_, l168_, l808_, l909_, l999_, l1439_, iI_add, iI_sub, iI_mul, iI_neg]
    rw [if_pos ((iI_lt (by omega) (by omega) (by omega) (by omega)).mpr (by omega))]
    exact hK _
theorem s_d5bar (hP : Pm M 0 A) (hO : Ok A) (hL : ML M A L R) {e w : Nat} (he : (e : Int) < A 0 4) (hw : (w : Int) < nW A) {K : Int64 × Int32 × Mm → Prop} (hK : ∀ v, K (dgBar A L e w 5 h, v, M)) : ∃ n, loop (w_X5_mixedEntry_L51 (iI e) (iI w) K) n (h, iI 0, M) := by
  have hn := nW_b hO
  refine loop_up (fun k x => x = (dgBar A L e w k h, iI k, M)) 5 ?_ ?_ (Nat.zero_le _) rfl
  · rintro Rr k x hk rfl hR
    unfold w_X5_mixedEntry_L51
    dsimp only
    simp only [lm1_, lm2_, lm3_, lm9_, lm10_, lm999_, lm1000_, l0_, l1_, l2_, l3_, l4_, l5_, l6_, l7_, l8_, l9_, l10_, l11_, l12_, l13_, l23_, l24_, l30_, l31_, l33_, l35_, l41_, l42_, l45_, l48_, l57_, l58_, l59_, l60_, l64_, l96_, l99_, l100_, l101_, l126_, l168_, l808_, l909_, l999_, l1439_, iI_add, iI_sub, iI_mul, iI_neg]
    rw [if_neg (fun z => by have := (iI_lt (by omega) (by omega) (by omega) (by omega)).mp z; omega)]
    refine s_X5_hasBar hP hO hL he (by omega) (fun g1 g2 => z1 (s_X5_barOf hP hO hL he (by omega) g2 (by omega) (s_bL (s_bI (hR _ rfl))))) (fun g => z0 (s_bL (s_bI (hR _ ?_))))
    have e1 : vBar A L e w k = -9 := by
      rw [vBar]
      by_cases g1 : nW A ≤ (w : Int)
      · rw [if_pos g1]
      · rw [if_neg g1, if_pos (g.resolve_left g1)]
    show (dg (dgBar A L e w k h) (-9), iI ((k : Int) + 1), M) = (dg (dgBar A L e w k h) (vBar A L e w k), iI ((k + 1 : Nat) : Int), M)
    rw [e1]
    rfl
  · rintro Rr x rfl
    unfold w_X5_mixedEntry_L51
    dsimp only
    simp only [lm1_, lm2_, lm3_, lm9_, lm10_, lm999_, lm1000_, l0_, l1_, l2_, l3_, l4_, l5_, l6_, l7_, l8_, l9_, l10_, l11_, l12_, l13_, l23_, l24_, l30_, l31_, l33_, l35_, l41_, l42_, l45_, l48_, l57_, l58_, l59_, l60_, l64_, l96_, l99_, l100_, l101_, l126_, l168_, l808_, l909_, l999_, l1439_, iI_add, iI_sub, iI_mul, iI_neg]
    rw [if_pos ((iI_lt (by omega) (by omega) (by omega) (by omega)).mpr (by omega))]
    exact hK _
theorem s_d5bars (hP : Pm M 0 A) (hO : Ok A) (hL : ML M A L R) {e : Nat} (he : (e : Int) < A 0 4) {K : Int64 × Int32 × Mm → Prop} (hK : ∀ v, K (dgBars A L e (nW A).toNat h, v, M)) : ∃ n, loop (w_X5_mixedEntry_L39 (iI e) K) n (h, iI 0, M) := by
  have hn := nW_b hO
  refine loop_up (fun k x => x = (dgBars A L e k h, iI k, M)) (nW A).toNat ?_ ?_ (Nat.zero_le _) rfl
  · rintro Rr k x hk rfl hR
    unfold w_X5_mixedEntry_L39
    dsimp only
    simp only [lm1_, lm2_, lm3_, lm9_, lm10_, lm999_, lm1000_, l0_, l1_, l2_, l3_, l4_, l5_, l6_, l7_, l8_, l9_, l10_, l11_, l12_, l13_, l23_, l24_, l30_, l31_, l33_, l35_, l41_, l42_, l45_, l48_, l57_, l58_, l59_, l60_, l64_, l96_, l99_, l100_, l101_, l126_, l168_, l808_, l909_, l999_, l1439_, iI_add, iI_sub, iI_mul, iI_neg]
    refine s_X5_weeks hP hO ?_
    rw [if_neg (fun z => by have := (iI_le (by omega) (by omega) (by omega) (by omega)).mp z; omega)]
    refine s_d5bar hP hO hL he (by omega) (fun v => ?_)
    exact s_bI (hR _ rfl)
  · rintro Rr x rfl
    unfold w_X5_mixedEntry_L39
    dsimp only
    refine s_X5_weeks hP hO ?_
    rw [if_pos ((iI_le (by omega) (by omega) (by omega) (by omega)).mpr (by omega))]
    exact hK _
theorem s_d5ents (hP : Pm M 0 A) (hO : Ok A) (hL : ML M A L R) {K : Int64 × Int32 × Mm → Prop} (hK : ∀ v, K (dgEnts A L R (A 0 4).toNat h, v, M)) : ∃ n, loop (w_X5_digest_L37 K) n (h, iI 0, M) := by
  have ob := hO.b
  refine loop_up (fun k x => x = (dgEnts A L R k h, iI k, M)) (A 0 4).toNat ?_ ?_ (Nat.zero_le _) rfl
  · rintro Rr k x hk rfl hR
    unfold w_X5_digest_L37
    dsimp only
    refine s_pg hP (j := 4) (by decide) rfl ?_
    rw [if_neg (fun z => by have := (iI_le (by omega) (by omega) (by omega) (by omega)).mp z; omega)]
    unfold w_X5_mixedEntry
    simp only [lm1_, lm2_, lm3_, lm9_, lm10_, lm999_, lm1000_, l0_, l1_, l2_, l3_, l4_, l5_, l6_, l7_, l8_, l9_, l10_, l11_, l12_, l13_, l23_, l24_, l30_, l31_, l33_, l35_, l41_, l42_, l45_, l48_, l57_, l58_, l59_, l60_, l64_, l96_, l99_, l100_, l101_, l126_, l168_, l808_, l909_, l999_, l1439_, iI_add, iI_sub, iI_mul, iI_neg]
    refine s_d5ent hP hO hL (by omega) (fun v => ?_)
    refine s_d5bars hP hO hL (by omega) (fun v => ?_)
    exact s_bI (hR _ rfl)
  · rintro Rr x rfl
    unfold w_X5_digest_L37
    dsimp only
    refine s_pg hP (j := 4) (by decide) rfl ?_
    rw [if_pos ((iI_le (by omega) (by omega) (by omega) (by omega)).mpr (by omega))]
    exact hK _
theorem s_d5wk (hP : Pm M 0 A) (hO : Ok A) (hL : ML M A L R) {w : Nat} (hw : (w : Int) < nW A) {K : Int64 × Int32 × Mm → Prop} (hK : ∀ v, K (dgWk A L R w 6 h, v, M)) : ∃ n, loop (w_X5_digest_L73 (iI w) K) n (h, iI 0, M) := by
  refine loop_up (fun k x => x = (dgWk A L R w k h, iI k, M)) 6 ?_ ?_ (Nat.zero_le _) rfl
  · rintro Rr k x hk rfl hR
    unfold w_X5_digest_L73
    dsimp only
    simp only [lm1_, lm2_, lm3_, lm9_, lm10_, lm999_, lm1000_, l0_, l1_, l2_, l3_, l4_, l5_, l6_, l7_, l8_, l9_, l10_, l11_, l12_, l13_, l23_, l24_, l30_, l31_, l33_, l35_, l41_, l42_, l45_, l48_, l57_, l58_, l59_, l60_, l64_, l96_, l99_, l100_, l101_, l126_, l168_, l808_, l909_, l999_, l1439_, iI_add, iI_sub, iI_mul, iI_neg]
    rw [if_neg (fun z => by have := (iI_lt (by omega) (by omega) (by omega) (by omega)).mp z; omega)]
    exact s_X5_weekOfAll hP hO hL (by omega) (by omega) (s_bL (s_bI (hR _ rfl)))
  · rintro Rr x rfl
    unfold w_X5_digest_L73
    dsimp only
    simp only [lm1_, lm2_, lm3_, lm9_, lm10_, lm999_, lm1000_, l0_, l1_, l2_, l3_, l4_, l5_, l6_, l7_, l8_, l9_, l10_, l11_, l12_, l13_, l23_, l24_, l30_, l31_, l33_, l35_, l41_, l42_, l45_, l48_, l57_, l58_, l59_, l60_, l64_, l96_, l99_, l100_, l101_, l126_, l168_, l808_, l909_, l999_, l1439_, iI_add, iI_sub, iI_mul, iI_neg]
    rw [if_pos ((iI_lt (by omega) (by omega) (by omega) (by omega)).mpr (by omega))]
    exact hK _
theorem s_d5wks (hP : Pm M 0 A) (hO : Ok A) (hL : ML M A L R) {K : Int64 × Int32 × Mm → Prop} (hK : ∀ v, K (dgWks A L R (nW A).toNat h, v, M)) : ∃ n, loop (w_X5_digest_L62 K) n (h, iI 0, M) := by
  have hn := nW_b hO
  refine loop_up (fun k x => x = (dgWks A L R k h, iI k, M)) (nW A).toNat ?_ ?_ (Nat.zero_le _) rfl
  · rintro Rr k x hk rfl hR
    unfold w_X5_digest_L62
    dsimp only
    simp only [lm1_, lm2_, lm3_, lm9_, lm10_, lm999_, lm1000_, l0_, l1_, l2_, l3_, l4_, l5_, l6_, l7_, l8_, l9_, l10_, l11_, l12_, l13_, l23_, l24_, l30_, l31_, l33_, l35_, l41_, l42_, l45_, l48_, l57_, l58_, l59_, l60_, l64_, l96_, l99_, l100_, l101_, l126_, l168_, l808_, l909_, l999_, l1439_, iI_add, iI_sub, iI_mul, iI_neg]
    refine s_X5_weeks hP hO ?_
    rw [if_neg (fun z => by have := (iI_le (by omega) (by omega) (by omega) (by omega)).mp z; omega)]
    refine s_d5wk hP hO hL (by omega) (fun v => ?_)
    exact s_bI (hR _ rfl)
  · rintro Rr x rfl
    unfold w_X5_digest_L62
    dsimp only
    refine s_X5_weeks hP hO ?_
    rw [if_pos ((iI_le (by omega) (by omega) (by omega) (by omega)).mpr (by omega))]
    exact hK _
theorem s_d5day (hP : Pm M 0 A) (hO : Ok A) (hL : ML M A L R) {D : Int} (hD : A 0 0 ≤ D ∧ D ≤ A 0 1) {K : Int64 × Int32 × Mm → Prop} (hK : ∀ v, K (dgDay A L R D 6 h, v, M)) : ∃ n, loop (w_X5_mixedDay_L6 (iI D) K) n (h, iI 0, M) := by
  refine loop_up (fun k x => x = (dgDay A L R D k h, iI k, M)) 6 ?_ ?_ (Nat.zero_le _) rfl
  · rintro Rr k x hk rfl hR
    unfold w_X5_mixedDay_L6
    dsimp only
    simp only [lm1_, lm2_, lm3_, lm9_, lm10_, lm999_, lm1000_, l0_, l1_, l2_, l3_, l4_, l5_, l6_, l7_, l8_, l9_, l10_, l11_, l12_, l13_, l23_, l24_, l30_, l31_, l33_, l35_, l41_, l42_, l45_, l48_, l57_, l58_, l59_, l60_, l64_, l96_, l99_, l100_, l101_, l126_, l168_, l808_, l909_, l999_, l1439_, iI_add, iI_sub, iI_mul, iI_neg]
    rw [if_neg (fun z => by have := (iI_lt (by omega) (by omega) (by omega) (by omega)).mp z; omega)]
    exact s_X5_dayOf hP hO hL hD.1 hD.2 (by omega) (s_bL (s_bI (hR _ rfl)))
  · rintro Rr x rfl
    unfold w_X5_mixedDay_L6
    dsimp only
    simp only [lm1_, lm2_, lm3_, lm9_, lm10_, lm999_, lm1000_, l0_, l1_, l2_, l3_, l4_, l5_, l6_, l7_, l8_, l9_, l10_, l11_, l12_, l13_, l23_, l24_, l30_, l31_, l33_, l35_, l41_, l42_, l45_, l48_, l57_, l58_, l59_, l60_, l64_, l96_, l99_, l100_, l101_, l126_, l168_, l808_, l909_, l999_, l1439_, iI_add, iI_sub, iI_mul, iI_neg]
    rw [if_pos ((iI_lt (by omega) (by omega) (by omega) (by omega)).mpr (by omega))]
    exact hK _
theorem s_d5shw (hP : Pm M 0 A) (hO : Ok A) (hL : ML M A L R) {D : Int} (hD : A 0 0 ≤ D ∧ D ≤ A 0 1) {K : Int64 × Int32 × Mm → Prop} (hK : ∀ v, K (dgShw A L R D 12 h, v, M)) : ∃ n, loop (w_X5_mixedDay_L38 (iI D) K) n (h, iI 0, M) := by
  refine loop_up (fun k x => x = (dgShw A L R D k h, iI k, M)) 12 ?_ ?_ (Nat.zero_le _) rfl
  · rintro Rr k x hk rfl hR
    unfold w_X5_mixedDay_L38
    dsimp only
    simp only [lm1_, lm2_, lm3_, lm9_, lm10_, lm999_, lm1000_, l0_, l1_, l2_, l3_, l4_, l5_, l6_, l7_, l8_, l9_, l10_, l11_, l12_, l13_, l23_, l24_, l30_, l31_, l33_, l35_, l41_, l42_, l45_, l48_, l57_, l58_, l59_, l60_, l64_, l96_, l99_, l100_, l101_, l126_, l168_, l808_, l909_, l999_, l1439_, iI_add, iI_sub, iI_mul, iI_neg]
    rw [if_neg (fun z => by have := (iI_le (by omega) (by omega) (by omega) (by omega)).mp z; omega)]
    exact s_X5_shownAt hP hO hL hD.1 hD.2 (by omega) (s_bL (s_bI (hR _ rfl)))
  · rintro Rr x rfl
    unfold w_X5_mixedDay_L38
    dsimp only
    simp only [lm1_, lm2_, lm3_, lm9_, lm10_, lm999_, lm1000_, l0_, l1_, l2_, l3_, l4_, l5_, l6_, l7_, l8_, l9_, l10_, l11_, l12_, l13_, l23_, l24_, l30_, l31_, l33_, l35_, l41_, l42_, l45_, l48_, l57_, l58_, l59_, l60_, l64_, l96_, l99_, l100_, l101_, l126_, l168_, l808_, l909_, l999_, l1439_, iI_add, iI_sub, iI_mul, iI_neg]
    rw [if_pos ((iI_le (by omega) (by omega) (by omega) (by omega)).mpr (by omega))]
    exact hK _
theorem s_d5days (hP : Pm M 0 A) (hO : Ok A) (hL : ML M A L R) {K : Int64 × Int32 × Mm → Prop} (hK : ∀ v, K (dgDays A L R (A 0 1 - A 0 0 + 1).toNat h, v, M)) : ∃ n, loop (w_X5_digest_L113 K) n (h, iI (A 0 0), M) := by
  have ob := hO.b
  refine loop_up (fun k x => x = (dgDays A L R k h, iI (A 0 0 + k), M)) (A 0 1 - A 0 0 + 1).toNat ?_ ?_ (Nat.zero_le _) (by rw [show A 0 0 + ((0 : Nat) : Int) = A 0 0 by omega]; rfl)
  · rintro Rr k x hk rfl hR
    unfold w_X5_digest_L113
    dsimp only
    refine s_pg hP (j := 1) (by decide) rfl ?_
    rw [if_neg (fun z => by have := (iI_lt (by omega) (by omega) (by omega) (by omega)).mp z; omega)]
    unfold w_X5_mixedDay
    simp only [lm1_, lm2_, lm3_, lm9_, lm10_, lm999_, lm1000_, l0_, l1_, l2_, l3_, l4_, l5_, l6_, l7_, l8_, l9_, l10_, l11_, l12_, l13_, l23_, l24_, l30_, l31_, l33_, l35_, l41_, l42_, l45_, l48_, l57_, l58_, l59_, l60_, l64_, l96_, l99_, l100_, l101_, l126_, l168_, l808_, l909_, l999_, l1439_, iI_add, iI_sub, iI_mul, iI_neg]
    refine s_d5day hP hO hL (by omega) (fun v => ?_)
    refine s_d5shw hP hO hL (by omega) (fun v => ?_)
    exact s_bI (hR _ (by rw [show A 0 0 + ((k + 1 : Nat) : Int) = A 0 0 + k + 1 by omega]; rfl))
  · rintro Rr x rfl
    unfold w_X5_digest_L113
    dsimp only
    refine s_pg hP (j := 1) (by decide) rfl ?_
    rw [if_pos ((iI_lt (by omega) (by omega) (by omega) (by omega)).mpr (by omega))]
    exact hK _
theorem s_X5_digest (hP : Pm M 0 A) (hO : Ok A) (hC : Laid Mc p A L R) {tl n : Nat} (hT : M 17 0 3 = iI tl) (hN : M 17 0 1 = iI n) {Q : Int64 → Mm → Prop} (hQ : ∀ M', Pm M' 0 A → sx kl M M' → Q (vDig A L R tl n) M') : w_X5_digest M Q := by
  unfold w_X5_digest
  simp only [lm1_, lm2_, lm3_, lm9_, lm10_, lm999_, lm1000_, l0_, l1_, l2_, l3_, l4_, l5_, l6_, l7_, l8_, l9_, l10_, l11_, l12_, l13_, l23_, l24_, l30_, l31_, l33_, l35_, l41_, l42_, l45_, l48_, l57_, l58_, l59_, l60_, l64_, l96_, l99_, l100_, l101_, l126_, l168_, l808_, l909_, l999_, l1439_, iI_add, iI_sub, iI_mul, iI_neg]
  refine s_d5told hP hO hC hT hN (fun v M1 a1 a2 => ?_)
  refine s_X5_laysC a1 hO hC (fun M2 b1 b2 b3 => ?_)
  refine s_d5ents b2 hO b1 (fun v => ?_)
  refine s_d5wks b2 hO b1 (fun v => ?_)
  refine s_pg b2 (j := 0) (by decide) rfl ?_
  refine s_d5days b2 hO b1 (fun v => ?_)
  refine s_X5_enough b2 hO hC (fun M3 c1 _ c3 => s_bL ?_)
  exact s_X5_free c1 hO (by omega) (fun _ => hQ M3 c1 (fun c i hci => (c3 c i hci).trans ((b3 c i hci).trans (a2 c i hci)))) (fun z => absurd (by omega) z)
end DG5
