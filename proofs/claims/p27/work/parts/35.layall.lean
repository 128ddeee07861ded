theorem wS_mono {A : Ab} (hO : Ok A) {a b : Int} (h0 : 0 ≤ a) (h1 : a ≤ b) (h2 : b ≤ nW A) : wS A a ≤ wS A b := by
  have ob := hO.b
  have hg := gW_b A
  have hb := wS_b hO (w := b) (by omega) h2
  have ha := wS_b hO (w := a) h0 (by omega)
  unfold wS at *
  by_cases h3 : a ≤ 0
  · rw [if_pos h3] at *
    omega
  · rw [if_neg h3] at *
    rw [if_neg (show ¬ b ≤ 0 by omega)] at *
    by_cases h4 : nW A ≤ b
    · rw [if_pos h4]
      omega
    · rw [if_neg h4, if_neg (show ¬ nW A ≤ a by omega)]
      omega
theorem LaneAt_nn {A : Ab} {L : Nat → Nat → Int} {w e : Nat} (hb : Lbd L) (h : LaneAt A L w e) : 0 ≤ L e w := by
  rcases h with ⟨h1, h2, h3⟩ | ⟨h1, h2, h3⟩
  · have := (hb e w).1
    have h4 : L e w ≠ -9 := by rw [h3]; exact h1
    omega
  · exact h2
def Rbd (R : Nat → Int) : Prop := ∀ e, (R e = -9 ∨ 0 ≤ R e) ∧ R e < 24
/-- which rows have an entry, the page being laid -/
def Bd (A : Ab) (L : Nat → Nat → Int) (R : Nat → Int) (d r : Nat) : Prop := ∃ e : Nat, (e : Int) < A 0 4 ∧ A 0 0 + d ≤ A 0 1 ∧ (lng A e ∧ A 1 e ≤ A 0 0 + d ∧ A 0 0 + d ≤ A 2 e ∧ L e (wk A (A 0 0 + d)).toNat = r ∨ ¬ lng A e ∧ A 1 e = A 0 0 + d ∧ R e = r)
def Laid (M : Mm) (p : Nat) (A : Ab) (L : Nat → Nat → Int) (R : Nat → Int) : Prop := Wk M p A ∧ LayL A L ∧ LayR A L R ∧ Lbd L ∧ Rbd R ∧ Lmem M p L ∧ (∀ e, e < 24 → M 8 p e = iI (R e)) ∧ TK M p (Bd A L R)
theorem sh_same {A : Ab} (hO : Ok A) {e : Nat} (he : (e : Int) < A 0 4) (h : ¬ lng A e) : A 2 e = A 1 e := by
  have := hO.e he
  have h2 : ¬ A 1 e < A 2 e := fun q => h (Or.inl q)
  omega
/-- a day's bars -/
theorem day_bar {A : Ab} (hO : Ok A) {o : Nat} {D : Int} (h1 : A 0 0 ≤ D) (h2 : D ≤ A 0 1) : ((o : Int) < A 0 4 ∧ lng A o ∧ A 1 o ≤ D ∧ D ≤ A 2 o) ↔ ∃ w : Nat, (w : Int) < nW A ∧ w = (wk A D).toNat ∧ bar A w o ∧ (bs A w o : Int) ≤ D - A 0 0 ∧ D - A 0 0 ≤ bt A w o := by
  have hb := wk_b hO h1 h2
  have e0 : (((wk A D).toNat : Nat) : Int) = wk A D := Int.toNat_of_nonneg hb.1
  have hin := (wk_in hO h1 h2 hb.1 hb.2).mp rfl
  constructor
  · rintro ⟨q1, q2, q3, q4⟩
    have hbar : bar A (wk A D).toNat o := ⟨q1, q2, by rw [e0]; omega, by rw [e0]; omega⟩
    have hbb := bs_bt hO (by rw [e0]; exact hb.2) hbar
    rw [e0] at hbb
    exact ⟨(wk A D).toNat, by omega, rfl, hbar, by omega, by omega⟩
  · rintro ⟨w, q1, q2, q3, q4, q5⟩
    have hbb := bs_bt hO q1 q3
    exact ⟨q3.1, q3.2.1, by omega, by omega⟩
section LAYA
variable {M : Mm} {p : Nat} {A : Ab}
set_option maxHeartbeats 2000000 in
theorem s_bars (hP : Pl M p A) (hO : Ok A) (hW : Wk M p A) (h9 : ∀ k, k < 42 → M 9 p k = iI 0) (h12 : ∀ e w, e < 24 → w < 7 → M 12 (24 * p + e) w = iI (-9)) {K : Int32 × Mm → Prop}
    (hK : ∀ (x : Int32) (M' : Mm) (L : Nat → Nat → Int), LayL A L → Lbd L → Lmem M' p L → TK M' p (fun d r => ∃ w x : Nat, (w : Int) < nW A ∧ bar A w x ∧ bs A w x ≤ d ∧ d ≤ bt A w x ∧ L x w = r) → Wk M' p A → sx (fun c i => (c = 5 ∨ c = 9 ∨ c = 10) ∧ i = p ∨ c = 12 ∧ 24 * p ≤ i ∧ i < 24 * p + 24) M M' → K (x, M')) : ∃ n, loop (w_X0_lay_L10 p K) n ((0 : Int32), M) := by
  have hn := nW_b hO
  have ob := hO.b
  refine loop_up (fun w x => ∃ (M' : Mm) (L : Nat → Nat → Int), x = (iI w, M') ∧ Lmem M' p L ∧ Lbd L ∧ (∀ w' e : Nat, w' < w → bar A w' e → LaneAt A L w' e) ∧ (∀ w' e : Nat, ¬ (w' < w ∧ bar A w' e) → L e w' = -9) ∧ TK M' p (fun d r => ∃ w' x : Nat, w' < w ∧ bar A w' x ∧ bs A w' x ≤ d ∧ d ≤ bt A w' x ∧ L x w' = r) ∧ Wk M' p A ∧ sx (fun c i => (c = 5 ∨ c = 9 ∨ c = 10) ∧ i = p ∨ c = 12 ∧ 24 * p ≤ i ∧ i < 24 * p + 24) M M') (nW A).toNat ?_ ?_ (Nat.zero_le _) ⟨M, fun _ _ => -9, rfl, fun e w he hw => h12 e w he hw, fun _ _ => ⟨Or.inl rfl, (by decide : (-9 : Int) < 24)⟩, fun w' e hw' => absurd hw' (Nat.not_lt_zero _), fun _ _ _ => rfl, fun k hk => ⟨0, h9 k hk, by decide, fun r => by
    rw [Nat.zero_testBit]
    exact ⟨fun q => (by cases q), fun ⟨w', _, q, _⟩ => absurd q (Nat.not_lt_zero _)⟩⟩, hW, sx_rf⟩
  · rintro R w x hw ⟨M', L, rfl, g1, g2, g3, g4, g5, g6, g7⟩ hR
    have hwn : (w : Int) < nW A := by omega
    have hP' : Pl M' p A := hP.sx g7 ⟨by omega, by omega, by omega, by omega, by omega⟩
    have hM' : Lw M' p A L w := fun o ho h0 => ⟨g1 o (w - 1) (by omega) (by omega), g2 o (w - 1)⟩
    have hLb : Lb A L w := by
      intro e he hlt h0
      have h1 : bar A (w - 1) e := by
        have h2 := wS_mono hO (a := ((w - 1 : Nat) : Int)) (b := w) (by omega) (by omega) (by omega)
        refine ⟨he.1, he.2.1, ?_, by have := he.2.2.2; omega⟩
        unfold wL
        rw [show ((w - 1 : Nat) : Int) + 1 = w by omega]
        omega
      exact ⟨LaneAt_nn g2 (g3 (w - 1) e (by omega) h1), (g2 e (w - 1)).2⟩
    unfold w_X0_lay_L10
    dsimp only
    rw [g6.1]
    simp (disch := omega) only [lm1_, lm2_, lm3_, lm9_, lm10_, lm999_, lm1000_, l0_, l1_, l2_, l3_, l4_, l5_, l6_, l7_, l8_, l9_, l10_, l11_, l12_, l13_, l23_, l24_, l30_, l31_, l33_, l35_, l41_, l42_, l45_, l48_, l57_, l58_, l59_, l60_, l64_, l96_, l99_, l100_, l101_, l126_, l168_, l808_, l909_, l900_, l20_, l1440_, l2003_, l15486209_, l2147483647_, l999_, l1439_, iI_add, iI_sub, iI_mul, iI_neg, iI_rem, iI_lt, iI_le, iI_eq, vp_iI, cl_iI, Int.toNat_natCast]
    rw [if_neg (by omega)]
    refine s_X0_orderBars hP' hO g6 hwn hM' hLb (fun M2 l q1 q2 q3 q4 q5 q6 q7 => ?_)
    have hP2 : Pl M2 p A := hP'.sx q6 ⟨by omega, by omega, by omega, by omega, by omega⟩
    have hW2 : Wk M2 p A := g6.sx q6 (q7 1 (by decide)) (by omega)
    refine s_week hP2 hO hW2 hwn (fun e w' he hw' => by rw [q6 12 _ (by omega)]; exact g1 e w' he hw') g2 (fun e => g4 w e (fun q => absurd q.1 (Nat.lt_irrefl _))) q1 q2 q3 q4 q5 (g5.congr (fun k _ => by rw [q6 9 p (by omega)]) (fun _ _ _ => Iff.rfl)) (fun d r x hx hd1 hd2 hB => ?_) (fun M3 L3 f1 f2 f3 f4 f5 f6 f7 => ?_)
    · obtain ⟨w', y, y1, y2, y3, y4, y5⟩ := hB
      have b1 := bs_bt hO hwn hx
      have b2 := bs_bt hO (show (w' : Int) < nW A by omega) y2
      have h2 := wS_mono hO (a := (w' : Int) + 1) (b := w) (by omega) (by omega) (by omega)
      have h3 : wL A w' = wS A (w' + 1) - 1 := rfl
      omega
    · refine hR _ ⟨M3, L3, rfl, f1, f2, fun w' e hw' hb => ?_, fun w' e hn' => ?_, f6.congr (fun _ _ => rfl) (fun d r _ => ?_), hW2.sx f7 (by rw [f7 5 p (by omega)]) (by omega), fun c i hci => ?_⟩
      · by_cases hww : w' = w
        · rw [hww] at hb ⊢
          exact f4 e hb
        · refine (LaneAt_congr (fun x h0 => f3 x (w' - 1) (by omega)) (fun o _ _ => f3 o w' hww) (f3 e w' hww)).mpr (g3 w' e (by omega) hb)
      · by_cases hww : w' = w
        · rw [hww] at hn' ⊢
          exact f5 e (fun q => hn' ⟨by omega, q⟩)
        · rw [f3 e w' hww]
          exact g4 w' e (fun q => hn' ⟨by omega, q.2⟩)
      · constructor
        · rintro (⟨w', y, y1, y2, y3, y4, y5⟩ | ⟨y, y2, y3, y4, y5⟩)
          · exact ⟨w', y, by omega, y2, y3, y4, by rw [f3 y w' (by omega)]; exact y5⟩
          · exact ⟨w, y, by omega, y2, y3, y4, y5⟩
        · rintro ⟨w', y, y1, y2, y3, y4, y5⟩
          by_cases hww : w' = w
          · rw [hww] at y2 y3 y4 y5
            exact Or.inr ⟨y, y2, y3, y4, y5⟩
          · exact Or.inl ⟨w', y, by omega, y2, y3, y4, by rw [← f3 y w' hww]; exact y5⟩
      · rw [f7 c i (by omega), q6 c i (by omega)]
        exact g7 c i hci
  · rintro R x ⟨M', L, rfl, g1, g2, g3, g4, g5, g6, g7⟩
    unfold w_X0_lay_L10
    dsimp only
    rw [g6.1]
    simp (disch := omega) only [lm1_, lm2_, lm3_, lm9_, lm10_, lm999_, lm1000_, l0_, l1_, l2_, l3_, l4_, l5_, l6_, l7_, l8_, l9_, l10_, l11_, l12_, l13_, l23_, l24_, l30_, l31_, l33_, l35_, l41_, l42_, l45_, l48_, l57_, l58_, l59_, l60_, l64_, l96_, l99_, l100_, l101_, l126_, l168_, l808_, l909_, l900_, l20_, l1440_, l2003_, l15486209_, l2147483647_, l999_, l1439_, iI_add, iI_sub, iI_mul, iI_neg, iI_rem, iI_lt, iI_le, iI_eq, vp_iI, cl_iI, Int.toNat_natCast]
    rw [if_pos (by omega)]
    refine hK _ M' L (fun w e => ⟨fun q => g3 w e (by omega) q.2, fun q => g4 w e (fun z => q ⟨by omega, z.2⟩)⟩) g2 g1 (g5.congr (fun _ _ => rfl) (fun d r _ => ?_)) g6 g7
    constructor
    · rintro ⟨w', y, y1, y2⟩
      exact ⟨w', y, by omega, y2⟩
    · rintro ⟨w', y, y1, y2⟩
      exact ⟨w', y, by omega, y2⟩
theorem tkn_congr {L : Nat → Nat → Int} {R R' : Nat → Int} {e : Nat} (h : ∀ o, sh A o → ks A o < ks A e → R' o = R o) (r : Int) : tkn A L R' e r ↔ tkn A L R e r := by
  unfold tkn
  constructor
  · rintro (q | ⟨o, h1, h2, h3, h4⟩)
    · exact Or.inl q
    · exact Or.inr ⟨o, h1, h2, h3, by rw [← h o h1 h3]; exact h4⟩
  · rintro (q | ⟨o, h1, h2, h3, h4⟩)
    · exact Or.inl q
    · exact Or.inr ⟨o, h1, h2, h3, by rw [h o h1 h3]; exact h4⟩
theorem RowAt_congr {L : Nat → Nat → Int} {R R' : Nat → Int} {e : Nat} (h : ∀ o, sh A o → ks A o < ks A e → R' o = R o) (h2 : R' e = R e) : RowAt A L R' e ↔ RowAt A L R e := by
  unfold RowAt
  rw [h2, tkn_congr h]
  have : (∀ r, 0 ≤ r → r < R e → tkn A L R' e r) ↔ (∀ r, 0 ≤ r → r < R e → tkn A L R e r) := ⟨fun q r a b => (tkn_congr h r).mp (q r a b), fun q r a b => (tkn_congr h r).mpr (q r a b)⟩
  rw [this]
end LAYA
