theorem least {P : Nat → Prop} (h : ∃ r, P r) : ∃ r, P r ∧ ∀ r', r' < r → ¬ P r' := by
  obtain ⟨r, hr⟩ := h
  induction r using Nat.strongRecOn with
  | _ r ih =>
    by_cases q : ∃ r', r' < r ∧ P r'
    · obtain ⟨r', q1, q2⟩ := q
      exact ih r' q1 q2
    · exact ⟨r, hr, fun r' q1 q2 => q ⟨r', q1, q2⟩⟩
theorem cntP_flip {p q : Nat → Bool} {i n : Nat} (hi : i < n) (h1 : p i = true) (h2 : ¬ q i = true) (h : ∀ j, j ≠ i → q j = p j) : cntP q n < cntP p n := by
  induction n with
  | zero => omega
  | succ n ih =>
    by_cases hin : i = n
    · subst hin
      rw [cntP_t h1, cntP_f h2, cntP_congr (fun j hj => h j (by omega))]
      omega
    · have := ih (by omega)
      by_cases hp : p n = true
      · rw [cntP_t hp, cntP_t (by rw [h n (by omega)]; exact hp)]
        omega
      · rw [cntP_f hp, cntP_f (by rw [h n (by omega)]; exact hp)]
        omega
section ML
variable {M : Mm} {A : Ab} {L : Nat → Nat → Int}
theorem fr_some (hb : Ok A) {w e : Nat} (he : (e : Int) < A 0 4) : ∃ r : Nat, r < 24 ∧ ¬ fr A L w e r := by
  have ob := hb.b
  refine Classical.byContradiction fun hno => ?_
  have hall : ∀ r : Nat, r < 24 → ∃ x : Nat, x < 24 ∧ x ≠ e ∧ L x w = (r : Int) := by
    intro r hr
    obtain ⟨o, o1, o2⟩ : fr A L w e r := Classical.byContradiction fun z => hno ⟨r, hr, z⟩
    exact ⟨o, by omega, o2.1.1, o2.1.2⟩
  have hp := pig 24 25 (fun r => if h : r < 24 then Classical.choose (hall r h) else e) (fun i hi => by
    split
    · rename_i h
      exact (Classical.choose_spec (hall i h)).1
    · omega) (fun i j hi hj hij => by
    by_cases h1 : i < 24
    · rw [dif_pos h1] at hij
      have c1 := Classical.choose_spec (hall i h1)
      by_cases h2 : j < 24
      · rw [dif_pos h2] at hij
        have c2 := Classical.choose_spec (hall j h2)
        rw [← hij] at c2
        have := c1.2.2.symm.trans c2.2.2
        omega
      · rw [dif_neg h2] at hij
        exact absurd hij c1.2.1
    · rw [dif_neg h1] at hij
      by_cases h2 : j < 24
      · rw [dif_pos h2] at hij
        have c2 := Classical.choose_spec (hall j h2)
        exact absurd hij.symm c2.2.1
      · omega)
  omega
def plcd (A : Ab) (L : Nat → Nat → Int) (w e : Nat) (r : Nat) : Prop := prv L w e ≠ -9 ∧ ¬ fr A L w e (prv L w e) ∧ (r : Int) = prv L w e ∨ (prv L w e = -9 ∨ fr A L w e (prv L w e)) ∧ ¬ fr A L w e r ∧ ∀ r' : Nat, r' < r → fr A L w e r'
theorem prv_b (hb : Lbd L) {w e : Nat} : (prv L w e = -9 ∨ 0 ≤ prv L w e) ∧ prv L w e < 24 := by
  unfold prv
  by_cases hw : w = 0
  · rw [if_pos hw]; omega
  · rw [if_neg hw]; exact hb e (w - 1)
theorem s_X5_laysBar {Q : Mm → Prop} (hP : Pm M 0 A) (hW : Wm M A) (hO : Ok A) (hM : Lmm M L) (hb : Lbd L) {w : Nat} (hw : (w : Int) < nW A) {e : Nat} (he : (e : Int) < A 0 4) (h : ∀ r : Nat, r < 24 → plcd A L w e r → Q (st M 20 0 (7 * e + w) (iI r))) : w_X5_laysBar M (iI e) (iI w) Q := by
  have hn := nW_b hO
  have ob := hO.b
  have hpb := prv_b hb (w := w) (e := e)
  unfold w_X5_laysBar
  refine s_letV (iI (prv L w e)) (fun J hJ => ?_) ?_
  · by_cases hw0 : w = 0
    · rw [prv, if_pos hw0] at hJ
      rw [hw0, if_pos (by decide)]
      exact hJ
    · rw [prv, if_neg hw0] at hJ
      simp (disch := omega) only [lm1_, lm2_, lm3_, lm9_, lm10_, lm999_, lm1000_, l0_, l1_, l2_, l3_, l4_, l5_, l6_, l7_, l8_, l9_, l10_, l11_, l12_, l13_, l23_, l24_, l30_, l31_, l33_, l35_, l41_, l42_, l45_, l48_, l57_, l58_, l59_, l60_, l64_, l96_, l99_, l100_, l101_, l126_, l168_, l808_, l909_, l999_, l1439_, iI_add, iI_sub, iI_mul, iI_neg, iI_rem, iI_lt, iI_le, iI_eq, vp_iI, cl_iI, Int.toNat_natCast]
      rw [if_neg (by omega), show (7 * (e : Int) + w - 1) = 7 * (e : Int) + ((w - 1 : Nat) : Int) by omega]
      exact s_lm hM (by omega) (by omega) hJ
  · dsimp only
    obtain ⟨r0, m2, m3⟩ := least (fr_some (L := L) hO (w := w) he)
    have m3 : ∀ r' : Nat, r' < r0 → fr A L w e r' := fun r' q => Classical.byContradiction fun z => m3 r' q ⟨by omega, z⟩
    obtain ⟨m1, m2⟩ := m2
    refine loop_up (fun k x => x = (iI k, M)) r0 ?_ ?_ (Nat.zero_le _) rfl
    · rintro R k x hk rfl hR
      unfold w_X5_laysBar_L26
      dsimp only
      simp only [lm1_, lm2_, lm3_, lm9_, lm10_, lm999_, lm1000_, l0_, l1_, l2_, l3_, l4_, l5_, l6_, l7_, l8_, l9_, l10_, l11_, l12_, l13_, l23_, l24_, l30_, l31_, l33_, l35_, l41_, l42_, l45_, l48_, l57_, l58_, l59_, l60_, l64_, l96_, l99_, l100_, l101_, l126_, l168_, l808_, l909_, l999_, l1439_, iI_add, iI_sub, iI_mul, iI_neg]
      refine s_X5_isFree hP hW hO hM hb hw he (by omega) (fun q => absurd (m3 k hk) q) (fun _ => z0 ?_)
      exact hR _ rfl
    · rintro R x rfl
      unfold w_X5_laysBar_L26
      dsimp only
      simp only [lm1_, lm2_, lm3_, lm9_, lm10_, lm999_, lm1000_, l0_, l1_, l2_, l3_, l4_, l5_, l6_, l7_, l8_, l9_, l10_, l11_, l12_, l13_, l23_, l24_, l30_, l31_, l33_, l35_, l41_, l42_, l45_, l48_, l57_, l58_, l59_, l60_, l64_, l96_, l99_, l100_, l101_, l126_, l168_, l808_, l909_, l999_, l1439_, iI_add, iI_sub, iI_mul, iI_neg]
      refine s_X5_isFree hP hW hO hM hb hw he (by omega) (fun _ => z1 ?_) (fun q => absurd q m2)
      refine s_letJ (fun x => ∃ r : Nat, r < 24 ∧ x = (iI r, M) ∧ plcd A L w e r) (fun J hJ => ?_) ?_
      · refine s_letJ (fun m => m = M ∧ (prv L w e = -9 ∨ fr A L w e (prv L w e))) (fun J2 hJ2 => ?_) (fun m hm => ?_)
        · simp (disch := omega) only [lm1_, lm2_, lm3_, lm9_, lm10_, lm999_, lm1000_, l0_, l1_, l2_, l3_, l4_, l5_, l6_, l7_, l8_, l9_, l10_, l11_, l12_, l13_, l23_, l24_, l30_, l31_, l33_, l35_, l41_, l42_, l45_, l48_, l57_, l58_, l59_, l60_, l64_, l96_, l99_, l100_, l101_, l126_, l168_, l808_, l909_, l999_, l1439_, iI_add, iI_sub, iI_mul, iI_neg, iI_rem, iI_lt, iI_le, iI_eq, vp_iI, cl_iI, Int.toNat_natCast]
          refine s_if (fun q => hJ2 _ ⟨rfl, Or.inl q⟩) (fun q => ?_)
          refine s_X5_isFree hP hW hO hM hb hw he (by omega) (fun q2 => z1 (hJ _ ⟨(prv L w e).toNat, by omega, by rw [Int.toNat_of_nonneg (by omega)], Or.inl ⟨q, q2, Int.toNat_of_nonneg (by omega)⟩⟩)) (fun q2 => z0 (hJ2 _ ⟨rfl, Or.inr q2⟩))
        · rw [hm.1]
          exact hJ _ ⟨r0, m1, rfl, Or.inr ⟨hm.2, m2, m3⟩⟩
      · rintro _ ⟨r, r1, rfl, r2⟩
        dsimp only
        refine s_stA (by omega) (by omega) (by decide) ?_
        rw [show (7 * (e : Int) + w).toNat = 7 * e + w by omega]
        exact h r r1 r2
/-- a week under way -/
def WI (M0 : Mm) (A : Ab) (L0 : Nat → Nat → Int) (w : Nat) (M : Mm) (L : Nat → Nat → Int) : Prop := Lmm M L ∧ Lbd L ∧ (∀ e w', w' ≠ w → L e w' = L0 e w') ∧ (∀ e, ¬ bar A w e → L e w = -9) ∧ (∀ x, bar A w x → L x w ≠ -9 → LaneAt A L w x ∧ ∀ y, bar A w y → kb A L0 w y < kb A L0 w x → L y w ≠ -9) ∧ sx (fun c i => c = 20 ∧ i = 0) M0 M
theorem fr_clash {M0 : Mm} {L0 : Nat → Nat → Int} (hO : Ok A) {w e : Nat} (hI : WI M0 A L0 w M L) (hL : Lb A L0 w) (he : bar A w e) (hu : L e w = -9) {r : Int} (hr : 0 ≤ r) : fr A L w e r ↔ clash A L w e r := by
  obtain ⟨g1, g2, g3, g4, g5, g6⟩ := hI
  have g3w : ∀ x, w ≠ 0 → L x (w - 1) = L0 x (w - 1) := fun x h0 => g3 x (w - 1) (by omega)
  constructor
  · rintro ⟨o, h1, h2, h3, h4, h5⟩
    have hlo : L o w ≠ -9 := by rw [h2.2]; omega
    have hbo : bar A w o := Classical.byContradiction fun z => hlo (g4 o z)
    refine ⟨o, hbo, ?_, h2.2, h3, h4⟩
    rw [kb_congr g3w, kb_congr g3w]
    rcases Int.lt_trichotomy (kb A L0 w o) (kb A L0 w e) with q | q | q
    · exact q
    · exact absurd (kb_inj hO hL hbo he q) h2.1
    · exact absurd hu ((g5 o hbo hlo).2 e he q)
  · rintro ⟨o, h1, h2, h3, h4, h5⟩
    refine ⟨o, h1.1, ⟨fun q => ?_, h3⟩, h4, h5, ⟨h1.2.2.1, he.2.2.1⟩, h1.2.2.2, he.2.2.2⟩
    rw [q] at h2
    omega
end ML
