/-- a short entry of the day -/
abbrev shd (A : Ab) (D : Int) (e : Nat) : Prop := (e : Int) < A 0 4 ∧ ¬ lng A e ∧ A 1 e = D
/-- a day under way -/
def DI (M0 : Mm) (A : Ab) (L : Nat → Nat → Int) (D : Int) (R0 : Nat → Int) (M : Mm) (R : Nat → Int) : Prop := Rm M R ∧ Rbd R ∧ (∀ e, ¬ shd A D e → R e = R0 e) ∧ (∀ x, shd A D x → R x ≠ -9 → RowAt A L R x ∧ ∀ y, shd A D y → ks A y < ks A x → R y ≠ -9) ∧ sx (fun c i => c = 21 ∧ i = 0) M0 M
def nxs (A : Ab) (D : Int) (R : Nat → Int) (k : Nat) (b : Int) : Prop := b = -9 ∧ (∀ x, x < k → shd A D x → R x ≠ -9) ∨ ∃ e : Nat, b = e ∧ e < k ∧ shd A D e ∧ R e = -9 ∧ ∀ x, x < k → shd A D x → R x = -9 → x ≠ e → ks A e < ks A x
section MDD
variable {M0 M : Mm} {A : Ab} {L : Nat → Nat → Int} {R0 R : Nat → Int} {D : Int}
theorem shd_sh (d1 : A 0 0 ≤ D) (d2 : D ≤ A 0 1) {e : Nat} (h : shd A D e) : sh A e := ⟨h.1, h.2.1, by have := h.2.2; omega, by have := h.2.2; omega⟩
theorem tkm_tkn (hO : Ok A) (hI : DI M0 A L D R0 M R) (d1 : A 0 0 ≤ D) (d2 : D ≤ A 0 1) {e : Nat} (he : shd A D e) (hu : R e = -9) {r : Int} (hr : 0 ≤ r) : tkm A L R D r ↔ tkn A L R e r := by
  obtain ⟨g1, g2, g3, g4, g5⟩ := hI
  have heD := he.2.2
  constructor
  · rintro ⟨o, h1, ⟨h2, h3⟩, h4⟩
    by_cases c : lng A o
    · rw [rowv, if_pos c] at h4
      exact Or.inl ⟨o, h1, c, by omega, by omega, by rw [heD]; exact h4⟩
    · rw [rowv, if_neg c] at h4
      have hs := sh_same hO h1 c
      have hso : shd A D o := ⟨h1, c, by omega⟩
      refine Or.inr ⟨o, shd_sh d1 d2 hso, by omega, ?_, h4⟩
      have hlo : R o ≠ -9 := by omega
      rcases Int.lt_trichotomy (ks A o) (ks A e) with q | q | q
      · exact q
      · have := ks_inj hO h1 he.1 q
        rw [this] at hlo
        exact absurd hu hlo
      · exact absurd hu ((g4 o hso hlo).2 e he q)
  · rintro (⟨o, h1, h2, h3, h4, h5⟩ | ⟨o, h1, h2, h3, h4⟩)
    · exact ⟨o, h1, ⟨by omega, by omega⟩, by rw [rowv, if_pos h2, ← heD]; exact h5⟩
    · have := sh_same hO h1.1 h1.2.1
      exact ⟨o, h1.1, ⟨by omega, by omega⟩, by rw [rowv, if_neg h1.2.1]; exact h4⟩
theorem tkm_some (hO : Ok A) {e : Nat} (he : shd A D e) (hu : R e = -9) : ∃ r : Nat, r < 24 ∧ ¬ tkm A L R D r := by
  have ob := hO.b
  have he1 := he.1
  refine pigf (f := rowv A L R D) (e := e) (by omega) (fun r hr hp => ?_)
  obtain ⟨o, h1, h2, h3⟩ := hp
  refine ⟨o, by omega, fun q => ?_, h3⟩
  rw [q, rowv, if_neg he.2.1, hu] at h3
  omega
theorem s_nexts (hP : Pm M 0 A) (hO : Ok A) (hg : Rm M R) (hb2 : Rbd R) (d1 : A 0 0 ≤ D) (d2 : D ≤ A 0 1) {K : Int32 × Int32 × Mm → Prop} (hK : ∀ (b : Int) (v : Int32), nxs A D R 24 b → K (iI b, v, M)) : ∃ n, loop (w_X5_laysDay_L12 (iI D) K) n (iI (-9), iI 0, M) := by
  have ob := hO.b
  refine loop_up (fun k x => ∃ b : Int, x = (iI b, iI k, M) ∧ nxs A D R k b) (A 0 4).toNat ?_ ?_ (Nat.zero_le _) ⟨-9, rfl, Or.inl ⟨rfl, fun x hx => absurd hx (Nat.not_lt_zero _)⟩⟩
  · rintro Rr k x hk ⟨b, rfl, hb⟩ hR
    have hk1 : (k : Int) < A 0 4 := by omega
    have hkb := hb2 k
    unfold w_X5_laysDay_L12
    dsimp only
    refine s_pg hP (j := 4) (by decide) rfl ?_
    simp only [lm1_, lm2_, lm3_, lm9_, lm10_, lm999_, lm1000_, l0_, l1_, l2_, l3_, l4_, l5_, l6_, l7_, l8_, l9_, l10_, l11_, l12_, l13_, l23_, l24_, l30_, l31_, l33_, l35_, l41_, l42_, l45_, l48_, l57_, l58_, l59_, l60_, l64_, l96_, l99_, l100_, l101_, l126_, l168_, l808_, l909_, l999_, l1439_, iI_add, iI_sub, iI_mul, iI_neg]
    rw [if_neg (fun z => by have := (iI_le (by omega) (by omega) (by omega) (by omega)).mp z; omega)]
    have hno : ¬ (shd A D k ∧ R k = -9) → Rr (iI b, iI ((k : Int) + 1), M) := by
      intro hf
      refine hR _ ⟨b, rfl, ?_⟩
      rcases hb with ⟨q1, q2⟩ | ⟨e, q1, q2, q3, q4, q5⟩
      · refine Or.inl ⟨q1, fun x hx hbx hx9 => ?_⟩
        by_cases hxk : x = k
        · rw [hxk] at hbx hx9
          exact hf ⟨hbx, hx9⟩
        · exact q2 x (by omega) hbx hx9
      · refine Or.inr ⟨e, q1, by omega, q3, q4, fun x hx hbx hx9 hxe => ?_⟩
        by_cases hxk : x = k
        · rw [hxk] at hbx hx9
          exact absurd ⟨hbx, hx9⟩ hf
        · exact q5 x (by omega) hbx hx9 hxe
    refine s_X5_isShortOn hP hO hk1 (by omega) (fun c1 => ?_) (fun c1 => ?_)
    · refine s_letJ (fun x => x = iI 1 ∧ shd A D k ∧ R k = -9 ∨ x = iI 0 ∧ ¬ (shd A D k ∧ R k = -9)) (fun J hJ => ?_) ?_
      · refine s_letJ (fun _ => ¬ (shd A D k ∧ R k = -9)) (fun J2 hJ2 => ?_) (fun m hm => hJ _ (Or.inr ⟨rfl, hm⟩))
        refine z1 (s_ldN (by omega) (by decide) ?_)
        rw [hg k (by omega)]
        refine s_if (fun q => ?_) (fun q => ?_)
        · have q := (iI_eq (by omega) (by omega) (by omega) (by omega)).mp q
          exact hJ _ (Or.inl ⟨rfl, ⟨hk1, c1⟩, q⟩)
        · exact hJ2 _ (fun z => q (by rw [z.2]))
      · rintro x (⟨rfl, q1, q2⟩ | ⟨rfl, q⟩)
        · refine z1 ?_
          rcases hb with ⟨p1, p2⟩ | ⟨e, p1, p2, p3, p4, p5⟩
          · rw [p1, if_pos rfl]
            exact hR _ ⟨k, rfl, Or.inr ⟨k, rfl, by omega, q1, q2, fun x hx hbx hx9 hxk => absurd hx9 (p2 x (by omega) hbx)⟩⟩
          · rw [p1]
            have hne : ¬ iI (e : Int) = iI (-9) := fun z => by
              have := (iI_eq (by omega) (by omega) (by omega) (by omega)).mp z
              omega
            rw [if_neg hne]
            have kk := ks_inj hO q1.1 p3.1
            refine s_X5_isShortBefore hP hO hk1 p2 (fun c => ?_) (fun c => ?_)
            · refine z1 (hR _ ⟨k, rfl, Or.inr ⟨k, rfl, by omega, q1, q2, fun x hx hbx hx9 hxk => ?_⟩⟩)
              by_cases hxe : x = e
              · rw [hxe]; exact c
              · have := p5 x (by omega) hbx hx9 hxe
                omega
            · refine z0 (hR _ ⟨e, rfl, Or.inr ⟨e, rfl, by omega, p3, p4, fun x hx hbx hx9 hxe => ?_⟩⟩)
              by_cases hxk : x = k
              · rw [hxk]
                have : ¬ ks A k = ks A e := fun z => by
                  have := kk z
                  omega
                omega
              · exact p5 x (by omega) hbx hx9 hxe
        · exact z0 (hno q)
    · refine s_letV (iI 0) (fun J hJ => ?_) ?_
      · exact s_letV () (fun J2 hJ2 => z0 hJ2) hJ
      · exact z0 (hno (fun z => c1 z.1.2))
  · rintro Rr x ⟨b, rfl, hb⟩
    unfold w_X5_laysDay_L12
    dsimp only
    refine s_pg hP (j := 4) (by decide) rfl ?_
    simp (disch := omega) only [lm1_, lm2_, lm3_, lm9_, lm10_, lm999_, lm1000_, l0_, l1_, l2_, l3_, l4_, l5_, l6_, l7_, l8_, l9_, l10_, l11_, l12_, l13_, l23_, l24_, l30_, l31_, l33_, l35_, l41_, l42_, l45_, l48_, l57_, l58_, l59_, l60_, l64_, l96_, l99_, l100_, l101_, l126_, l168_, l808_, l909_, l999_, l1439_, iI_add, iI_sub, iI_mul, iI_neg, iI_rem, iI_lt, iI_le, iI_eq, vp_iI, cl_iI, Int.toNat_natCast]
    rw [if_pos (by omega)]
    refine hK b _ ?_
    rcases hb with ⟨q1, q2⟩ | ⟨e, q1, q2, q3, q4, q5⟩
    · exact Or.inl ⟨q1, fun x _ hbx => q2 x (by have := hbx.1; omega) hbx⟩
    · exact Or.inr ⟨e, q1, by omega, q3, q4, fun x _ hbx => q5 x (by have := hbx.1; omega) hbx⟩
theorem DI_place (hO : Ok A) (hI : DI M0 A L D R0 M R) (d1 : A 0 0 ≤ D) (d2 : D ≤ A 0 1) {e : Nat} (he : shd A D e) (hu : R e = -9) (hmin : ∀ x, shd A D x → R x = -9 → x ≠ e → ks A e < ks A x) {r : Nat} (hr : r < 24) (hp : ¬ tkm A L R D r ∧ ∀ r' : Nat, r' < r → tkm A L R D r') {R2 : Nat → Int} (hR2 : R2 = fun x => if x = e then (r : Int) else R x) : DI M0 A L D R0 (st M 21 0 e (iI r)) R2 := by
  have hfc := fun (r : Int) (hr : 0 ≤ r) => tkm_tkn hO hI d1 d2 he hu hr
  obtain ⟨g1, g2, g3, g4, g5⟩ := hI
  have z1 : R2 e = r := by rw [hR2]; exact if_pos rfl
  have z2 : ∀ x, x ≠ e → R2 x = R x := fun x hn => by rw [hR2]; exact if_neg hn
  have hcl : ∀ r : Int, 0 ≤ r → (tkm A L R D r ↔ tkn A L R2 e r) := fun r hr => by
    refine (hfc r hr).trans (tkn_congr (fun o ho hko => z2 o (fun q => ?_)) r).symm
    rw [q] at hko
    omega
  refine ⟨fun x hx => ?_, fun x => ?_, fun x hx => ?_, fun x hx hx9 => ?_, sx_st g5 ⟨rfl, rfl⟩⟩
  · by_cases hxe : x = e
    · rw [hxe, z1, st_s]
    · rw [st_d hxe, z2 x hxe]
      exact g1 x hx
  · by_cases hxe : x = e
    · rw [hxe, z1]
      omega
    · rw [z2 x hxe]
      exact g2 x
  · rw [z2 x (fun q => hx (by rw [q]; exact he))]
    exact g3 x hx
  · by_cases hxe : x = e
    · rw [hxe]
      refine ⟨⟨by omega, fun q => hp.1 ((hcl r (by omega)).mpr (by rw [← z1]; rw [z1] at q ⊢; exact q)), fun r' h0 h1 => ?_⟩, fun y hy hk => ?_⟩
      · have h2 := (hcl r'.toNat (by omega)).mp (hp.2 r'.toNat (by omega))
        rwa [Int.toNat_of_nonneg h0] at h2
      · have hye : y ≠ e := fun q => by
          rw [q] at hk
          omega
        rw [z2 y hye]
        intro hy9
        have := hmin y hy hy9 hye
        omega
    · rw [z2 x hxe] at hx9
      obtain ⟨h1, h2⟩ := g4 x hx hx9
      refine ⟨(RowAt_congr (fun o ho hko => z2 o (fun q => ?_)) (z2 x hxe)).mpr h1, fun y hy hk => ?_⟩
      · rw [q] at hko
        exact h2 e he hko hu
      · by_cases hye : y = e
        · rw [hye, z1]
          omega
        · rw [z2 y hye]
          exact h2 y hy hk
def ucs (A : Ab) (D : Int) (R : Nat → Int) : Nat := cntP (fun x => decide (shd A D x ∧ R x = -9)) 24
end MDD
