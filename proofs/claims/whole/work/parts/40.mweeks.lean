section MW
variable {M0 M : Mm} {A : Ab} {L0 L : Nat → Nat → Int} {w : Nat}
/-- what the next bar is, of those before k -/
def nxt (A : Ab) (L0 L : Nat → Nat → Int) (w k : Nat) (b : Int) : Prop := b = -9 ∧ (∀ x, x < k → bar A w x → L x w ≠ -9) ∨ ∃ e : Nat, b = e ∧ e < k ∧ bar A w e ∧ L e w = -9 ∧ ∀ x, x < k → bar A w x → L x w = -9 → x ≠ e → kb A L0 w e < kb A L0 w x
theorem Lb_congr (h : ∀ x, w ≠ 0 → L x (w - 1) = L0 x (w - 1)) (hL : Lb A L0 w) : Lb A L w := fun e h1 h2 h3 => by
  rw [h e h3]
  exact hL e h1 h2 h3
theorem s_next (hP : Pm M 0 A) (hW : Wm M A) (hO : Ok A) (hw : (w : Int) < nW A) (hI : WI M0 A L0 w M L) (hL : Lb A L0 w) {K : Int32 × Int32 × Mm → Prop} (hK : ∀ (b : Int) (v : Int32), nxt A L0 L w 24 b → K (iI b, v, M)) : ∃ n, loop (w_X5_laysWeek_L12 (iI w) K) n (iI (-9), iI 0, M) := by
  have hn := nW_b hO
  have ob := hO.b
  have g1 := hI.1
  have g2 := hI.2.1
  have g3w : ∀ x, w ≠ 0 → L x (w - 1) = L0 x (w - 1) := fun x h0 => hI.2.2.1 x (w - 1) (by omega)
  refine loop_up (fun k x => ∃ b : Int, x = (iI b, iI k, M) ∧ nxt A L0 L w k b) (A 0 4).toNat ?_ ?_ (Nat.zero_le _) ⟨-9, rfl, Or.inl ⟨rfl, fun x hx => absurd hx (Nat.not_lt_zero _)⟩⟩
  · rintro R k x hk ⟨b, rfl, hb⟩ hR
    have hk1 : (k : Int) < A 0 4 := by omega
    have hkb := g2 k w
    unfold w_X5_laysWeek_L12
    dsimp only
    refine s_pg hP (j := 4) (by decide) rfl ?_
    simp (disch := omega) only [lm1_, lm2_, lm3_, lm9_, lm10_, lm999_, lm1000_, l0_, l1_, l2_, l3_, l4_, l5_, l6_, l7_, l8_, l9_, l10_, l11_, l12_, l13_, l23_, l24_, l30_, l31_, l33_, l35_, l41_, l42_, l45_, l48_, l57_, l58_, l59_, l60_, l64_, l96_, l99_, l100_, l101_, l126_, l168_, l808_, l909_, l999_, l1439_, iI_add, iI_sub, iI_mul, iI_neg, iI_rem, iI_lt, iI_le, iI_eq, vp_iI, cl_iI, Int.toNat_natCast]
    rw [if_neg (by omega)]
    -- it is no bar that waits
    have hno : ¬ (bar A w k ∧ L k w = -9) → R (iI b, iI ((k : Int) + 1), M) := by
      intro hf
      refine hR _ ⟨b, rfl, ?_⟩
      rcases hb with ⟨q1, q2⟩ | ⟨e, q1, q2, q3, q4, q5⟩
      · refine Or.inl ⟨q1, fun x hx hbx hx9 => ?_⟩
        by_cases hxk : x = k
        · rw [hxk] at hbx hx9
          exact hf ⟨hbx, hx9⟩
        · exact q2 x (by omega) hbx hx9
      · refine Or.inr ⟨e, q1, by omega, q3, q4, fun x hx hbx hx9 hxe => ?_⟩
        by_cases hxk : x = k
        · rw [hxk] at hbx hx9
          exact absurd ⟨hbx, hx9⟩ hf
        · exact q5 x (by omega) hbx hx9 hxe
    refine s_X5_isLong hP hO hk1 (fun c1 => ?_) (fun c1 => ?_)
    · refine s_letJ (fun x => x = (iI 1, M) ∧ bar A w k ∧ L k w = -9 ∨ x = (iI 0, M) ∧ ¬ (bar A w k ∧ L k w = -9)) (fun J hJ => ?_) ?_
      · refine s_letJ (fun m => m = M ∧ ¬ (bar A w k ∧ L k w = -9)) (fun J2 hJ2 => ?_) (fun m hm => ?_)
        · rw [if_neg (by decide)]
          refine s_X5_isIn hP hW hO hk1 hw (fun c2 => z1 ?_) (fun c2 => z0 (hJ2 _ ⟨rfl, fun z => c2 ?_⟩))
          · refine s_lm g1 (by omega) (by omega) ?_
            refine s_if (fun q => ?_) (fun q => ?_)
            · have q := (iI_eq (by omega) (by omega) (by omega) (by omega)).mp q
              exact hJ _ (Or.inl ⟨rfl, ⟨hk1, c1, c2⟩, q⟩)
            · exact hJ2 _ ⟨rfl, fun z => q (by rw [z.2])⟩
          · exact z.1.2.2
        · rw [hm.1]
          exact hJ _ (Or.inr ⟨rfl, hm.2⟩)
      · rintro x (⟨rfl, q1, q2⟩ | ⟨rfl, q⟩)
        · dsimp only
          rw [if_neg (by decide)]
          rcases hb with ⟨p1, p2⟩ | ⟨e, p1, p2, p3, p4, p5⟩
          · rw [p1, if_pos (by decide)]
            exact hR _ ⟨k, rfl, Or.inr ⟨k, rfl, by omega, q1, q2, fun x hx hbx hx9 hxk => absurd hx9 (p2 x (by omega) hbx)⟩⟩
          · rw [p1]
            have hne : ¬ iI (e : Int) = iI (-9) := fun z => by
              have := (iI_eq (by omega) (by omega) (by omega) (by omega)).mp z
              omega
            rw [if_neg hne]
            have kk := kb_inj hO hL q1 p3
            refine s_X5_isAhead hP hW hO g1 hw (Lb_congr g3w hL) q1 p3 p2 (fun c => ?_) (fun c => ?_)
            · rw [kb_congr g3w, kb_congr g3w] at c
              refine z1 (hR _ ⟨k, rfl, Or.inr ⟨k, rfl, by omega, q1, q2, fun x hx hbx hx9 hxk => ?_⟩⟩)
              by_cases hxe : x = e
              · rw [hxe]; exact c
              · have := p5 x (by omega) hbx hx9 hxe
                omega
            · rw [kb_congr g3w, kb_congr g3w] at c
              refine z0 (hR _ ⟨e, rfl, Or.inr ⟨e, rfl, by omega, p3, p4, fun x hx hbx hx9 hxe => ?_⟩⟩)
              by_cases hxk : x = k
              · rw [hxk]
                have : ¬ kb A L0 w k = kb A L0 w e := fun z => by
                  have := kk z
                  omega
                omega
              · exact p5 x (by omega) hbx hx9 hxe
        · dsimp only
          rw [if_pos rfl]
          exact hno q
    · refine s_letV (iI 0, M) (fun J hJ => ?_) ?_
      · refine s_letV M (fun J2 hJ2 => ?_) hJ
        rw [if_pos rfl]
        exact hJ2
      · dsimp only
        rw [if_pos rfl]
        exact hno (fun z => c1 z.1.2.1)
  · rintro R x ⟨b, rfl, hb⟩
    unfold w_X5_laysWeek_L12
    dsimp only
    refine s_pg hP (j := 4) (by decide) rfl ?_
    simp (disch := omega) only [lm1_, lm2_, lm3_, lm9_, lm10_, lm999_, lm1000_, l0_, l1_, l2_, l3_, l4_, l5_, l6_, l7_, l8_, l9_, l10_, l11_, l12_, l13_, l23_, l24_, l30_, l31_, l33_, l35_, l41_, l42_, l45_, l48_, l57_, l58_, l59_, l60_, l64_, l96_, l99_, l100_, l101_, l126_, l168_, l808_, l909_, l999_, l1439_, iI_add, iI_sub, iI_mul, iI_neg, iI_rem, iI_lt, iI_le, iI_eq, vp_iI, cl_iI, Int.toNat_natCast]
    rw [if_pos (by omega)]
    refine hK b _ ?_
    rcases hb with ⟨q1, q2⟩ | ⟨e, q1, q2, q3, q4, q5⟩
    · exact Or.inl ⟨q1, fun x _ hbx => q2 x (by have := hbx.1; omega) hbx⟩
    · exact Or.inr ⟨e, q1, by omega, q3, q4, fun x _ hbx => q5 x (by have := hbx.1; omega) hbx⟩
end MW
