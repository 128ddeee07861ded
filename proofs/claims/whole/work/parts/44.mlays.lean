theorem Rm.sx {P : Nat → Nat → Prop} {M M' : Mm} {R : Nat → Int} (h : Rm M R) (hs : sx P M M') (hn : ¬ P 21 0) : Rm M' R := by
  have := hs 21 0 hn
  unfold Rm at h ⊢
  rw [this]
  exact h
section MDE
variable {M0 M : Mm} {A : Ab} {L : Nat → Nat → Int} {R0 R : Nat → Int} {D : Int}
theorem s_X5_laysDay {Q : Mm → Prop} (hP : Pm M 0 A) (hW : Wm M A) (hO : Ok A) (hM : Lmm M L) (hLb : Lbd L) (d1 : A 0 0 ≤ D) (d2 : D ≤ A 0 1) (hR0 : Rm M R) (hRb : Rbd R) (hz : ∀ e, shd A D e → R e = -9) (h : ∀ (M' : Mm) (R' : Nat → Int), Rm M' R' → Rbd R' → (∀ e, ¬ shd A D e → R' e = R e) → (∀ e, shd A D e → RowAt A L R' e) → sx (fun c i => c = 21 ∧ i = 0) M M' → Q M') : w_X5_laysDay M (iI D) Q := by
  have ob := hO.b
  unfold w_X5_laysDay
  refine loop_I (fun k x => ∃ (M' : Mm) (R' : Nat → Int) (b : Int), x = (iI b, M') ∧ DI M A L D R M' R' ∧ (b = 1 ∧ k = ucs A D R' + 1 ∨ b = 0 ∧ ∀ e, shd A D e → R' e ≠ -9)) ?_ (k := ucs A D R + 1) ⟨M, R, 1, rfl, ⟨hR0, hRb, fun _ _ => rfl, fun x hx hx9 => absurd (hz x hx) hx9, sx_rf⟩, Or.inl ⟨rfl, rfl⟩⟩
  rintro Rr k x ⟨M', R', b, rfl, hI, hk⟩ hR
  have hsx := hI.2.2.2.2
  have hP' := hP.sx hsx (by omega)
  have hW' := hW.sx hsx (by omega)
  have hM' := hM.sx hsx (by omega)
  unfold w_X5_laysDay_L2
  dsimp only
  simp only [lm1_, lm2_, lm3_, lm9_, lm10_, lm999_, lm1000_, l0_, l1_, l2_, l3_, l4_, l5_, l6_, l7_, l8_, l9_, l10_, l11_, l12_, l13_, l23_, l24_, l30_, l31_, l33_, l35_, l41_, l42_, l45_, l48_, l57_, l58_, l59_, l60_, l64_, l96_, l99_, l100_, l101_, l126_, l168_, l808_, l909_, l999_, l1439_, iI_add, iI_sub, iI_mul, iI_neg]
  rcases hk with ⟨hb1, hk⟩ | ⟨hb0, hk⟩
  · rw [hb1]
    refine z1 (s_nexts hP' hO hI.1 hI.2.1 d1 d2 (fun b v hn => ?_))
    dsimp only
    rcases hn with ⟨q1, q2⟩ | ⟨e, q1, q2, q3, q4, q5⟩
    · refine s_letV (iI 0) (fun J hJ => ?_) ?_
      · rw [q1, if_pos rfl]
        exact hJ
      · exact z0 (hR 0 _ (by omega) ⟨M', R', 0, rfl, hI, Or.inr ⟨rfl, fun e he => q2 e (by have := he.1; omega) he⟩⟩)
    · have hne : ¬ iI (e : Int) = iI (-9) := fun z => by
        have := (iI_eq (by omega) (by omega) (by omega) (by omega)).mp z
        omega
      refine s_letV (iI 1) (fun J hJ => ?_) ?_
      · rw [q1, if_neg hne]
        exact hJ
      · rw [q1]
        refine z1 ?_
        obtain ⟨r0, m2, m3⟩ := least (tkm_some (L := L) hO q3 q4)
        obtain ⟨m1, m2⟩ := m2
        have m3 : ∀ r' : Nat, r' < r0 → tkm A L R' D r' := fun r' q => Classical.byContradiction fun z => m3 r' q ⟨by omega, z⟩
        refine loop_up (fun k x => x = (iI k, M')) r0 ?_ ?_ (Nat.zero_le _) rfl
        · rintro R2 k x hk rfl hR2
          unfold w_X5_laysDay_L105
          dsimp only
          simp only [lm1_, lm2_, lm3_, lm9_, lm10_, lm999_, lm1000_, l0_, l1_, l2_, l3_, l4_, l5_, l6_, l7_, l8_, l9_, l10_, l11_, l12_, l13_, l23_, l24_, l30_, l31_, l33_, l35_, l41_, l42_, l45_, l48_, l57_, l58_, l59_, l60_, l64_, l96_, l99_, l100_, l101_, l126_, l168_, l808_, l909_, l999_, l1439_, iI_add, iI_sub, iI_mul, iI_neg]
          refine s_X5_isTaken hP' hW' hO hM' hI.1 hLb hI.2.1 d1 d2 (by omega) (fun _ => z1 ?_) (fun q => absurd (m3 k hk) q)
          exact hR2 _ rfl
        · rintro R2 x rfl
          unfold w_X5_laysDay_L105
          dsimp only
          simp only [lm1_, lm2_, lm3_, lm9_, lm10_, lm999_, lm1000_, l0_, l1_, l2_, l3_, l4_, l5_, l6_, l7_, l8_, l9_, l10_, l11_, l12_, l13_, l23_, l24_, l30_, l31_, l33_, l35_, l41_, l42_, l45_, l48_, l57_, l58_, l59_, l60_, l64_, l96_, l99_, l100_, l101_, l126_, l168_, l808_, l909_, l999_, l1439_, iI_add, iI_sub, iI_mul, iI_neg]
          refine s_X5_isTaken hP' hW' hO hM' hI.1 hLb hI.2.1 d1 d2 (by omega) (fun q => absurd q m2) (fun _ => z0 ?_)
          refine s_stN q2 (by decide) ?_
          have hI2 := DI_place hO hI d1 d2 q3 q4 (fun x hx => q5 x (by have := hx.1; omega) hx) m1 ⟨m2, m3⟩ rfl
          refine hR (ucs A D _ + 1) _ ?_ ⟨_, _, 1, rfl, hI2, Or.inl ⟨rfl, rfl⟩⟩
          rw [hk]
          refine Nat.succ_lt_succ (cntP_flip (i := e) q2 ?_ ?_ (fun j hj => ?_))
          · exact decide_eq_true ⟨q3, q4⟩
          · intro z
            have := (of_decide_eq_true z).2
            dsimp only at this
            rw [if_pos rfl] at this
            omega
          · refine decide_eq_decide.mpr ?_
            dsimp only
            rw [if_neg hj]
  · rw [hb0]
    exact z0 (h M' R' hI.1 hI.2.1 hI.2.2.1 (fun e he => (hI.2.2.2.1 e he (hk e he)).1) hsx)
end MDE
