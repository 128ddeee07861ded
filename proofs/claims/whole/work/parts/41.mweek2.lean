theorem Pm.sx {P : Nat → Nat → Prop} {M M' : Mm} {s : Nat} {A : Ab} (h : Pm M s A) (hs : sx P M M') (hn : ¬ P 18 0) : Pm M' s A := by
  have := hs 18 0 hn
  unfold Pm at h ⊢
  rw [this]
  exact h
theorem Wm.sx {P : Nat → Nat → Prop} {M M' : Mm} {A : Ab} (h : Wm M A) (hs : sx P M M') (hn : ¬ P 22 0) : Wm M' A := by
  have := hs 22 0 hn
  unfold Wm at h ⊢
  rw [this]
  exact h
section MX
variable {M0 M : Mm} {A : Ab} {L0 L : Nat → Nat → Int} {w : Nat}
theorem WI_place (hO : Ok A) (hI : WI M0 A L0 w M L) (hL : Lb A L0 w) (hw : (w : Int) < nW A) {e : Nat} (he : bar A w e) (hu : L e w = -9) (hmin : ∀ x, bar A w x → L x w = -9 → x ≠ e → kb A L0 w e < kb A L0 w x) {r : Nat} (hr : r < 24) (hp : plcd A L w e r) {L2 : Nat → Nat → Int} (hL2 : L2 = fun x w' => if x = e ∧ w' = w then (r : Int) else L x w') : WI M0 A L0 w (st M 20 0 (7 * e + w) (iI r)) L2 := by
  have hn := nW_b hO
  have hfc := fun (r : Int) (hr : 0 ≤ r) => fr_clash hO hI hL he hu hr
  obtain ⟨g1, g2, g3, g4, g5, g6⟩ := hI
  have z1 : L2 e w = r := by rw [hL2]; exact if_pos ⟨rfl, rfl⟩
  have z2 : ∀ x w', ¬ (x = e ∧ w' = w) → L2 x w' = L x w' := fun x w' hn => by rw [hL2]; exact if_neg hn
  have z3 : ∀ x, w ≠ 0 → L2 x (w - 1) = L x (w - 1) := fun x h0 => z2 x (w - 1) (by omega)
  have g3w : ∀ x, w ≠ 0 → L x (w - 1) = L0 x (w - 1) := fun x h0 => g3 x (w - 1) (by omega)
  have hcl : ∀ r : Int, 0 ≤ r → (fr A L w e r ↔ clash A L2 w e r) := fun r hr => by
    refine (hfc r hr).trans (clash_congr z3 (fun o ho hko => z2 o w (fun q => ?_)) r).symm
    rw [q.1] at hko
    omega
  have hpb := prv_b g2 (w := w) (e := e)
  refine ⟨fun x w' hx hw' => ?_, fun x w' => ?_, fun x w' hw' => ?_, fun x hx => ?_, fun x hx hx9 => ?_, sx_st g6 ⟨rfl, rfl⟩⟩
  · by_cases hxe : x = e ∧ w' = w
    · rw [hxe.1, hxe.2, z1, st_s]
    · rw [st_d (by omega), z2 x w' hxe]
      exact g1 x w' hx hw'
  · by_cases hxe : x = e ∧ w' = w
    · rw [hxe.1, hxe.2, z1]
      omega
    · rw [z2 x w' hxe]
      exact g2 x w'
  · rw [z2 x w' (by omega)]
    exact g3 x w' hw'
  · rw [z2 x w (fun q => hx (by rw [q.1]; exact he))]
    exact g4 x hx
  · by_cases hxe : x = e
    · rw [hxe]
      refine ⟨?_, fun y hy hk => ?_⟩
      · unfold LaneAt
        rw [prv_congr z3, z1]
        rcases hp with ⟨p1, p2, p3⟩ | ⟨p1, p2, p3⟩
        · exact Or.inl ⟨p1, fun q => p2 ((hcl _ (by omega)).mpr q), p3⟩
        · refine Or.inr ⟨?_, by omega, fun q => p2 ((hcl _ (by omega)).mpr q), fun r' h0 h1 => ?_⟩
          · by_cases hp9 : prv L w e = -9
            · exact Or.inl hp9
            · exact Or.inr ((hcl _ (hpb.1.resolve_left hp9)).mp (p1.resolve_left hp9))
          · have h2 := (hcl r'.toNat (by omega)).mp (p3 r'.toNat (by omega))
            rwa [Int.toNat_of_nonneg h0] at h2
      · have hye : y ≠ e := fun q => by
          rw [q] at hk
          omega
        rw [z2 y w (fun q => hye q.1)]
        intro hy9
        have := hmin y hy hy9 hye
        omega
    · rw [z2 x w (fun q => hxe q.1)] at hx9
      obtain ⟨h1, h2⟩ := g5 x hx hx9
      refine ⟨(LaneAt_congr z3 (fun o ho hko => z2 o w (fun q => ?_)) (z2 x w (fun q => hxe q.1))).mpr h1, fun y hy hk => ?_⟩
      · rw [kb_congr g3w, kb_congr g3w, q.1] at hko
        exact h2 e he hko hu
      · by_cases hye : y = e
        · rw [hye, z1]
          omega
        · rw [z2 y w (fun q => hye q.1)]
          exact h2 y hy hk
def ucn (A : Ab) (L : Nat → Nat → Int) (w : Nat) : Nat := cntP (fun x => decide (bar A w x ∧ L x w = -9)) 24
theorem s_X5_laysWeek {Q : Mm → Prop} (hP : Pm M 0 A) (hW : Wm M A) (hO : Ok A) (hw : (w : Int) < nW A) (hM : Lmm M L) (hb : Lbd L) (hL : Lb A L w) (hz : ∀ e, L e w = -9) (h : ∀ (M' : Mm) (L' : Nat → Nat → Int), Lmm M' L' → Lbd L' → (∀ e w', w' ≠ w → L' e w' = L e w') → (∀ e, bar A w e → LaneAt A L' w e) → (∀ e, ¬ bar A w e → L' e w = -9) → sx (fun c i => c = 20 ∧ i = 0) M M' → Q M') : w_X5_laysWeek M (iI w) Q := by
  have ob := hO.b
  unfold w_X5_laysWeek
  refine loop_I (fun k x => ∃ (M' : Mm) (L' : Nat → Nat → Int) (b : Int), x = (iI b, M') ∧ WI M A L w M' L' ∧ (b = 1 ∧ k = ucn A L' w + 1 ∨ b = 0 ∧ ∀ e, bar A w e → L' e w ≠ -9)) ?_ (k := ucn A L w + 1) ⟨M, L, 1, rfl, ⟨hM, hb, fun _ _ _ => rfl, fun e _ => hz e, fun x _ hx => absurd (hz x) hx, sx_rf⟩, Or.inl ⟨rfl, rfl⟩⟩
  rintro R k x ⟨M', L', b, rfl, hI, hk⟩ hR
  have hP' := hP.sx hI.2.2.2.2.2 (by omega)
  have hW' := hW.sx hI.2.2.2.2.2 (by omega)
  unfold w_X5_laysWeek_L2
  dsimp only
  simp only [lm1_, lm2_, lm3_, lm9_, lm10_, lm999_, lm1000_, l0_, l1_, l2_, l3_, l4_, l5_, l6_, l7_, l8_, l9_, l10_, l11_, l12_, l13_, l23_, l24_, l30_, l31_, l33_, l35_, l41_, l42_, l45_, l48_, l57_, l58_, l59_, l60_, l64_, l96_, l99_, l100_, l101_, l126_, l168_, l808_, l909_, l999_, l1439_, iI_add, iI_sub, iI_mul, iI_neg]
  rcases hk with ⟨hb1, hk⟩ | ⟨hb0, hk⟩
  · rw [hb1]
    refine z1 (s_next hP' hW' hO hw hI hL (fun b v hn => ?_))
    dsimp only
    rcases hn with ⟨q1, q2⟩ | ⟨e, q1, q2, q3, q4, q5⟩
    · refine s_letV (iI 0) (fun J hJ => ?_) ?_
      · rw [q1, if_pos rfl]
        exact hJ
      · exact z0 (hR 0 _ (by omega) ⟨M', L', 0, rfl, hI, Or.inr ⟨rfl, fun e he => q2 e (by have := he.1; omega) he⟩⟩)
    · have hne : ¬ iI (e : Int) = iI (-9) := fun z => by
        have := (iI_eq (by omega) (by omega) (by omega) (by omega)).mp z
        omega
      refine s_letV (iI 1) (fun J hJ => ?_) ?_
      · rw [q1, if_neg hne]
        exact hJ
      · rw [q1]
        refine z1 (s_X5_laysBar hP' hW' hO hI.1 hI.2.1 hw q3.1 (fun r hr hp => ?_))
        have hI2 := WI_place hO hI hL hw q3 q4 (fun x hx => q5 x (by have := hx.1; omega) hx) hr hp rfl
        refine hR (ucn A _ w + 1) _ ?_ ⟨_, _, 1, rfl, hI2, Or.inl ⟨rfl, rfl⟩⟩
        rw [hk]
        refine Nat.succ_lt_succ (cntP_flip (i := e) q2 ?_ ?_ (fun j hj => ?_))
        · exact decide_eq_true ⟨q3, q4⟩
        · intro z
          have := (of_decide_eq_true z).2
          dsimp only at this
          rw [if_pos ⟨rfl, rfl⟩] at this
          omega
        · refine decide_eq_decide.mpr ?_
          dsimp only
          rw [if_neg (fun z => hj z.1)]
  · rw [hb0]
    refine z0 (h M' L' hI.1 hI.2.1 hI.2.2.1 (fun e he => (hI.2.2.2.2.1 e he (hk e he)).1) hI.2.2.2.1 hI.2.2.2.2.2)
end MX
