/-! the weeks of the page -/
theorem wS_7 {A : Ab} (hO : Ok A) {w : Int} (h3 : 0 ≤ w) (h4 : w < nW A) : wS A (w + 1) - wS A w ≤ 7 := by
  have ob := hO.b
  have hg := gW_b A
  have hn := nW_b hO
  have e : nW A = (A 0 1 - A 0 0 - gW A + 7) / 7 + 1 := rfl
  unfold wS
  by_cases c : w ≤ 0
  · rw [if_pos c, if_neg (show ¬ w + 1 ≤ 0 by omega)]
    split <;> omega
  · rw [if_neg c, if_neg (show ¬ w + 1 ≤ 0 by omega), if_neg (show ¬ nW A ≤ w by omega)]
    split <;> omega
theorem wS_wd {A : Ab} (hO : Ok A) {w : Int} (h3 : 0 < w) (h4 : w < nW A) : wS A w % 7 = A 0 2 := by
  have ob := hO.b
  have e : gW A = (A 0 2 - A 0 0 - 1) % 7 + 1 := rfl
  unfold wS
  rw [if_neg (by omega), if_neg (by omega)]
  omega
theorem wS_no {A : Ab} (hO : Ok A) {w d : Int} (h3 : 0 ≤ w) (h4 : w < nW A) (h1 : wS A w < d) (h2 : d ≤ wL A w) : ¬ d % 7 = A 0 2 := by
  intro z
  have hb := wS_b hO (w := w) h3 (by omega)
  have hb2 := wS_b hO (w := w + 1) (by omega) (by omega)
  unfold wL at h2
  have e1 := (wk_in hO (w := w) (d := d) (by omega) (by omega) h3 h4).mpr ⟨by omega, by unfold wL; omega⟩
  have e2 := (wk_in hO (w := w) (d := d - 1) (by omega) (by omega) h3 h4).mpr ⟨by omega, by unfold wL; omega⟩
  have e3 := wk_step hO (d := d - 1) (by omega)
  rw [show d - 1 + 1 = d by omega, if_pos z] at e3
  omega
section WEEKS
variable {M : Mm} {A : Ab} {L : Nat → Nat → Int} {R : Nat → Int} {n : Nat} {Q : Int32 → Mm → Prop}
theorem p_weeks (hW : Wd M A L R n) (h : Q (iI 1) M) : w_L_weeks M Q := by
  have hO := hW.2.1
  have ob := hO.b
  have hn := nW_b hO
  unfold w_L_weeks
  refine k_told0 hW ?_
  refine loop_up (fun k x => x = (iI (wS A k), iI k, M)) (nW A).toNat ?_ ?_ (Nat.zero_le _) (by rw [show wS A ((0 : Nat) : Int) = A 0 0 from wS_0] <;> rfl)
  · rintro Rr k x hk rfl hRr
    have hk1 : (k : Int) < nW A := by omega
    have b1 := wS_b hO (w := k) (by omega) (by omega)
    have b2 := wS_b hO (w := k + 1) (by omega) (by omega)
    have b3 := wS_lt hO (w := k) (by omega) hk1
    have b4 := wS_7 hO (w := k) (by omega) hk1
    have eL : wL A k = wS A (k + 1) - 1 := rfl
    unfold w_L_weeks_L8
    dsimp only
    refine k_told4 hW ?_
    rw [if_neg (fun z => by have := (iI_le (by omega) (by omega) (by omega) (by omega)).mp z; omega)]
    refine k_week0 hW hk1 ?_
    rw [if_pos rfl]
    refine k_week1 hW hk1 ?_
    rw [if_neg (fun z => by have := (iI_lt (by omega) (by omega) (by omega) (by omega)).mp z; omega)]
    refine k_week1 hW hk1 ?_
    rw [l6_, iI_sub, if_neg (fun z => by have := (iI_lt (by omega) (by omega) (by omega) (by omega)).mp z; omega)]
    refine s_letV M (fun J hJ => ?_) ?_
    · refine s_if (fun _ => hJ) (fun q => ?_)
      have q : ¬ (k : Int) ≤ 0 := fun z => q (by rw [l0_]; exact (iI_le (by omega) (by omega) (by omega) (by omega)).mpr z)
      refine k_told2 hW ?_
      rw [l7_, iI_rem (by omega) (by omega) (by omega) (by omega), wS_wd hO (by omega) hk1, if_pos rfl]
      exact hJ
    · refine loop_up (fun j x => x = (iI (wS A k + j), M)) (wL A k - wS A k + 1).toNat ?_ ?_ (Nat.zero_le _) (by rw [show wS A k + ((0 : Nat) : Int) = wS A k by omega])
      · rintro Rj j x hj rfl hRj
        have d1 : A 0 0 ≤ wS A k + j := by omega
        have d2 : wS A k + j ≤ A 0 1 := by omega
        have hin := (wk_in hO (w := k) d1 d2 (by omega) hk1).mpr ⟨by omega, by omega⟩
        have hgo : Rj (iI (wS A k + j + 1), M) := hRj _ (by rw [show wS A k + ((j + 1 : Nat) : Int) = wS A k + j + 1 by omega])
        unfold w_L_weeks_L70
        dsimp only
        refine k_week1 hW hk1 ?_
        rw [if_neg (fun z => by have := (iI_lt (by omega) (by omega) (by omega) (by omega)).mp z; omega)]
        refine k_day0 hW d1 d2 ?_
        rw [hin, if_pos rfl]
        refine k_day1 hW d1 d2 ?_
        rw [l7_, iI_rem (by omega) (by omega) (by omega) (by omega), if_pos rfl, l1_, iI_add]
        refine s_if (fun _ => s_bI hgo) (fun q => ?_)
        have q : ¬ wS A k + j ≤ wS A k := fun z => q ((iI_le (by omega) (by omega) (by omega) (by omega)).mpr z)
        refine k_told2 hW ?_
        rw [if_neg (fun z => by have := (iI_eq (by omega) (by omega) (by omega) (by omega)).mp z; exact wS_no hO (by omega) hk1 (by omega) (by omega) this)]
        exact s_bI hgo
      · rintro Rj x rfl
        unfold w_L_weeks_L70
        dsimp only
        refine k_week1 hW hk1 ?_
        rw [if_pos ((iI_lt (by omega) (by omega) (by omega) (by omega)).mpr (by omega))]
        refine k_week1 hW hk1 ?_
        rw [l1_, iI_add, iI_add]
        refine s_bI (s_bI (hRr _ ?_))
        rw [show wL A k + 1 = wS A ((k + 1 : Nat) : Int) by rw [eL, show ((k + 1 : Nat) : Int) = (k : Int) + 1 by omega]; omega] <;> rfl
  · rintro Rr x rfl
    unfold w_L_weeks_L8
    dsimp only
    refine k_told4 hW ?_
    rw [if_pos ((iI_le (by omega) (by omega) (by omega) (by omega)).mpr (by omega))]
    refine k_told1 hW ?_
    rw [show ((nW A).toNat : Int) = nW A by omega, wS_n hO, l1_, iI_add, if_pos rfl]
    refine k_told4 hW (k_weekN hW ?_)
    rw [lm9_, if_pos rfl]
    exact h
end WEEKS
