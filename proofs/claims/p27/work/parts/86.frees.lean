/-! free days -/
theorem emp_ned {A : Ab} {L : Nat → Nat → Int} {R : Nat → Int} {D : Int} (hO : Ok A) (hL : LayL A L) (hR : LayR A L R) (hLb : Lbd L) (d1 : A 0 0 ≤ D) (d2 : D ≤ A 0 1) : ned A L R D (A 0 4).toNat = 0 ↔ emp A D := by
  have ob := hO.b
  constructor
  · intro z o ho hd
    have h1 := ned_ge (A := A) (L := L) (R := R) (D := D) (k := (A 0 4).toNat) (o := o) (by omega) hd
    have h2 := rowv_nn hO hL hR hLb d1 d2 ho hd
    omega
  · intro z
    rcases ned_at (A := A) (L := L) (R := R) (D := D) (A 0 4).toNat with q | ⟨o, q1, q2, q3⟩
    · exact q
    · exact absurd q2 (z o (by omega))
section FREES
variable {M : Mm} {A : Ab} {L : Nat → Nat → Int} {R : Nat → Int} {n : Nat} {Q : Int32 → Mm → Prop}
/-- one day: is it free -/
theorem p_free_day (hW : Wd M A L R n) {d D : Int} {x : Int32} (hd : 1 ≤ d ∧ d ≤ 42) (d1 : A 0 0 ≤ D) (d2 : D + d - 1 ≤ A 0 1) {b : Int} (hb : (b = 1 ∧ (x ≠ 0 → wk A D = wk A (D + d - 1))) ∨ (b = 0 ∧ ¬ (x ≠ 0 → wk A D = wk A (D + d - 1)))) {a : Int32} {K : Int32 × Int32 × Mm → Prop} (h1 : frc A d x D → K (iI 1, iI (D + d), M)) (h0 : ¬ frc A d x D → K (iI 0, iI (D + d), M)) : ∃ m, loop (w_L_frees_L60 (iI d) x a (iI D) K) m (iI b, iI D, M) := by
  have hO := hW.2.1
  have ob := hO.b
  have hL := hW.2.2.1.2.1
  have hLR := hW.2.2.1.2.2.1
  have hLb := hW.2.2.1.2.2.2.1
  have hRb := hW.2.2.1.2.2.2.2.1
  refine loop_up (fun j y => ∃ b : Int, y = (iI b, iI (D + j), M) ∧ ((b = 1 ∧ (x ≠ 0 → wk A D = wk A (D + d - 1)) ∧ ∀ E, D ≤ E → E < D + j → emp A E) ∨ (b = 0 ∧ ¬ ((x ≠ 0 → wk A D = wk A (D + d - 1)) ∧ ∀ E, D ≤ E → E < D + j → emp A E)))) d.toNat ?_ ?_ (Nat.zero_le _) ⟨b, by rw [show D + ((0 : Nat) : Int) = D by omega] <;> rfl, ?_⟩
  · rintro Rj j y hj ⟨b, rfl, hb⟩ hRj
    have dj1 : A 0 0 ≤ D + (j : Int) := by omega
    have dj2 : D + (j : Int) ≤ A 0 1 := by omega
    have hnb := ned_b (A := A) (D := D + j) hLb hRb (A 0 4).toNat
    have he := emp_ned hO hL hLR hLb dj1 dj2
    have ej : D + ((j + 1 : Nat) : Int) = D + j + 1 := by omega
    unfold w_L_frees_L60
    try dsimp only
    rw [iI_add, if_neg (fun z => by have := (iI_le (by omega) (by omega) (by omega) (by omega)).mp z; omega), l1_, iI_add]
    rcases hb with ⟨rfl, hb1, hb2⟩ | ⟨rfl, hb1⟩
    · refine z1 (k_day5 hW dj1 dj2 ?_)
      rw [l0_]
      refine s_if (fun q => ?_) (fun q => ?_)
      · have q := (iI_eq (by omega) (by omega) (by omega) (by omega)).mp q
        refine s_bI (hRj _ ⟨1, by rw [ej] <;> rfl, Or.inl ⟨rfl, hb1, fun E e1 e2 => ?_⟩⟩)
        by_cases hE : E = D + j
        · rw [hE]
          exact he.mp q
        · exact hb2 E e1 (by omega)
      · refine s_bI (hRj _ ⟨0, by rw [ej] <;> rfl, Or.inr ⟨rfl, fun z => ?_⟩⟩)
        exact q (by rw [he.mpr (z.2 (D + j) (by omega) (by omega))])
    · refine z0 (s_bI (hRj _ ⟨0, by rw [ej] <;> rfl, Or.inr ⟨rfl, fun z => hb1 ⟨z.1, fun E e1 e2 => z.2 E e1 (by omega)⟩⟩⟩))
  · rintro Rj y ⟨b, rfl, hb⟩
    have ed : D + (d.toNat : Int) = D + d := by omega
    unfold w_L_frees_L60
    try dsimp only
    rw [iI_add, if_pos ((iI_le (by omega) (by omega) (by omega) (by omega)).mpr (by omega))]
    rw [ed] at hb ⊢
    rcases hb with ⟨rfl, hb1, hb2⟩ | ⟨rfl, hb1⟩
    · exact h1 ⟨hb1, hb2⟩
    · exact h0 hb1
  · rcases hb with ⟨b1, b2⟩ | ⟨b1, b2⟩
    · exact Or.inl ⟨b1, b2, fun E e1 e2 => absurd e2 (by omega)⟩
    · exact Or.inr ⟨b1, fun z => b2 z.1⟩
theorem p_frees (hW : Wd M A L R n) {d : Int} {x : Int32} (hd : 1 ≤ d ∧ d ≤ 42) (h : Q (iI 1) M) : w_L_frees M (iI d) x Q := by
  have hO := hW.2.1
  have ob := hO.b
  unfold w_L_frees
  refine k_told1 hW ?_
  rw [iI_sub, l1_, iI_add, ← l1_]
  refine s_bI ?_
  refine loop_up (fun i y => ∃ du : Int, y = (iI du, iI (A 0 1 - d + 1 - i), M) ∧ ((du = -9 ∧ ∀ D, A 0 1 - d + 1 - i < D → D ≤ A 0 1 - d + 1 → ¬ frc A d x D) ∨ ((A 0 1 - d + 1 - i < du ∧ du ≤ A 0 1 - d + 1 ∧ A 0 0 ≤ du) ∧ frc A d x du ∧ ∀ D, A 0 1 - d + 1 - i < D → D < du → ¬ frc A d x D))) (A 0 1 - A 0 0 + 2 - d).toNat ?_ ?_ (Nat.zero_le _) ⟨-9, by rw [lm9_, show A 0 1 - d + 1 - ((0 : Nat) : Int) = A 0 1 - d + 1 by omega] <;> rfl, Or.inl ⟨rfl, fun D e1 e2 => absurd e1 (by omega)⟩⟩
  · rintro Ri i y hi ⟨du, rfl, hdu⟩ hRi
    obtain ⟨D, hD⟩ : ∃ D : Int, D = A 0 1 - d + 1 - i := ⟨_, rfl⟩
    have hub : -9 ≤ du ∧ du ≤ 1000 := by omega
    rw [← hD] at hdu ⊢
    have d1 : A 0 0 ≤ D := by omega
    have d2 : D + d - 1 ≤ A 0 1 := by omega
    have hw1 := wk_b hO (d := D) d1 (by omega)
    have hw2 := wk_b hO (d := D + d - 1) (by omega) (by omega)
    have hn := nW_b hO
    unfold w_L_frees_L14
    try dsimp only
    refine k_told0 hW ?_
    rw [if_neg (fun z => by have := (iI_lt (by omega) (by omega) (by omega) (by omega)).mp z; omega)]
    have ei : A 0 1 - d + 1 - ((i + 1 : Nat) : Int) = D - 1 := by omega
    have g1 : frc A d x D → Ri (iI D, iI (D + -1), M) := fun c => hRi _ ⟨D, by rw [ei] <;> rfl, Or.inr ⟨by omega, c, fun E e1 e2 => absurd e2 (by omega)⟩⟩
    have g0 : ¬ frc A d x D → Ri (iI du, iI (D + -1), M) := by
      intro c
      refine hRi _ ⟨du, by rw [ei] <;> rfl, ?_⟩
      rcases hdu with ⟨g1, g2⟩ | ⟨g1, g2, g3⟩
      · refine Or.inl ⟨g1, fun E e1 e2 => ?_⟩
        by_cases hE : E = D
        · rw [hE]; exact c
        · exact g2 E (by omega) e2
      · refine Or.inr ⟨by omega, g2, fun E e1 e2 => ?_⟩
        by_cases hE : E = D
        · rw [hE]; exact c
        · exact g3 E (by omega) e2
    by_cases hx : x = 0
    · refine s_letV (iI 1, M) (fun J hJ => ?_) (p_free_day hW hd d1 d2 (Or.inl ⟨rfl, fun z => absurd hx z⟩) (fun c => by (try dsimp only); refine z1 ?_; rw [lm1_, iI_add]; exact s_bI (g1 c)) (fun c => by (try dsimp only); refine z0 ?_; rw [lm1_, iI_add]; exact s_bI (g0 c)))
      refine s_letV M (fun J2 hJ2 => ?_) hJ
      rw [if_pos hx]
      exact hJ2
    · by_cases hw : wk A D = wk A (D + d - 1)
      · refine s_letV (iI 1, M) (fun J hJ => ?_) (p_free_day hW hd d1 d2 (Or.inl ⟨rfl, fun _ => hw⟩) (fun c => by (try dsimp only); refine z1 ?_; rw [lm1_, iI_add]; exact s_bI (g1 c)) (fun c => by (try dsimp only); refine z0 ?_; rw [lm1_, iI_add]; exact s_bI (g0 c)))
        refine s_letV M (fun J2 hJ2 => ?_) hJ
        rw [if_neg hx]
        refine k_day0 hW d1 (by omega) ?_
        rw [iI_add, l1_, iI_sub]
        refine k_day0 hW (by omega) (by omega) ?_
        rw [hw, if_pos rfl]
        exact hJ2
      · refine s_letV (iI 0, M) (fun J hJ => ?_) (p_free_day hW hd d1 d2 (Or.inr ⟨rfl, fun z => hw (z hx)⟩) (fun c => by (try dsimp only); refine z1 ?_; rw [lm1_, iI_add]; exact s_bI (g1 c)) (fun c => by (try dsimp only); refine z0 ?_; rw [lm1_, iI_add]; exact s_bI (g0 c)))
        refine s_letJ (fun _ => False) (fun J2 hJ2 => ?_) (fun x hx => hx.elim)
        rw [if_neg hx]
        refine k_day0 hW d1 (by omega) ?_
        rw [iI_add, l1_, iI_sub]
        refine k_day0 hW (by omega) (by omega) ?_
        rw [if_neg (fun z => hw ((iI_eq (by omega) (by omega) (by omega) (by omega)).mp z))]
        exact hJ
  · rintro Ri y ⟨du, rfl, hdu⟩
    unfold w_L_frees_L14
    try dsimp only
    refine k_told0 hW ?_
    have hub : -9 ≤ du ∧ du ≤ 1000 := by omega
    rw [if_pos ((iI_lt (by omega) (by omega) (by omega) (by omega)).mpr (by omega))]
    refine k_free hW hd ?_
    have e : frv A d x = du := by
      rcases hdu with ⟨g1, g2⟩ | ⟨g1, g2, g3⟩
      · rw [g1]
        exact frv_no (fun j hj => g2 _ (by omega) (by omega))
      · obtain ⟨k, hk⟩ : ∃ k : Nat, du = A 0 0 + k := ⟨(du - A 0 0).toNat, by omega⟩
        rw [hk] at g2 ⊢
        exact frv_at (by omega) g2 (fun j hj => g3 _ (by omega) (by omega))
    rw [e, if_pos rfl, l1_]
    exact h
end FREES
