/-! free days -/
def frc (A : Ab) (n : Int) (x : Int32) (d : Int) : Prop := (x ≠ 0 → wk A d = wk A (d + n - 1)) ∧ ∀ D, d ≤ D → D < d + n → emp A D
noncomputable def frp (A : Ab) (n : Int) (x : Int32) (k : Nat) : Bool := @decide (frc A n x (A 0 0 + k)) (Classical.propDecidable _)
noncomputable def frN (A : Ab) (n : Int) (x : Int32) : Int := fst (frp A n x) (A 0 1 - A 0 0 + 2 - n).toNat
noncomputable def frv (A : Ab) (n : Int) (x : Int32) : Int := if frN A n x = -9 then -9 else A 0 0 + frN A n x
theorem frp_t {A : Ab} {n : Int} {x : Int32} {k : Nat} : frp A n x k = true ↔ frc A n x (A 0 0 + k) := @decide_eq_true_iff _ (Classical.propDecidable _)
theorem frv_at {A : Ab} {n : Int} {x : Int32} {k : Nat} (hk : k < (A 0 1 - A 0 0 + 2 - n).toNat) (h : frc A n x (A 0 0 + k)) (h0 : ∀ i, i < k → ¬ frc A n x (A 0 0 + i)) : frv A n x = A 0 0 + k := by
  have e : frN A n x = k := fst_at hk (frp_t.mpr h) (fun i hi z => h0 i hi (frp_t.mp z))
  rw [frv, e, if_neg (by omega)]
theorem frv_no {A : Ab} {n : Int} {x : Int32} (h0 : ∀ i : Nat, i < (A 0 1 - A 0 0 + 2 - n).toNat → ¬ frc A n x (A 0 0 + i)) : frv A n x = -9 := by
  have e : frN A n x = -9 := fst_no (fun i hi z => h0 i hi (frp_t.mp z))
  rw [frv, e, if_pos rfl]
section FR
variable {M : Mm} {A : Ab} {L : Nat → Nat → Int} {R : Nat → Int} {Q : Int32 → Mm → Prop}
theorem s_X4_free (hP : Pl M 0 A) (hO : Ok A) (hL : Laid M 0 A L R) {n : Int} {x : Int32} (hn : i32 n) (h1 : 1 ≤ n ∧ n ≤ 42 → Q (iI (frv A n x)) M) (h0 : ¬ (1 ≤ n ∧ n ≤ 42) → Q (iI (-1)) M) : w_X4_free M (iI n) x Q := by
  have ob := hO.b
  have gW := hL.1
  unfold w_X4_free
  simp only [lm1_, lm2_, lm3_, lm9_, lm10_, lm999_, lm1000_, l0_, l1_, l2_, l3_, l4_, l5_, l6_, l7_, l8_, l9_, l10_, l11_, l12_, l13_, l23_, l24_, l30_, l31_, l33_, l35_, l41_, l42_, l45_, l48_, l57_, l58_, l59_, l60_, l64_, l96_, l99_, l100_, l101_, l126_, l168_, l808_, l909_, l900_, l20_, l1440_, l2003_, l15486209_, l2147483647_, l999_, l1439_, iI_add, iI_sub, iI_mul, iI_neg]
  refine s_X4_isWithin hn (by omega) (by omega) (fun c1 => z1 ?_) (fun c1 => z0 (h0 c1))
  have h1 := h1 c1
  rw [hP.1 0 (by decide)]
  refine s_bI (loop_up (fun k y => y = (iI (A 0 0 + k), M) ∧ ∀ i : Nat, i < k → ¬ frc A n x (A 0 0 + i)) (A 0 1 - A 0 0 + 2 - n).toNat ?_ ?_ (Nat.zero_le _) ⟨by rw [show A 0 0 + ((0 : Nat) : Int) = A 0 0 by omega], fun i hi => absurd hi (Nat.not_lt_zero _)⟩)
  · rintro Rr k y hk ⟨rfl, hno⟩ hR
    unfold w_X4_free_L23
    dsimp only
    simp only [lm1_, lm2_, lm3_, lm9_, lm10_, lm999_, lm1000_, l0_, l1_, l2_, l3_, l4_, l5_, l6_, l7_, l8_, l9_, l10_, l11_, l12_, l13_, l23_, l24_, l30_, l31_, l33_, l35_, l41_, l42_, l45_, l48_, l57_, l58_, l59_, l60_, l64_, l96_, l99_, l100_, l101_, l126_, l168_, l808_, l909_, l900_, l20_, l1440_, l2003_, l15486209_, l2147483647_, l999_, l1439_, iI_add, iI_sub, iI_mul, iI_neg]
    rw [hP.1 1 (by decide), if_neg (fun z => by have := (iI_lt (by omega) (by omega) (by omega) (by omega)).mp z; omega)]
    refine s_bI ?_
    have hgo : ¬ frc A n x (A 0 0 + k) → Rr (iI (A 0 0 + k + 1), M) := fun hf => hR _ ⟨by rw [show A 0 0 + ((k + 1 : Nat) : Int) = A 0 0 + k + 1 by omega], fun i hi => by
      by_cases hik : i = k
      · rw [hik]; exact hf
      · exact hno i (by omega)⟩
    refine s_letJ (fun y => y = (iI 1, M) ∧ (x ≠ 0 → wk A (A 0 0 + k) = wk A (A 0 0 + k + n - 1)) ∨ y = (iI 0, M) ∧ ¬ (x ≠ 0 → wk A (A 0 0 + k) = wk A (A 0 0 + k + n - 1))) (fun J hJ => ?_) ?_
    · refine s_letJ (fun m => m = M ∧ (x ≠ 0 → wk A (A 0 0 + k) = wk A (A 0 0 + k + n - 1))) (fun J2 hJ2 => ?_) (fun m hm => hJ _ (Or.inl ⟨by rw [hm.1], hm.2⟩))
      refine s_if (fun q => hJ2 _ ⟨rfl, fun z => absurd q z⟩) (fun q => ?_)
      have w1 := wk_b hO (d := A 0 0 + k) (by omega) (by omega)
      have w2 := wk_b hO (d := A 0 0 + k + n - 1) (by omega) (by omega)
      have w3 := nW_b hO
      refine s_X0_weekOfDay gW hO (by omega) (by omega) (s_X0_weekOfDay gW hO (by omega) (by omega) ?_)
      refine s_if (fun q2 => ?_) (fun q2 => ?_)
      · have q2 := (iI_eq (by omega) (by omega) (by omega) (by omega)).mp q2
        exact hJ2 _ ⟨rfl, fun _ => q2⟩
      · exact hJ _ (Or.inr ⟨rfl, fun z => q2 (by rw [z q])⟩)
    · rintro y (⟨rfl, c⟩ | ⟨rfl, c⟩)
      · dsimp only
        refine z1 (s_X0_isEmptyOnDays hP hO hL (by omega) (by omega) (by omega) (fun c2 => z1 ?_) (fun c2 => z0 (s_bI (hgo (fun z => c2 (fun D q1 q2 => z.2 D q1 (by omega)))))))
        rw [frv_at hk ⟨c, fun D q1 q2 => c2 D q1 (by omega)⟩ hno] at h1
        exact h1
      · exact z0 (s_bI (hgo (fun z => c z.1)))
  · rintro Rr y ⟨rfl, hno⟩
    unfold w_X4_free_L23
    dsimp only
    simp only [lm1_, lm2_, lm3_, lm9_, lm10_, lm999_, lm1000_, l0_, l1_, l2_, l3_, l4_, l5_, l6_, l7_, l8_, l9_, l10_, l11_, l12_, l13_, l23_, l24_, l30_, l31_, l33_, l35_, l41_, l42_, l45_, l48_, l57_, l58_, l59_, l60_, l64_, l96_, l99_, l100_, l101_, l126_, l168_, l808_, l909_, l900_, l20_, l1440_, l2003_, l15486209_, l2147483647_, l999_, l1439_, iI_add, iI_sub, iI_mul, iI_neg]
    rw [hP.1 1 (by decide), if_pos ((iI_lt (by omega) (by omega) (by omega) (by omega)).mpr (by omega))]
    rw [frv_no hno] at h1
    exact h1
end FR
