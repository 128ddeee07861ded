/-! the sums of what is hidden -/
section SUMS
variable {A : Ab} {L : Nat → Nat → Int} {R : Nat → Int}
theorem hidS_s (r a : Int) (k : Nat) : hidS A L R r a (k + 1) = hidS A L R r a k + hidD A L R (a + k) r := rfl
theorem hidS_add (r a : Int) (j k : Nat) : hidS A L R r a (j + k) = hidS A L R r a j + hidS A L R r (a + j) k := by
  induction k with
  | zero => rfl
  | succ k ih =>
    rw [show j + (k + 1) = (j + k) + 1 by omega, hidS_s, hidS_s, ih, show a + ((j + k : Nat) : Int) = a + j + k by omega]
    omega
theorem hidS_sum (r a : Int) (k : Nat) : hidS A L R r a k = sumN (fun j => hidD A L R (a + j) r) k := by
  induction k with
  | zero => rfl
  | succ k ih =>
    rw [hidS_s, ih]
    rfl
theorem hdd_sum : sumN (fun e => hdd A L R e (A 0 1 - A 0 0 + 1).toNat) (A 0 4).toNat = hidP A L R (A 0 3) := by
  show _ = hidS A L R (A 0 3) (A 0 0) (A 0 1 + 1 - A 0 0).toNat
  rw [show (A 0 1 + 1 - A 0 0).toNat = (A 0 1 - A 0 0 + 1).toNat by omega, hidS_sum]
  exact (sum_swap (fun e j => decide (onD A (A 0 0 + (j : Nat)) e ∧ mrk (ned A L R (A 0 0 + (j : Nat)) (A 0 4).toNat) (A 0 3) ≤ rowv A L R (A 0 0 + (j : Nat)) e)) (A 0 4).toNat (A 0 1 - A 0 0 + 1).toNat).symm
theorem week_sum (hO : Ok A) (k : Nat) (hk : (k : Int) ≤ nW A) : sumN (fun w : Nat => hidS A L R (A 0 3) (wS A w) (wL A w + 1 - wS A w).toNat) k = hidS A L R (A 0 3) (A 0 0) (wS A k - A 0 0).toNat := by
  induction k with
  | zero =>
    rw [show wS A ((0 : Nat) : Int) = A 0 0 from wS_0, show (A 0 0 - A 0 0).toNat = 0 by omega]
    rfl
  | succ k ih =>
    have ih := ih (by omega)
    have b1 := wS_b hO (w := k) (by omega) (by omega)
    have b3 := wS_lt hO (w := k) (by omega) (by omega)
    have eL : wL A k = wS A (k + 1) - 1 := rfl
    have ek : ((k + 1 : Nat) : Int) = (k : Int) + 1 := rfl
    show sumN (fun w : Nat => hidS A L R (A 0 3) (wS A w) (wL A w + 1 - wS A w).toNat) k + hidS A L R (A 0 3) (wS A k) (wL A k + 1 - wS A k).toNat = _
    rw [ih, ek, show (wS A ((k : Int) + 1) - A 0 0).toNat = (wS A k - A 0 0).toNat + (wL A k + 1 - wS A k).toNat by omega, hidS_add, show A 0 0 + ((wS A k - A 0 0).toNat : Int) = wS A k by omega]
theorem week_all (hO : Ok A) : sumN (fun w : Nat => hidS A L R (A 0 3) (wS A w) (wL A w + 1 - wS A w).toNat) (nW A).toNat = hidP A L R (A 0 3) := by
  have hn := nW_b hO
  rw [week_sum hO _ (by omega), show ((nW A).toNat : Int) = nW A by omega, wS_n hO]
end SUMS
/-! the best day -/
theorem bsS_min {A : Ab} {e : Nat} (h00 : 0 ≤ A 0 0) (k : Nat) : ((bsS A e k).1 = -9 ∧ ∀ j : Nat, j < k → 999 < A 2 e + (A 0 0 + j - A 1 e)) ∨ ((A 0 0 ≤ (bsS A e k).1 ∧ (bsS A e k).1 < A 0 0 + k) ∧ ¬ 999 < A 2 e + ((bsS A e k).1 - A 1 e) ∧ (bsS A e k).2 = Hd A e (bsS A e k).1 ∧ ∀ j : Nat, j < k → ¬ 999 < A 2 e + (A 0 0 + j - A 1 e) → (bsS A e k).2 ≤ Hd A e (A 0 0 + j)) := by
  induction k with
  | zero => exact Or.inl ⟨rfl, fun j hj => absurd hj (Nat.not_lt_zero _)⟩
  | succ k ih =>
    by_cases h : 999 < A 2 e + (A 0 0 + k - A 1 e)
    · rw [bsS_off h]
      rcases ih with ⟨g1, g2⟩ | ⟨g1, g2, g3, g4⟩
      · refine Or.inl ⟨g1, fun j hj => ?_⟩
        by_cases q : j = k
        · rw [q]; exact h
        · exact g2 j (by omega)
      · refine Or.inr ⟨by omega, g2, g3, fun j hj hv => ?_⟩
        by_cases q : j = k
        · rw [q] at hv; exact absurd h hv
        · exact g4 j (by omega) hv
    · by_cases hb : btr A e (A 0 0 + k) (Hd A e (A 0 0 + k)) (bsS A e k)
      · rw [bsS_t h hb]
        refine Or.inr ⟨⟨by show A 0 0 ≤ A 0 0 + (k : Int); omega, by show A 0 0 + (k : Int) < A 0 0 + ((k + 1 : Nat) : Int); omega⟩, h, rfl, fun j hj hv => ?_⟩
        show Hd A e (A 0 0 + k) ≤ Hd A e (A 0 0 + j)
        by_cases q : j = k
        · rw [q]; exact Int.le_refl _
        · rcases ih with ⟨g1, g2⟩ | ⟨g1, g2, g3, g4⟩
          · exact absurd (g2 j (by omega)) hv
          · have := g4 j (by omega) hv
            unfold btr at hb
            omega
      · rw [bsS_f h hb]
        rcases ih with ⟨g1, g2⟩ | ⟨g1, g2, g3, g4⟩
        · exact absurd (Or.inl g1) hb
        · refine Or.inr ⟨by omega, g2, g3, fun j hj hv => ?_⟩
          by_cases q : j = k
          · rw [q]
            unfold btr at hb
            omega
          · exact g4 j (by omega) hv
