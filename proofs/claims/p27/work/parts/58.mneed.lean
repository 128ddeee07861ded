/-- on the page's day D -/
abbrev onD (A : Ab) (D : Int) (o : Nat) : Prop := A 1 o ≤ D ∧ D ≤ A 2 o
/-- the rows that the first k entries need on a day -/
def ned (A : Ab) (L : Nat → Nat → Int) (R : Nat → Int) (D : Int) : Nat → Int
  | 0 => 0
  | k + 1 => if onD A D k then max (ned A L R D k) (rowv A L R D k + 1) else ned A L R D k
theorem ned_s {A : Ab} {L : Nat → Nat → Int} {R : Nat → Int} {D : Int} {k : Nat} : ned A L R D (k + 1) = if onD A D k then max (ned A L R D k) (rowv A L R D k + 1) else ned A L R D k := rfl
section MN
variable {M : Mm} {A : Ab} {L : Nat → Nat → Int} {R : Nat → Int} {D : Int} {Q : Int32 → Mm → Prop}
theorem ned_b (hLb : Lbd L) (hRb : Rbd R) (k : Nat) : 0 ≤ ned A L R D k ∧ ned A L R D k ≤ 24 := by
  induction k with
  | zero => exact ⟨Int.le_refl _, (by decide : (0 : Int) ≤ 24)⟩
  | succ k ih =>
    have hb := rowv_b (A := A) (D := D) hLb hRb k
    rw [ned_s]
    split <;> omega
end MN
