/-- the row of an entry on a day -/
def rowv (A : Ab) (L : Nat → Nat → Int) (R : Nat → Int) (D : Int) (o : Nat) : Int := if lng A o then L o (wk A D).toNat else R o
abbrev tk1 (A : Ab) (L : Nat → Nat → Int) (R : Nat → Int) (D r : Int) (o : Nat) : Prop := (A 1 o ≤ D ∧ D ≤ A 2 o) ∧ rowv A L R D o = r
section MD
variable {M : Mm} {A : Ab} {L : Nat → Nat → Int} {R : Nat → Int} {D : Int}
theorem rowv_b (hb : Lbd L) (hR : Rbd R) (o : Nat) : (rowv A L R D o = -9 ∨ 0 ≤ rowv A L R D o) ∧ rowv A L R D o < 24 := by
  unfold rowv
  split
  · exact hb _ _
  · exact hR _
end MD
