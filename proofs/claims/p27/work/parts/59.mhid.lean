/-- the first row that isn't shown when r rows are there and N are needed -/
def mrk (N r : Int) : Int := if r < N then r - 1 else N
/-- how many entries of a day lie at row m or below it -/
def hidN (A : Ab) (L : Nat → Nat → Int) (R : Nat → Int) (D m : Int) (k : Nat) : Nat := cntP (fun o => decide (onD A D o ∧ m ≤ rowv A L R D o)) k
section MH
variable {M : Mm} {A : Ab} {L : Nat → Nat → Int} {R : Nat → Int} {D : Int} {Q : Int32 → Mm → Prop}
end MH
