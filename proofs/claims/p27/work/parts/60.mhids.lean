/-- what is hidden on k days from a on, with r rows -/
def hidS (A : Ab) (L : Nat → Nat → Int) (R : Nat → Int) (r a : Int) : Nat → Nat
  | 0 => 0
  | k + 1 => hidS A L R r a k + hidN A L R (a + k) (mrk (ned A L R (a + k) (A 0 4).toNat) r) (A 0 4).toNat
section MHS
variable {M : Mm} {A : Ab} {L : Nat → Nat → Int} {R : Nat → Int} {Q : Int32 → Mm → Prop}
end MHS
