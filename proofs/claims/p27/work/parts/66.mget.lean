theorem zT {P1 P2 : Prop} [Decidable True] (h : P1) : if True then P1 else P2 := by
  rw [if_pos trivial]
  exact h
/-- how many of n days from c on lie from a to b -/
theorem cnt_days {a b c : Int} (hab : a ≤ b) (n : Nat) : (cntP (fun k => decide (a ≤ c + k ∧ c + k ≤ b)) n : Int) = max 0 (min b (c + n - 1) - max a c + 1) := by
  induction n with
  | zero =>
    show ((0 : Nat) : Int) = _
    omega
  | succ n ih =>
    by_cases h : a ≤ c + n ∧ c + n ≤ b
    · rw [cntP_t (decide_eq_true h)]
      omega
    · rw [cntP_f (fun z => h (of_decide_eq_true z))]
      omega
abbrev shn (A : Ab) (a b : Int) (k : Nat) : Nat := cntP (fun e => decide (¬ lng A e ∧ A 1 e ≤ b ∧ a ≤ A 2 e)) k
abbrev lgd (A : Ab) (a : Int) (k : Nat) : Nat := cntP (fun e => decide (lng A e ∧ A 1 e ≤ a ∧ a ≤ A 2 e)) k
abbrev lgn (A : Ab) (k : Nat) : Nat := cntP (fun e => decide (lng A e)) k
abbrev prn (A : Ab) (k : Nat) : Nat := cntP (fun e => decide (A 1 e ≤ A 0 1 ∧ A 0 0 ≤ A 2 e)) k
abbrev odn (A : Ab) (e : Nat) (k : Nat) : Nat := cntP (fun j => decide (onD A (A 0 0 + j) e)) k
/-- the rows that the first k days need, at least 1 -/
def enq (A : Ab) (L : Nat → Nat → Int) (R : Nat → Int) : Nat → Int
  | 0 => 1
  | k + 1 => max (enq A L R k) (ned A L R (A 0 0 + k) (A 0 4).toNat)
theorem enq_b {A : Ab} {L : Nat → Nat → Int} {R : Nat → Int} (hLb : Lbd L) (hRb : Rbd R) (k : Nat) : 1 ≤ enq A L R k ∧ enq A L R k ≤ 24 := by
  induction k with
  | zero => exact ⟨Int.le_refl _, (by decide : (1 : Int) ≤ 24)⟩
  | succ k ih =>
    have := ned_b (A := A) (D := A 0 0 + k) hLb hRb (A 0 4).toNat
    show 1 ≤ max (enq A L R k) (ned A L R (A 0 0 + k) (A 0 4).toNat) ∧ max (enq A L R k) (ned A L R (A 0 0 + k) (A 0 4).toNat) ≤ 24
    omega
section MG
variable {M : Mm} {A : Ab} {L : Nat → Nat → Int} {R : Nat → Int} {D : Int} {Q : Int32 → Mm → Prop}
end MG
