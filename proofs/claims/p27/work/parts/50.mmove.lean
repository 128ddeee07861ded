def mvE (A : Ab) (e : Nat) (d : Int) : Ab := upA (upA A 1 e (A 1 e + d)) 2 e (A 2 e + d)
abbrev tmo (t : Int) : Prop := t = -9 ∨ 0 ≤ t ∧ t ≤ 1439
theorem Ok.mv {A : Ab} (hO : Ok A) {e : Nat} {d : Int} (h1 : 0 ≤ A 1 e + d) (h2 : A 2 e + d ≤ 999) : Ok (mvE A e d) := by
  refine hO.ents (fun k => rfl) (fun o ho => ?_)
  have oo := hO.e ho
  have e1 : mvE A e d 1 o = if o = e then A 1 e + d else A 1 o := by
    by_cases q : o = e
    · rw [if_pos q, q]; simp [mvE, upA]
    · rw [if_neg q]; simp [mvE, upA, q]
  have e2 : mvE A e d 2 o = if o = e then A 2 e + d else A 2 o := by
    by_cases q : o = e
    · rw [if_pos q, q]; simp [mvE, upA]
    · rw [if_neg q]; simp [mvE, upA, q]
  have e3 : mvE A e d 3 o = A 3 o := by simp [mvE, upA]
  have e4 : mvE A e d 4 o = A 4 o := by simp [mvE, upA]
  rw [e1, e2, e3, e4]
  by_cases q : o = e
  · rw [if_pos q, if_pos q]
    rw [q] at oo ⊢
    omega
  · rw [if_neg q, if_neg q]
    exact oo
section MMV
variable {M : Mm} {A : Ab} {h : Nat → Ab} {n : Nat} {Q : Int32 → Mm → Prop}
end MMV
