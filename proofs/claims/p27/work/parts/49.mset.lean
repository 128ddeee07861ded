theorem Ok.ents {A A' : Ab} (hO : Ok A) (h0 : ∀ k, A' 0 k = A 0 k) (he : ∀ e : Nat, (e : Int) < A 0 4 → 0 ≤ A' 1 e ∧ A' 1 e ≤ A' 2 e ∧ A' 2 e ≤ 999 ∧ -9 ≤ A' 3 e ∧ A' 3 e ≤ 1439 ∧ (A' 3 e = -9 ∨ 0 ≤ A' 3 e) ∧ 0 ≤ A' 4 e ∧ A' 4 e ≤ 9) : Ok A' := by
  unfold Ok
  rw [h0, h0, h0, h0, h0]
  have ob := hO.b
  exact ⟨ob.1, ob.2.1, ob.2.2.1, ob.2.2.2.1, ob.2.2.2.2.1, ob.2.2.2.2.2.1, ob.2.2.2.2.2.2.1, ob.2.2.2.2.2.2.2.1, ob.2.2.2.2.2.2.2.2.1, ob.2.2.2.2.2.2.2.2.2, he⟩
theorem Ok.pg {A : Ab} (hO : Ok A) {a b : Int} (h : 0 ≤ a ∧ a ≤ b ∧ b ≤ 999 ∧ b ≤ a + 41) : Ok (upA (upA A 0 0 a) 0 1 b) := by
  have ob := hO.b
  exact ⟨h.1, h.2.1, h.2.2.1, h.2.2.2, ob.2.2.2.2.1, ob.2.2.2.2.2.1, ob.2.2.2.2.2.2.1, ob.2.2.2.2.2.2.2.1, ob.2.2.2.2.2.2.2.2.1, ob.2.2.2.2.2.2.2.2.2, fun e he => hO.e he⟩
theorem Ok.wd {A : Ab} (hO : Ok A) {a : Int} (h : 0 ≤ a ∧ a ≤ 6) : Ok (upA A 0 2 a) := by
  have ob := hO.b
  exact ⟨ob.1, ob.2.1, ob.2.2.1, ob.2.2.2.1, h.1, h.2, ob.2.2.2.2.2.2.1, ob.2.2.2.2.2.2.2.1, ob.2.2.2.2.2.2.2.2.1, ob.2.2.2.2.2.2.2.2.2, fun e he => hO.e he⟩
theorem Ok.rws {A : Ab} (hO : Ok A) {a : Int} (h : 1 ≤ a ∧ a ≤ 12) : Ok (upA A 0 3 a) := by
  have ob := hO.b
  exact ⟨ob.1, ob.2.1, ob.2.2.1, ob.2.2.2.1, ob.2.2.2.2.1, ob.2.2.2.2.2.1, h.1, h.2, ob.2.2.2.2.2.2.2.2.1, ob.2.2.2.2.2.2.2.2.2, fun e he => hO.e he⟩
section MS
variable {M : Mm} {A : Ab} {h : Nat → Ab} {n : Nat} {Q : Int32 → Mm → Prop}
end MS
