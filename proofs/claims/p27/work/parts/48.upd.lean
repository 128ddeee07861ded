/-- one number changed -/
def upA (A : Ab) (c0 k0 : Nat) (v : Int) : Ab := fun c k => if c = c0 ∧ k = k0 then v else A c k
theorem upA_s {A : Ab} {c k : Nat} {v : Int} : upA A c k v c k = v := if_pos ⟨rfl, rfl⟩
theorem upA_d {A : Ab} {c k c' k' : Nat} {v : Int} (h : ¬ (c' = c ∧ k' = k)) : upA A c k v c' k' = A c' k' := if_neg h
section UPD
variable {M : Mm} {A : Ab} {i : Nat}
theorem Pl.u0 (h : Pl M i A) {j : Nat} (hj : j < 4) {v : Int} : Pl (st M 11 i j (iI v)) i (upA A 0 j v) := by
  refine ⟨fun q hq => ?_, fun e he => ?_⟩
  · by_cases hqj : q = j
    · rw [hqj, st_s, upA_s]
    · rw [st_d hqj, upA_d (by omega)]
      exact h.1 q hq
  · rw [upA_d (by omega)] at he
    rw [st_ne _ _ (by omega), st_ne _ _ (by omega), st_ne _ _ (by omega), st_ne _ _ (by omega), upA_d (by omega), upA_d (by omega), upA_d (by omega), upA_d (by omega)]
    exact h.2 e he
theorem Pl.ue (h : Pl M i A) {c e : Nat} (hc : 1 ≤ c ∧ c ≤ 4) {v : Int} : Pl (st M (12 + c) i e (iI v)) i (upA A c e v) := by
  refine ⟨fun q hq => ?_, fun o ho => ?_⟩
  · rw [st_ne _ _ (by omega), upA_d (by omega)]
    exact h.1 q hq
  · rw [upA_d (by omega)] at ho
    obtain ⟨h1, h2, h3, h4⟩ := h.2 o ho
    have key : ∀ c', 1 ≤ c' → c' ≤ 4 → M (12 + c') i o = iI (A c' o) → st M (12 + c) i e (iI v) (12 + c') i o = iI (upA A c e v c' o) := by
      intro c' _ _ hq
      by_cases hcc : c' = c
      · by_cases hoe : o = e
        · rw [hcc, hoe, st_s, upA_s]
        · rw [hcc, st_d hoe, upA_d (by omega), ← hcc]
          exact hq
      · rw [st_ne _ _ (by omega), upA_d (by omega)]
        exact hq
    exact ⟨key 1 (by omega) (by omega) h1, key 2 (by omega) (by omega) h2, key 3 (by omega) (by omega) h3, key 4 (by omega) (by omega) h4⟩
end UPD
