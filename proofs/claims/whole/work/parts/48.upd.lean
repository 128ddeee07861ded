/-- one number changed -/
def upA (A : Ab) (c0 k0 : Nat) (v : Int) : Ab := fun c k => if c = c0 ∧ k = k0 then v else A c k
theorem upA_s {A : Ab} {c k : Nat} {v : Int} : upA A c k v c k = v := if_pos ⟨rfl, rfl⟩
theorem upA_d {A : Ab} {c k c' k' : Nat} {v : Int} (h : ¬ (c' = c ∧ k' = k)) : upA A c k v c' k' = A c' k' := if_neg h
section UPD
variable {M : Mm} {A : Ab} {i : Nat}
theorem Pl.u0 (h : Pl M i A) {j : Nat} (hj : j < 4) {v : Int} : Pl (st M 11 i j (iI v)) i (upA A 0 j v) := by
  refine ⟨fun q hq => ?_, fun e he => ?_⟩
  · by_cases hqj : q = j
    · rw [hqj, st_s, upA_s]
    · rw [st_d hqj, upA_d (by omega)]
      exact h.1 q hq
  · rw [upA_d (by omega)] at he
    rw [st_ne _ _ (by omega), st_ne _ _ (by omega), st_ne _ _ (by omega), st_ne _ _ (by omega), upA_d (by omega), upA_d (by omega), upA_d (by omega), upA_d (by omega)]
    exact h.2 e he
theorem Pl.ue (h : Pl M i A) {c e : Nat} (hc : 1 ≤ c ∧ c ≤ 4) {v : Int} : Pl (st M (12 + c) i e (iI v)) i (upA A c e v) := by
  refine ⟨fun q hq => ?_, fun o ho => ?_⟩
  · rw [st_ne _ _ (by omega), upA_d (by omega)]
    exact h.1 q hq
  · rw [upA_d (by omega)] at ho
    obtain ⟨h1, h2, h3, h4⟩ := h.2 o ho
    have key : ∀ c', 1 ≤ c' → c' ≤ 4 → M (12 + c') i o = iI (A c' o) → st M (12 + c) i e (iI v) (12 + c') i o = iI (upA A c e v c' o) := by
      intro c' _ _ hq
      by_cases hcc : c' = c
      · by_cases hoe : o = e
        · rw [hcc, hoe, st_s, upA_s]
        · rw [hcc, st_d hoe, upA_d (by omega), ← hcc]
          exact hq
      · rw [st_ne _ _ (by omega), upA_d (by omega)]
        exact hq
    exact ⟨key 1 (by omega) (by omega) h1, key 2 (by omega) (by omega) h2, key 3 (by omega) (by omega) h3, key 4 (by omega) (by omega) h4⟩
theorem Pm.u0 (h : Pm M 0 A) {j : Nat} (hj : j < 4) {v : Int} : Pm (st M 18 0 j (iI v)) 0 (upA A 0 j v) := by
  refine ⟨fun q hq => ?_, fun e he => ?_⟩
  · rw [Nat.zero_add]
    by_cases hqj : q = j
    · rw [hqj, st_s, upA_s]
    · rw [st_d hqj, upA_d (by omega)]
      exact h.z hq
  · rw [upA_d (by omega)] at he
    simp only [Nat.zero_add]
    rw [st_d (by omega), st_d (by omega), st_d (by omega), st_d (by omega), upA_d (by omega), upA_d (by omega), upA_d (by omega), upA_d (by omega)]
    exact h.y he
theorem Pm.ue (h : Pm M 0 A) {c e : Nat} (hc : 1 ≤ c ∧ c ≤ 4) {v : Int} {p : Nat} (hp : p = 4 + 4 * e + c) : Pm (st M 18 0 p (iI v)) 0 (upA A c e v) := by
  subst hp
  refine ⟨fun q hq => ?_, fun o ho => ?_⟩
  · rw [Nat.zero_add, st_d (by omega), upA_d (by omega)]
    exact h.z hq
  · rw [upA_d (by omega)] at ho
    simp only [Nat.zero_add]
    obtain ⟨h1, h2, h3, h4⟩ := h.y ho
    have key : ∀ c' p', 1 ≤ c' → c' ≤ 4 → p' = 4 + 4 * o + c' → M 18 0 p' = iI (A c' o) → st M 18 0 (4 + 4 * e + c) (iI v) 18 0 p' = iI (upA A c e v c' o) := by
      intro c' p' _ _ hp hq
      by_cases hcc : c' = c ∧ o = e
      · rw [hp, hcc.1, hcc.2, st_s, upA_s]
      · rw [st_d (by omega), upA_d hcc]
        exact hq
    exact ⟨key 1 _ (by omega) (by omega) (by omega) h1, key 2 _ (by omega) (by omega) (by omega) h2, key 3 _ (by omega) (by omega) (by omega) h3, key 4 _ (by omega) (by omega) (by omega) h4⟩
theorem Hm.sx {P : Nat → Nat → Prop} {M' : Mm} {h : Nat → Ab} {n : Nat} (hh : Hm M h n) (hs : sx P M M') (h1 : ¬ P 17 0) (h2 : ¬ P 18 0) : Hm M' h n := ⟨hh.1, by rw [hs 17 0 h1]; exact hh.2.1, fun j hj => ⟨(hh.2.2 j hj).1.sx hs h2, (hh.2.2 j hj).2⟩⟩
/-- what is remembered lies past the page -/
theorem Hm.st {h : Nat → Ab} {n : Nat} (hh : Hm M h n) {p : Nat} (hp : p < 101) {v : Int32} : Hm (st M 18 0 p v) h n := by
  refine ⟨hh.1, by rw [st_ne _ _ (by omega)]; exact hh.2.1, fun j hj => ?_⟩
  obtain ⟨a1, a2⟩ := hh.2.2 j hj
  exact ⟨a1.shift a2 (fun i hi => st_d (by omega)), a2⟩
end UPD
