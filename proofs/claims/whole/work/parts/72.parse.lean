/-! how a text is read -/
abbrev dgt (x : Nat → Int) (k p : Nat) : Prop := p < k ∧ 48 ≤ x p ∧ x p ≤ 57
abbrev chr (x : Nat → Int) (k p : Nat) (c : Int) : Prop := p < k ∧ x p = c
def dv (x : Nat → Int) (p : Nat) : Nat → Int
  | 0 => 0
  | i + 1 => 10 * dv x p i + (x (p + i) - 48)
def pDay (x : Nat → Int) (k p : Nat) : Sum Nat (Int × Nat) := if ¬ dgt x k p then .inl p else if ¬ dgt x k (p + 1) then .inr (dv x p 1, p + 1) else if ¬ dgt x k (p + 2) then .inr (dv x p 2, p + 2) else if dgt x k (p + 3) then .inl (p + 3) else .inr (dv x p 3, p + 3)
def pTwo (x : Nat → Int) (k p : Nat) (m : Int) : Sum Nat (Int × Nat) := if ¬ dgt x k p then .inl p else if ¬ dgt x k (p + 1) then .inl (p + 1) else if m < dv x p 2 then .inl (p + 1) else .inr (dv x p 2, p + 2)
def pTime (x : Nat → Int) (k p : Nat) : Sum Nat (Int × Nat) := match pTwo x k p 23 with
  | .inl f => .inl f
  | .inr (h, q) => if chr x k q 58 then (match pTwo x k (q + 1) 59 with
    | .inl f => .inl f
    | .inr (m, r) => .inr (60 * h + m, r)) else .inl q
/-- an entry: first, last, time, rank; and what stands behind it -/
abbrev Ent : Type := Int × Int × Int × Int × Nat
def pD (x : Nat → Int) (k : Nat) (a b t r : Int) (q : Nat) : Sum Nat Ent := if chr x k q 59 then .inr (a, b, t, r, q + 1) else .inl q
def pC (x : Nat → Int) (k : Nat) (a b t : Int) (q : Nat) : Sum Nat Ent := if chr x k q 33 then (if dgt x k (q + 1) then pD x k a b t (x (q + 1) - 48) (q + 2) else .inl (q + 1)) else pD x k a b t 0 q
def pB (x : Nat → Int) (k : Nat) (a b : Int) (q : Nat) : Sum Nat Ent := if chr x k q 64 then (match pTime x k (q + 1) with
  | .inl f => .inl f
  | .inr (t, r) => pC x k a b t r) else pC x k a b (-9) q
def pEntry (x : Nat → Int) (k p : Nat) : Sum Nat Ent := match pDay x k p with
  | .inl f => .inl f
  | .inr (a, q) => if chr x k q 45 then (match pDay x k (q + 1) with
    | .inl f => .inl f
    | .inr (b, r) => if b < a then .inl (r - 1) else pB x k a b r) else pB x k a a q
section PR
variable {x : Nat → Int} {k p : Nat}
theorem dv_1 : dv x p 1 = x p - 48 := by
  show 10 * 0 + (x (p + 0) - 48) = _
  rw [Nat.add_zero]
  omega
theorem dv_2 : dv x p 2 = 10 * (x p - 48) + (x (p + 1) - 48) := by
  show 10 * dv x p 1 + (x (p + 1) - 48) = _
  rw [dv_1]
theorem dv_3 : dv x p 3 = 100 * (x p - 48) + 10 * (x (p + 1) - 48) + (x (p + 2) - 48) := by
  show 10 * dv x p 2 + (x (p + 2) - 48) = _
  rw [dv_2]
  omega
theorem dv_b {i : Nat} (hi : i ≤ 3) (h : ∀ j, j < i → dgt x k (p + j)) : 0 ≤ dv x p i ∧ dv x p i ≤ 999 := by
  rcases (show i = 0 ∨ i = 1 ∨ i = 2 ∨ i = 3 by omega) with rfl | rfl | rfl | rfl
  · exact ⟨Int.le_refl _, (by decide : (0 : Int) ≤ 999)⟩
  · have h0 := h 0 (by omega)
    rw [Nat.add_zero] at h0
    rw [dv_1]
    omega
  · have h0 := h 0 (by omega)
    have h1 := h 1 (by omega)
    rw [Nat.add_zero] at h0
    rw [dv_2]
    omega
  · have h0 := h 0 (by omega)
    have h1 := h 1 (by omega)
    have h2 := h 2 (by omega)
    rw [Nat.add_zero] at h0
    rw [dv_3]
    omega
theorem pDay_f0 (h : ¬ dgt x k p) : pDay x k p = .inl p := if_pos h
theorem pDay_ok {i : Nat} (h1 : 1 ≤ i) (h3 : i ≤ 3) (h : ∀ j, j < i → dgt x k (p + j)) (hn : ¬ dgt x k (p + i)) : pDay x k p = .inr (dv x p i, p + i) := by
  have h0 := h 0 (by omega)
  rw [Nat.add_zero] at h0
  unfold pDay
  rw [if_neg (fun z => z h0)]
  rcases (show i = 1 ∨ i = 2 ∨ i = 3 by omega) with rfl | rfl | rfl
  · rw [if_pos hn]
  · rw [if_neg (fun z => z (h 1 (by omega))), if_pos hn]
  · rw [if_neg (fun z => z (h 1 (by omega))), if_neg (fun z => z (h 2 (by omega))), if_neg hn]
theorem pDay_f3 (h : ∀ j, j ≤ 3 → dgt x k (p + j)) : pDay x k p = .inl (p + 3) := by
  have h0 := h 0 (by omega)
  rw [Nat.add_zero] at h0
  unfold pDay
  rw [if_neg (fun z => z h0), if_neg (fun z => z (h 1 (by omega))), if_neg (fun z => z (h 2 (by omega))), if_pos (h 3 (by omega))]
theorem pDay_b {v : Int} {q : Nat} (h : pDay x k p = .inr (v, q)) : (0 ≤ v ∧ v ≤ 999) ∧ p < q ∧ q ≤ k := by
  unfold pDay at h
  split at h
  · cases h
  · rename_i h0
    have h0 : dgt x k p := Classical.byContradiction h0
    split at h
    · cases h
      have := dv_b (x := x) (k := k) (p := p) (i := 1) (by omega) (fun j hj => by rw [show j = 0 by omega]; exact h0)
      exact ⟨this, by omega, by omega⟩
    · rename_i h1
      have h1 : dgt x k (p + 1) := Classical.byContradiction h1
      split at h
      · cases h
        have := dv_b (x := x) (k := k) (p := p) (i := 2) (by omega) (fun j hj => by
          rcases (show j = 0 ∨ j = 1 by omega) with rfl | rfl
          · exact h0
          · exact h1)
        exact ⟨this, by omega, by omega⟩
      · rename_i h2
        have h2 : dgt x k (p + 2) := Classical.byContradiction h2
        split at h
        · cases h
        · cases h
          have := dv_b (x := x) (k := k) (p := p) (i := 3) (by omega) (fun j hj => by
            rcases (show j = 0 ∨ j = 1 ∨ j = 2 by omega) with rfl | rfl | rfl
            · exact h0
            · exact h1
            · exact h2)
          exact ⟨this, by omega, by omega⟩
theorem pDay_fb {f : Nat} (h : pDay x k p = .inl f) : f ≤ k ∨ f = p := by
  unfold pDay at h
  split at h
  · cases h
    exact Or.inr rfl
  · split at h
    · cases h
    · split at h
      · cases h
      · split at h
        · rename_i h3
          cases h
          exact Or.inl (by omega)
        · cases h
theorem pTwo_b {m v : Int} {q : Nat} (h : pTwo x k p m = .inr (v, q)) : (0 ≤ v ∧ v ≤ m) ∧ p < q ∧ q ≤ k := by
  unfold pTwo at h
  split at h
  · cases h
  · rename_i h0
    have h0 : dgt x k p := Classical.byContradiction h0
    split at h
    · cases h
    · rename_i h1
      have h1 : dgt x k (p + 1) := Classical.byContradiction h1
      split at h
      · cases h
      · cases h
        rw [dv_2] at *
        exact ⟨by omega, by omega, by omega⟩
theorem pTwo_fb {m : Int} {f : Nat} (h : pTwo x k p m = .inl f) : f ≤ k ∨ f = p := by
  unfold pTwo at h
  split at h
  · cases h
    exact Or.inr rfl
  · rename_i h0
    have h0 : dgt x k p := Classical.byContradiction h0
    split at h
    · cases h
      exact Or.inl (by omega)
    · split at h
      · cases h
        exact Or.inl (by omega)
      · cases h
theorem pTime_b {v : Int} {q : Nat} (h : pTime x k p = .inr (v, q)) : (0 ≤ v ∧ v ≤ 1439) ∧ p < q ∧ q ≤ k := by
  unfold pTime at h
  split at h
  · cases h
  · rename_i h1 q1 e1
    have b1 := pTwo_b e1
    split at h
    · split at h
      · cases h
      · rename_i h2 q2 e2
        have b2 := pTwo_b e2
        cases h
        exact ⟨by omega, by omega, by omega⟩
    · cases h
theorem pTime_fb {f : Nat} (hp : p ≤ k) (h : pTime x k p = .inl f) : f ≤ k := by
  unfold pTime at h
  split at h
  · rename_i f1 e1
    cases h
    have := pTwo_fb e1
    omega
  · rename_i h1 q1 e1
    have b1 := pTwo_b e1
    split at h
    · split at h
      · rename_i f2 e2
        cases h
        have := pTwo_fb e2
        omega
      · cases h
    · cases h
      omega
theorem pD_b {a b t r a' b' t' r' : Int} {q q' : Nat} (h : pD x k a b t r q = .inr (a', b', t', r', q')) : a' = a ∧ b' = b ∧ t' = t ∧ r' = r ∧ q < q' ∧ q' ≤ k := by
  unfold pD at h
  split at h
  · rename_i c
    cases h
    exact ⟨rfl, rfl, rfl, rfl, by omega, by omega⟩
  · cases h
theorem pD_fb {a b t r : Int} {q f : Nat} (hq : q ≤ k) (h : pD x k a b t r q = .inl f) : f ≤ k := by
  unfold pD at h
  split at h
  · cases h
  · cases h
    exact hq
theorem pC_b {a b t a' b' t' r' : Int} {q q' : Nat} (h : pC x k a b t q = .inr (a', b', t', r', q')) : a' = a ∧ b' = b ∧ t' = t ∧ (0 ≤ r' ∧ r' ≤ 9) ∧ q < q' ∧ q' ≤ k := by
  unfold pC at h
  split at h
  · split at h
    · rename_i c1 c2
      obtain ⟨h1, h2, h3, h4, h5, h6⟩ := pD_b h
      exact ⟨h1, h2, h3, by omega, by omega, h6⟩
    · cases h
  · obtain ⟨h1, h2, h3, h4, h5, h6⟩ := pD_b h
    exact ⟨h1, h2, h3, by omega, by omega, h6⟩
theorem pC_fb {a b t : Int} {q f : Nat} (hq : q ≤ k) (h : pC x k a b t q = .inl f) : f ≤ k := by
  unfold pC at h
  split at h
  · split at h
    · rename_i c1 c2
      exact pD_fb (by omega) h
    · rename_i c1 c2
      cases h
      omega
  · exact pD_fb hq h
theorem pB_b {a b a' b' t' r' : Int} {q q' : Nat} (h : pB x k a b q = .inr (a', b', t', r', q')) : a' = a ∧ b' = b ∧ tmo t' ∧ (0 ≤ r' ∧ r' ≤ 9) ∧ q < q' ∧ q' ≤ k := by
  unfold pB at h
  split at h
  · split at h
    · cases h
    · rename_i t r e
      have b1 := pTime_b e
      obtain ⟨h1, h2, h3, h4, h5, h6⟩ := pC_b h
      exact ⟨h1, h2, Or.inr (by omega), h4, by omega, h6⟩
  · obtain ⟨h1, h2, h3, h4, h5, h6⟩ := pC_b h
    exact ⟨h1, h2, Or.inl h3, h4, h5, h6⟩
theorem pB_fb {a b : Int} {q f : Nat} (hq : q ≤ k) (h : pB x k a b q = .inl f) : f ≤ k := by
  unfold pB at h
  split at h
  · rename_i c
    split at h
    · rename_i f1 e
      cases h
      exact pTime_fb (by omega) e
    · rename_i t r e
      have b1 := pTime_b e
      exact pC_fb b1.2.2 h
  · exact pC_fb hq h
theorem pEntry_b {a b t r : Int} {q : Nat} (h : pEntry x k p = .inr (a, b, t, r, q)) : (0 ≤ a ∧ a ≤ b ∧ b ≤ 999) ∧ tmo t ∧ (0 ≤ r ∧ r ≤ 9) ∧ p < q ∧ q ≤ k := by
  unfold pEntry at h
  split at h
  · cases h
  · rename_i a1 q1 e1
    have b1 := pDay_b e1
    split at h
    · split at h
      · cases h
      · rename_i a2 q2 e2
        have b2 := pDay_b e2
        split at h
        · cases h
        · obtain ⟨h1, h2, h3, h4, h5, h6⟩ := pB_b h
          exact ⟨by omega, h3, h4, by omega, h6⟩
    · obtain ⟨h1, h2, h3, h4, h5, h6⟩ := pB_b h
      exact ⟨by omega, h3, h4, by omega, h6⟩
theorem pEntry_fb {f : Nat} (hp : p ≤ k) (h : pEntry x k p = .inl f) : f ≤ k := by
  unfold pEntry at h
  split at h
  · rename_i f1 e1
    cases h
    have := pDay_fb e1
    omega
  · rename_i a1 q1 e1
    have b1 := pDay_b e1
    split at h
    · split at h
      · rename_i f2 e2
        cases h
        have := pDay_fb e2
        omega
      · rename_i a2 q2 e2
        have b2 := pDay_b e2
        split at h
        · cases h
          omega
        · exact pB_fb b2.2.2 h
    · exact pB_fb b1.2.2 h
end PR
/-! where the entries of a text begin -/
def posE (x : Nat → Int) (k : Nat) : Nat → Nat
  | 0 => 0
  | e + 1 => match pEntry x k (posE x k e) with
    | .inl _ => 0
    | .inr (_, _, _, _, q) => q
def entE (x : Nat → Int) (k e : Nat) : Int × Int × Int × Int := match pEntry x k (posE x k e) with
  | .inl _ => (0, 0, 0, 0)
  | .inr (a, b, t, r, _) => (a, b, t, r)
/-- the reading ends before entry e -/
def stopE (x : Nat → Int) (k e : Nat) : Prop := k ≤ posE x k e ∨ e = 24 ∨ ∃ f, pEntry x k (posE x k e) = .inl f
/-- its fault, -1 for none -/
def fltE (x : Nat → Int) (k e : Nat) : Int := if k ≤ posE x k e then -1 else if e = 24 then (posE x k e : Nat) else match pEntry x k (posE x k e) with
  | .inl f => (f : Nat)
  | .inr _ => 0
theorem stop_some (x : Nat → Int) (k : Nat) : ∃ e, stopE x k e ∧ (∀ i, i < e → ¬ stopE x k i) ∧ e ≤ 24 := by
  obtain ⟨e, h1, h2⟩ := least (P := fun e => stopE x k e) ⟨24, Or.inr (Or.inl rfl)⟩
  refine ⟨e, h1, h2, Nat.le_of_not_lt (fun z => h2 24 z (Or.inr (Or.inl rfl)))⟩
theorem stop_no {x : Nat → Int} {k e : Nat} (h : ¬ stopE x k e) : posE x k e < k ∧ e ≠ 24 ∧ ∃ (a b t r : Int) (q : Nat), pEntry x k (posE x k e) = .inr (a, b, t, r, q) ∧ posE x k (e + 1) = q ∧ entE x k e = (a, b, t, r) := by
  refine ⟨Nat.lt_of_not_le (fun z => h (Or.inl z)), fun z => h (Or.inr (Or.inl z)), ?_⟩
  cases hp : pEntry x k (posE x k e) with
  | inl f => exact absurd (Or.inr (Or.inr ⟨f, hp⟩)) h
  | inr v =>
    obtain ⟨a, b, t, r, q⟩ := v
    refine ⟨a, b, t, r, q, rfl, ?_, ?_⟩
    · show (match pEntry x k (posE x k e) with
        | .inl _ => 0
        | .inr (_, _, _, _, q) => q) = q
      rw [hp]
    · unfold entE
      rw [hp]
theorem pos_le {x : Nat → Int} {k : Nat} (e : Nat) (h : ∀ i, i < e → ¬ stopE x k i) : posE x k e ≤ k := by
  cases e with
  | zero => exact Nat.zero_le _
  | succ e =>
    obtain ⟨h1, h2, a, b, t, r, q, h3, h4, h5⟩ := stop_no (h e (Nat.lt_succ_self e))
    rw [h4]
    exact (pEntry_b h3).2.2.2.2
theorem flt_b {x : Nat → Int} {k e : Nat} (h : ∀ i, i < e → ¬ stopE x k i) : -1 ≤ fltE x k e ∧ fltE x k e ≤ k := by
  have hp := pos_le e h
  unfold fltE
  split
  · omega
  · split
    · omega
    · split
      · rename_i f hf
        have := pEntry_fb hp hf
        omega
      · omega
/-- the plan that is read -/
def ldE (A : Ab) (x : Nat → Int) (k n : Nat) : Ab := fun c e => if c = 0 then (if e = 4 then (n : Int) else A 0 e) else if c = 1 then (entE x k e).1 else if c = 2 then (entE x k e).2.1 else if c = 3 then (entE x k e).2.2.1 else (entE x k e).2.2.2
theorem ldE_add {A : Ab} {x : Nat → Int} {k e : Nat} {a b t r : Int} (h : entE x k e = (a, b, t, r)) : addE (ldE A x k e) a b t r = ldE A x k (e + 1) := by
  funext c o
  unfold addE
  by_cases hc : c = 0
  · subst hc
    rw [if_pos rfl]
    by_cases h4 : o = 4
    · subst h4
      simp [ldE]
    · simp [ldE, h4]
  · rw [if_neg hc]
    have e4 : ldE A x k e 0 4 = (e : Int) := by simp [ldE]
    rw [e4]
    by_cases ho : (o : Int) = e
    · have ho : o = e := by omega
      subst ho
      rw [if_pos rfl]
      unfold ldE
      rw [if_neg hc, h]
    · rw [if_neg ho]
      unfold ldE
      rw [if_neg hc, if_neg hc]
theorem ldE_ok {A : Ab} {x : Nat → Int} {k n : Nat} (hO : Ok A) (h : ∀ i, i < n → ¬ stopE x k i) (hn : n ≤ 24) : Ok (ldE A x k n) := by
  have ob := hO.b
  have e0 : ∀ j, j ≠ 4 → ldE A x k n 0 j = A 0 j := fun j hj => by simp [ldE, hj]
  have e4 : ldE A x k n 0 4 = (n : Int) := by simp [ldE]
  unfold Ok
  rw [e0 0 (by decide), e0 1 (by decide), e0 2 (by decide), e0 3 (by decide), e4]
  refine ⟨by omega, by omega, by omega, by omega, by omega, by omega, by omega, by omega, by omega, by omega, fun e he => ?_⟩
  obtain ⟨h1, h2, a, b, t, r, q, h3, h4, h5⟩ := stop_no (h e (by omega))
  obtain ⟨b1, b2, b3, b4, b5⟩ := pEntry_b h3
  have f1 : ldE A x k n 1 e = a := by simp [ldE, h5]
  have f2 : ldE A x k n 2 e = b := by simp [ldE, h5]
  have f3 : ldE A x k n 3 e = t := by simp [ldE, h5]
  have f4 : ldE A x k n 4 e = r := by simp [ldE, h5]
  rw [f1, f2, f3, f4]
  rcases b2 with b2 | b2 <;> omega
