/-! a day: what is shown, what is hidden -/
theorem fst_nn {p : Nat → Bool} (n : Nat) : 0 ≤ fst p n ↔ ∃ i, i < n ∧ p i = true := by
  induction n with
  | zero => exact ⟨fun z => absurd z (show ¬ (0 : Int) ≤ -9 by decide), fun ⟨i, hi, _⟩ => absurd hi (Nat.not_lt_zero _)⟩
  | succ n ih =>
    have e : fst p (n + 1) = if fst p n = -9 then (if p n then (n : Int) else -9) else fst p n := rfl
    rw [e]
    by_cases c : fst p n = -9
    · rw [if_pos c]
      rw [c] at ih
      by_cases hp : p n = true
      · rw [if_pos hp]
        exact ⟨fun _ => ⟨n, by omega, hp⟩, fun _ => by omega⟩
      · rw [if_neg hp]
        refine ⟨fun z => absurd z (by decide), fun ⟨i, hi, hpi⟩ => ?_⟩
        by_cases hin : i = n
        · rw [hin] at hpi
          exact absurd hpi hp
        · exact absurd (ih.mpr ⟨i, by omega, hpi⟩) (by decide)
    · rw [if_neg c]
      have hb := fst_b (p := p) n
      have h0 : 0 ≤ fst p n := by omega
      obtain ⟨i, hi, hpi⟩ := ih.mp h0
      exact ⟨fun _ => ⟨i, by omega, hpi⟩, fun _ => h0⟩
theorem cntP_s (p : Nat → Bool) (n : Nat) : cntP p (n + 1) = cntP p n + (if p n = true then 1 else 0) := rfl
theorem cntP_sum {p q p' q' : Nat → Bool} {n : Nat} (h : ∀ i, i < n → (if p i = true then 1 else 0) + (if q i = true then 1 else 0) = (if p' i = true then 1 else 0) + (if q' i = true then 1 else 0)) : cntP p n + cntP q n = cntP p' n + cntP q' n := by
  induction n with
  | zero => rfl
  | succ n ih =>
    have h1 := ih (fun i hi => h i (by omega))
    have h2 := h n (Nat.lt_succ_self n)
    rw [cntP_s, cntP_s, cntP_s, cntP_s]
    omega
theorem hidN_t {A : Ab} {L : Nat → Nat → Int} {R : Nat → Int} {D m : Int} {k : Nat} (h : onD A D k ∧ m ≤ rowv A L R D k) : hidN A L R D m (k + 1) = hidN A L R D m k + 1 := cntP_t (decide_eq_true h)
theorem hidN_f {A : Ab} {L : Nat → Nat → Int} {R : Nat → Int} {D m : Int} {k : Nat} (h : ¬ (onD A D k ∧ m ≤ rowv A L R D k)) : hidN A L R D m (k + 1) = hidN A L R D m k := cntP_f (fun z => h (of_decide_eq_true z))
/-- the entries that are seen -/
abbrev seeN (A : Ab) (L : Nat → Nat → Int) (R : Nat → Int) (D m : Int) (k : Nat) : Nat := cntP (fun o => decide (onD A D o ∧ rowv A L R D o < m)) k
section DAYF
variable {A : Ab} {L : Nat → Nat → Int} {R : Nat → Int} {D : Int}
/-- the flag that tells whether an entry is hidden when r rows are there -/
theorem mark_iff {r : Int} (hr : 1 ≤ r) {e : Nat} (he : (e : Int) < A 0 4) (h0 : onD A D e → 0 ≤ rowv A L R D e) : (r - 1 ≤ rowD A L R e D ∧ r < ned A L R D (A 0 4).toNat) ↔ (onD A D e ∧ mrk (ned A L R D (A 0 4).toNat) r ≤ rowv A L R D e) := by
  unfold rowD mrk
  by_cases c : onD A D e
  · have hg := ned_ge (A := A) (L := L) (R := R) (D := D) (k := (A 0 4).toNat) (o := e) (by omega) c
    rw [if_pos c]
    by_cases q : r < ned A L R D (A 0 4).toNat
    · rw [if_pos q]
      exact ⟨fun z => ⟨c, z.1⟩, fun z => ⟨z.2, q⟩⟩
    · rw [if_neg q]
      exact ⟨fun z => absurd z.2 q, fun z => absurd z.2 (by omega)⟩
  · rw [if_neg c]
    exact ⟨fun z => absurd z.1 (by omega), fun z => absurd z.1 c⟩
theorem mrk_b {N r : Int} (hN : 0 ≤ N) (hr : 1 ≤ r) : 0 ≤ mrk N r ∧ mrk N r ≤ r := by
  unfold mrk
  split <;> omega
theorem vShown_at (hO : Ok A) (hL : LayL A L) (hR : LayR A L R) (hLb : Lbd L) (d1 : A 0 0 ≤ D) (d2 : D ≤ A 0 1) {e : Nat} (he : (e : Int) < A 0 4) (hd : onD A D e) (hm : rowv A L R D e < mrk (ned A L R D (A 0 4).toNat) (A 0 3)) : vShown A L R D (rowv A L R D e) = e := by
  have ob := hO.b
  have hg := ned_ge (A := A) (L := L) (R := R) (D := D) (k := (A 0 4).toNat) (o := e) (by omega) hd
  unfold mrk at hm
  have h1 : ¬ A 0 3 ≤ rowv A L R D e := by split at hm <;> omega
  have h2 : ¬ (A 0 3 < ned A L R D (A 0 4).toNat ∧ rowv A L R D e = A 0 3 - 1) := fun z => by
    rw [if_pos z.1] at hm
    omega
  unfold vShown
  rw [if_neg h1, if_neg h2]
  refine fst_at (by omega) (decide_eq_true ⟨hd, rfl⟩) (fun i hi z => ?_)
  have z := of_decide_eq_true z
  have := rowv_inj hO hL hR hLb d1 d2 (e := i) (o := e) (by omega) he z.1 hd z.2
  omega
theorem vShown_nn {r : Int} (hO : Ok A) (hr : 0 ≤ r) : 0 ≤ vShown A L R D r ↔ ∃ o : Nat, o < (A 0 4).toNat ∧ (onD A D o ∧ rowv A L R D o < mrk (ned A L R D (A 0 4).toNat) (A 0 3)) ∧ rowv A L R D o = r := by
  have ob := hO.b
  unfold vShown
  by_cases c1 : A 0 3 ≤ r
  · rw [if_pos c1]
    refine ⟨fun z => absurd z (by decide), fun ⟨o, h1, h2, h3⟩ => ?_⟩
    have hm : mrk (ned A L R D (A 0 4).toNat) (A 0 3) ≤ A 0 3 := by unfold mrk; split <;> omega
    omega
  · rw [if_neg c1]
    by_cases c2 : A 0 3 < ned A L R D (A 0 4).toNat ∧ r = A 0 3 - 1
    · rw [if_pos c2]
      refine ⟨fun z => absurd z (by omega), fun ⟨o, h1, h2, h3⟩ => ?_⟩
      unfold mrk at h2
      rw [if_pos c2.1] at h2
      omega
    · rw [if_neg c2]
      rw [fst_nn]
      constructor
      · rintro ⟨o, h1, h2⟩
        have h2 := of_decide_eq_true h2
        have hg := ned_ge (A := A) (L := L) (R := R) (D := D) (k := (A 0 4).toNat) (o := o) h1 h2.1
        refine ⟨o, h1, ⟨h2.1, ?_⟩, h2.2⟩
        have h3 := h2.2
        unfold mrk
        split <;> omega
      · rintro ⟨o, h1, h2, h3⟩
        exact ⟨o, h1, decide_eq_true ⟨h2.1, h3⟩⟩
/-- as many rows show an entry as entries are seen -/
theorem shown_cnt (hO : Ok A) (hL : LayL A L) (hR : LayR A L R) (hLb : Lbd L) (d1 : A 0 0 ≤ D) (d2 : D ≤ A 0 1) : cntP (fun r : Nat => decide (0 ≤ vShown A L R D r)) 12 = seeN A L R D (mrk (ned A L R D (A 0 4).toNat) (A 0 3)) (A 0 4).toNat := by
  have ob := hO.b
  have hm : mrk (ned A L R D (A 0 4).toNat) (A 0 3) ≤ A 0 3 := by unfold mrk; split <;> omega
  symm
  refine cnt_rows (f := fun o => (rowv A L R D o).toNat) _ _ (fun r hr => ?_) (fun o ho hp => ?_) (fun o o' ho ho' hp hp' hf => ?_)
  · rw [decide_eq_true_iff, vShown_nn hO (by omega)]
    constructor
    · rintro ⟨o, h1, h2, h3⟩
      refine ⟨o, h1, decide_eq_true h2, ?_⟩
      show (rowv A L R D o).toNat = r
      omega
    · rintro ⟨o, h1, h2, h3⟩
      have h2 := of_decide_eq_true h2
      have h3 : (rowv A L R D o).toNat = r := h3
      have h4 := rowv_nn hO hL hR hLb d1 d2 (e := o) (by omega) h2.1
      exact ⟨o, h1, h2, by omega⟩
  · have hp := of_decide_eq_true hp
    have h4 := rowv_nn hO hL hR hLb d1 d2 (e := o) (by omega) hp.1
    show (rowv A L R D o).toNat < 12
    omega
  · have hp := of_decide_eq_true hp
    have hp' := of_decide_eq_true hp'
    have h4 := rowv_nn hO hL hR hLb d1 d2 (e := o) (by omega) hp.1
    have h5 := rowv_nn hO hL hR hLb d1 d2 (e := o') (by omega) hp'.1
    have hf : (rowv A L R D o).toNat = (rowv A L R D o').toNat := hf
    exact rowv_inj hO hL hR hLb d1 d2 (by omega) (by omega) hp.1 hp'.1 (by omega)
theorem all_cnt {m : Int} (k : Nat) : seeN A L R D m k + hidN A L R D m k = lgd A D k + shn A D D k := by
  refine cntP_sum (fun i _ => ?_)
  simp only [decide_eq_true_eq]
  by_cases c : onD A D i
  · by_cases l : lng A i
    · by_cases q : rowv A L R D i < m
      · rw [if_pos ⟨c, q⟩, if_neg (fun z => by omega), if_pos ⟨l, c⟩, if_neg (fun z => z.1 l)]
      · rw [if_neg (fun z => q z.2), if_pos ⟨c, by omega⟩, if_pos ⟨l, c⟩, if_neg (fun z => z.1 l)]
    · by_cases q : rowv A L R D i < m
      · rw [if_pos ⟨c, q⟩, if_neg (fun z => by omega), if_neg (fun z => l z.1), if_pos ⟨l, c⟩]
      · rw [if_neg (fun z => q z.2), if_pos ⟨c, by omega⟩, if_neg (fun z => l z.1), if_pos ⟨l, c⟩]
  · rw [if_neg (fun z => c z.1), if_neg (fun z => c z.1), if_neg (fun z => c z.2), if_neg (fun z => c z.2)]
theorem ned_nn (k : Nat) : 0 ≤ ned A L R D k := by
  induction k with
  | zero => exact Int.le_refl _
  | succ k ih =>
    rw [ned_s]
    split <;> omega
theorem ned_step {k : Nat} (h0 : onD A D k → 0 ≤ rowv A L R D k) : ned A L R D (k + 1) = if rowD A L R k D < ned A L R D k then ned A L R D k else rowD A L R k D + 1 := by
  have hn := ned_nn (A := A) (L := L) (R := R) (D := D) k
  rw [ned_s]
  unfold rowD
  by_cases c : onD A D k
  · have := h0 c
    rw [if_pos c, if_pos c]
    split <;> omega
  · rw [if_neg c, if_neg c, if_pos (by omega)]
end DAYF
