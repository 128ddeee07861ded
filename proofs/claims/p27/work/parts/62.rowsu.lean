/-! no two entries of a day lie in one row -/
theorem cntP_one {p q : Nat → Bool} {i n : Nat} (hi : i < n) (h1 : p i = true) (h2 : ¬ q i = true) (h : ∀ j, j ≠ i → q j = p j) : cntP p n = cntP q n + 1 := by
  induction n with
  | zero => omega
  | succ n ih =>
    by_cases hin : i = n
    · subst hin
      rw [cntP_t h1, cntP_f h2, cntP_congr (fun j hj => h j (by omega))]
    · have := ih (by omega)
      by_cases hp : p n = true
      · rw [cntP_t hp, cntP_t (by rw [h n (by omega)]; exact hp)]
        omega
      · rw [cntP_f hp, cntP_f (by rw [h n (by omega)]; exact hp)]
        omega
theorem cntP_no {p : Nat → Bool} {n : Nat} (h : ∀ i, i < n → ¬ p i = true) : cntP p n = 0 := by
  induction n with
  | zero => rfl
  | succ n ih => rw [cntP_f (h n (Nat.lt_succ_self n)), ih (fun i hi => h i (by omega))]
theorem cnt_rows {m : Nat} {p : Nat → Bool} {f : Nat → Nat} : ∀ (n : Nat) (B : Nat → Bool), (∀ r, r < m → (B r = true ↔ ∃ o, o < n ∧ p o = true ∧ f o = r)) → (∀ o, o < n → p o = true → f o < m) → (∀ o o', o < n → o' < n → p o = true → p o' = true → f o = f o' → o = o') → cntP p n = cntP B m := by
  intro n
  induction n with
  | zero =>
    intro B hB _ _
    exact (cntP_no (p := B) (n := m) (fun r hr q => by
      obtain ⟨o, h, _⟩ := (hB r hr).mp q
      exact absurd h (Nat.not_lt_zero _))).symm
  | succ n ih =>
    intro B hB hf hi
    by_cases hp : p n = true
    · rw [cntP_t hp]
      have hfn := hf n (by omega) hp
      have e := ih (fun r => B r && !decide (r = f n)) (fun r hr => by
        rw [Bool.and_eq_true, hB r hr]
        constructor
        · rintro ⟨⟨o, q1, q2, q3⟩, q4⟩
          by_cases hon : o = n
          · rw [hon] at q3
            rw [decide_eq_true q3.symm] at q4
            cases q4
          · exact ⟨o, by omega, q2, q3⟩
        · rintro ⟨o, q1, q2, q3⟩
          refine ⟨⟨o, by omega, q2, q3⟩, ?_⟩
          have : ¬ r = f n := fun z => by
            have := hi o n (by omega) (by omega) q2 hp (by omega)
            omega
          rw [decide_eq_false this]
          rfl) (fun o ho hpo => hf o (by omega) hpo) (fun o o' ho ho' => hi o o' (by omega) (by omega))
      rw [e]
      refine (cntP_one (i := f n) hfn ((hB _ hfn).mpr ⟨n, by omega, hp, rfl⟩) ?_ (fun j hj => ?_)).symm
      · intro z
        rw [Bool.and_eq_true, decide_eq_true rfl] at z
        exact absurd z.2 (by decide)
      · show (B j && !decide (j = f n)) = B j
        rw [decide_eq_false hj]
        simp
    · rw [cntP_f hp]
      refine ih B (fun r hr => ?_) (fun o ho hpo => hf o (by omega) hpo) (fun o o' ho ho' => hi o o' (by omega) (by omega))
      rw [hB r hr]
      constructor
      · rintro ⟨o, q1, q2, q3⟩
        by_cases hon : o = n
        · rw [hon] at q2
          exact absurd q2 hp
        · exact ⟨o, by omega, q2, q3⟩
      · rintro ⟨o, q1, q2, q3⟩
        exact ⟨o, by omega, q2, q3⟩
section RU
variable {A : Ab} {L : Nat → Nat → Int} {R : Nat → Int} {D : Int}
theorem lane_ok (hL : LayL A L) {w e : Nat} (hw : (w : Int) < nW A) (hb : bar A w e) : ¬ clash A L w e (L e w) := by
  rcases (hL w e).1 ⟨hw, hb⟩ with ⟨h1, h2, h3⟩ | ⟨h1, h2, h3, h4⟩
  · rw [h3]; exact h2
  · exact h3
theorem bar_on (hO : Ok A) (d1 : A 0 0 ≤ D) (d2 : D ≤ A 0 1) {e : Nat} (he : (e : Int) < A 0 4) (le : lng A e) (hd : onD A D e) : bar A (wk A D).toNat e ∧ (((wk A D).toNat : Nat) : Int) < nW A := by
  have hb := wk_b hO d1 d2
  have e0 : (((wk A D).toNat : Nat) : Int) = wk A D := Int.toNat_of_nonneg hb.1
  have hin := (wk_in hO d1 d2 hb.1 hb.2).mp rfl
  exact ⟨⟨he, le, by rw [e0]; omega, by rw [e0]; omega⟩, by rw [e0]; exact hb.2⟩
theorem lane_ne (hO : Ok A) (hL : LayL A L) (hLb : Lbd L) (d1 : A 0 0 ≤ D) (d2 : D ≤ A 0 1) {e o : Nat} (he : (e : Int) < A 0 4) (ho : (o : Int) < A 0 4) (le : lng A e) (lo : lng A o) (hde : onD A D e) (hdo : onD A D o) (h : L e (wk A D).toNat = L o (wk A D).toNat) : e = o := by
  obtain ⟨be, hw⟩ := bar_on hO d1 d2 he le hde
  obtain ⟨bo, -⟩ := bar_on hO d1 d2 ho lo hdo
  rcases Int.lt_trichotomy (kb A L (wk A D).toNat o) (kb A L (wk A D).toNat e) with q | q | q
  · exact absurd ⟨o, bo, q, h.symm, by omega, by omega⟩ (lane_ok hL hw be)
  · exact (kb_inj hO (LayL_Lb hO hL hLb hw) bo be q).symm
  · exact absurd ⟨e, be, q, h, by omega, by omega⟩ (lane_ok hL hw bo)
theorem sh_on (hO : Ok A) (d1 : A 0 0 ≤ D) (d2 : D ≤ A 0 1) {e : Nat} (he : (e : Int) < A 0 4) (le : ¬ lng A e) (hd : onD A D e) : sh A e ∧ A 1 e = D := by
  have := sh_same hO he le
  exact ⟨⟨he, le, by omega, by omega⟩, by omega⟩
theorem rowv_inj (hO : Ok A) (hL : LayL A L) (hR : LayR A L R) (hLb : Lbd L) (d1 : A 0 0 ≤ D) (d2 : D ≤ A 0 1) {e o : Nat} (he : (e : Int) < A 0 4) (ho : (o : Int) < A 0 4) (hde : onD A D e) (hdo : onD A D o) (h : rowv A L R D e = rowv A L R D o) : e = o := by
  unfold rowv at h
  by_cases le : lng A e
  · rw [if_pos le] at h
    by_cases lo : lng A o
    · rw [if_pos lo] at h
      exact lane_ne hO hL hLb d1 d2 he ho le lo hde hdo h
    · rw [if_neg lo] at h
      obtain ⟨so, so1⟩ := sh_on hO d1 d2 ho lo hdo
      exact absurd (Or.inl ⟨e, he, le, by omega, by omega, by rw [so1]; exact h⟩) ((hR o).1 so).2.1
  · rw [if_neg le] at h
    obtain ⟨se, se1⟩ := sh_on hO d1 d2 he le hde
    by_cases lo : lng A o
    · rw [if_pos lo] at h
      exact absurd (Or.inl ⟨o, ho, lo, by omega, by omega, by rw [se1]; exact h.symm⟩) ((hR e).1 se).2.1
    · rw [if_neg lo] at h
      obtain ⟨so, so1⟩ := sh_on hO d1 d2 ho lo hdo
      rcases Int.lt_trichotomy (ks A o) (ks A e) with q | q | q
      · exact absurd (Or.inr ⟨o, so, by omega, q, h.symm⟩) ((hR e).1 se).2.1
      · exact (ks_inj hO ho he q).symm
      · exact absurd (Or.inr ⟨e, se, by omega, q, h⟩) ((hR o).1 so).2.1
theorem rowv_nn (hO : Ok A) (hL : LayL A L) (hR : LayR A L R) (hLb : Lbd L) (d1 : A 0 0 ≤ D) (d2 : D ≤ A 0 1) {e : Nat} (he : (e : Int) < A 0 4) (hde : onD A D e) : 0 ≤ rowv A L R D e := by
  unfold rowv
  by_cases le : lng A e
  · rw [if_pos le]
    obtain ⟨be, hw⟩ := bar_on hO d1 d2 he le hde
    exact LaneAt_nn hLb ((hL _ e).1 ⟨hw, be⟩)
  · rw [if_neg le]
    exact ((hR e).1 (sh_on hO d1 d2 he le hde).1).1
theorem Bd_iff (hO : Ok A) {d r : Nat} (hd : A 0 0 + d ≤ A 0 1) : Bd A L R d r ↔ ∃ o : Nat, (o : Int) < A 0 4 ∧ onD A (A 0 0 + d) o ∧ rowv A L R (A 0 0 + d) o = r := by
  unfold Bd
  constructor
  · rintro ⟨e, h1, h2, ⟨h3, h4, h5, h6⟩ | ⟨h3, h4, h5⟩⟩
    · exact ⟨e, h1, ⟨h4, h5⟩, by rw [rowv, if_pos h3]; exact h6⟩
    · have := sh_same hO h1 h3
      exact ⟨e, h1, ⟨by omega, by omega⟩, by rw [rowv, if_neg h3]; exact h5⟩
  · rintro ⟨e, h1, h2, h3⟩
    by_cases le : lng A e
    · rw [rowv, if_pos le] at h3
      exact ⟨e, h1, hd, Or.inl ⟨le, h2.1, h2.2, h3⟩⟩
    · rw [rowv, if_neg le] at h3
      have := sh_same hO h1 le
      exact ⟨e, h1, hd, Or.inr ⟨le, by omega, h3⟩⟩
theorem ned_ge {k o : Nat} (ho : o < k) (hd : onD A D o) : rowv A L R D o + 1 ≤ ned A L R D k := by
  induction k with
  | zero => omega
  | succ k ih =>
    rw [ned_s]
    by_cases hk : o = k
    · rw [hk] at hd ⊢
      rw [if_pos hd]
      omega
    · have := ih (by omega)
      split <;> omega
theorem ned_at (k : Nat) : ned A L R D k = 0 ∨ ∃ o, o < k ∧ onD A D o ∧ rowv A L R D o + 1 = ned A L R D k := by
  induction k with
  | zero => exact Or.inl rfl
  | succ k ih =>
    rw [ned_s]
    by_cases hd : onD A D k
    · rw [if_pos hd]
      by_cases hm : ned A L R D k ≤ rowv A L R D k + 1
      · exact Or.inr ⟨k, by omega, hd, by omega⟩
      · rw [show max (ned A L R D k) (rowv A L R D k + 1) = ned A L R D k by omega]
        rcases ih with q | ⟨o, q1, q2, q3⟩
        · exact Or.inl q
        · exact Or.inr ⟨o, by omega, q2, q3⟩
    · rw [if_neg hd]
      rcases ih with q | ⟨o, q1, q2, q3⟩
      · exact Or.inl q
      · exact Or.inr ⟨o, by omega, q2, q3⟩
/-- what a day's bits tell -/
def Bt (A : Ab) (L : Nat → Nat → Int) (R : Nat → Int) (D : Int) (T : Nat) : Prop := T < 16777216 ∧ ∀ r : Nat, T.testBit r = true ↔ ∃ o : Nat, (o : Int) < A 0 4 ∧ onD A D o ∧ rowv A L R D o = r
theorem Bt.get {M : Mm} {p : Nat} (hO : Ok A) (hT : TK M p (Bd A L R)) (d1 : A 0 0 ≤ D) (d2 : D ≤ A 0 1) : ∃ T : Nat, M 9 p (D - A 0 0).toNat = iI T ∧ Bt A L R D T := by
  have ob := hO.b
  obtain ⟨d, hd⟩ : ∃ d : Nat, D - A 0 0 = d := ⟨(D - A 0 0).toNat, by omega⟩
  obtain ⟨T, h1, h2, h3⟩ := hT d (by omega)
  refine ⟨T, by rw [hd, Int.toNat_natCast]; exact h1, h2, fun r => ?_⟩
  rw [h3 r, Bd_iff hO (by omega), show A 0 0 + (d : Int) = D by omega]
theorem Bt.ned (hO : Ok A) {T : Nat} (hT : Bt A L R D T) : (∀ r : Nat, T.testBit r = true → (r : Int) < ned A L R D (A 0 4).toNat) ∧ ∀ N : Nat, ned A L R D (A 0 4).toNat = (N : Int) + 1 → T.testBit N = true := by
  have ob := hO.b
  refine ⟨fun r hr => ?_, fun N hN => ?_⟩
  · obtain ⟨o, h1, h2, h3⟩ := (hT.2 r).mp hr
    have := ned_ge (A := A) (L := L) (R := R) (D := D) (k := (A 0 4).toNat) (o := o) (by omega) h2
    omega
  · rcases ned_at (A := A) (L := L) (R := R) (D := D) (A 0 4).toNat with q | ⟨o, q1, q2, q3⟩
    · omega
    · exact (hT.2 N).mpr ⟨o, by omega, q2, by omega⟩
theorem Bt.hid (hO : Ok A) (hL : LayL A L) (hR : LayR A L R) (hLb : Lbd L) (hRb : Rbd R) (d1 : A 0 0 ≤ D) (d2 : D ≤ A 0 1) {T : Nat} (hT : Bt A L R D T) (m : Nat) : hidN A L R D m (A 0 4).toNat = cntP (fun r => (T >>> m).testBit r) 24 := by
  have ob := hO.b
  unfold hidN
  refine cnt_rows (f := fun o => (rowv A L R D o).toNat - m) _ _ (fun r hr => ?_) (fun o ho hp => ?_) (fun o o' ho ho' hp hp' hf => ?_)
  · rw [Nat.testBit_shiftRight, hT.2]
    constructor
    · rintro ⟨o, h1, h2, h3⟩
      refine ⟨o, by omega, decide_eq_true ⟨h2, by omega⟩, ?_⟩
      show (rowv A L R D o).toNat - m = r
      omega
    · rintro ⟨o, h1, h2, h3⟩
      have h2 := of_decide_eq_true h2
      have h3 : (rowv A L R D o).toNat - m = r := h3
      exact ⟨o, by omega, h2.1, by omega⟩
  · have hb := rowv_b (A := A) (D := D) hLb hRb o
    show (rowv A L R D o).toNat - m < 24
    omega
  · have h1 := of_decide_eq_true hp
    have h2 := of_decide_eq_true hp'
    have hf : (rowv A L R D o).toNat - m = (rowv A L R D o').toNat - m := hf
    exact rowv_inj hO hL hR hLb d1 d2 (by omega) (by omega) h1.1 h2.1 (by omega)
end RU
