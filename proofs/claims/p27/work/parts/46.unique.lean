section UN
variable {A : Ab} {L L' : Nat → Nat → Int} {R R' : Nat → Int}
theorem LaneAt_one {w e : Nat} (h : ∀ x, w ≠ 0 → L' x (w - 1) = L x (w - 1)) (h2 : ∀ o, bar A w o → kb A L w o < kb A L w e → L' o w = L o w) (q1 : LaneAt A L w e) (q2 : LaneAt A L' w e) : L' e w = L e w := by
  unfold LaneAt at q1 q2
  rw [prv_congr h] at q2
  have hc := clash_congr (A := A) (e := e) h h2
  rcases q1 with ⟨a1, a2, a3⟩ | ⟨a1, a2, a3, a4⟩
  · rcases q2 with ⟨b1, b2, b3⟩ | ⟨b1, b2, b3, b4⟩
    · omega
    · rcases b1 with b1 | b1
      · exact absurd b1 a1
      · exact absurd ((hc _).mp b1) a2
  · rcases q2 with ⟨b1, b2, b3⟩ | ⟨b1, b2, b3, b4⟩
    · rcases a1 with a1 | a1
      · exact absurd a1 b1
      · exact absurd ((hc _).mpr a1) b2
    · rcases Int.lt_trichotomy (L' e w) (L e w) with q | q | q
      · exact absurd ((hc _).mpr (a4 _ b2 q)) b3
      · exact q
      · exact absurd ((hc _).mp (b4 _ a2 q)) a3
theorem LayL_Lb (hO : Ok A) (h : LayL A L) (hb : Lbd L) {w : Nat} (hw : (w : Int) < nW A) : Lb A L w := by
  intro e he hlt h0
  have h1 : bar A (w - 1) e := by
    have h2 := wS_mono hO (a := ((w - 1 : Nat) : Int)) (b := w) (by omega) (by omega) (by omega)
    refine ⟨he.1, he.2.1, ?_, by have := he.2.2.2; omega⟩
    unfold wL
    rw [show ((w - 1 : Nat) : Int) + 1 = w by omega]
    omega
  exact ⟨LaneAt_nn hb ((h (w - 1) e).1 ⟨by omega, h1⟩), (hb e (w - 1)).2⟩
theorem kb_nn (hO : Ok A) {w e : Nat} (hL : Lb A L w) (he : bar A w e) : 0 ≤ kb A L w e := by
  have oe := hO.e he.1
  by_cases c : A 1 e < wS A w
  · rw [kb_1 c]
    by_cases hw : w = 0
    · rw [if_pos hw]; omega
    · rw [if_neg hw]
      have := hL e he c hw
      omega
  · rw [kb_2 c]
    omega
theorem LayL_one (hO : Ok A) (h : LayL A L) (h' : LayL A L') (hb : Lbd L) : L' = L := by
  have key : ∀ w e, L' e w = L e w := by
    intro w
    induction w using Nat.strongRecOn with
    | _ w ih =>
      have g : ∀ x, w ≠ 0 → L' x (w - 1) = L x (w - 1) := fun x h0 => ih (w - 1) (by omega) x
      by_cases hw : (w : Int) < nW A
      · have hLb := LayL_Lb hO h hb hw
        have main : ∀ (n e : Nat), bar A w e → kb A L w e < n → L' e w = L e w := by
          intro n
          induction n with
          | zero =>
            intro e he hk
            have := kb_nn hO hLb he
            omega
          | succ n ihn =>
            intro e he hk
            exact LaneAt_one g (fun o ho hko => ihn o ho (by omega)) ((h w e).1 ⟨hw, he⟩) ((h' w e).1 ⟨hw, he⟩)
        intro e
        by_cases he : bar A w e
        · have := kb_nn hO hLb he
          exact main ((kb A L w e).toNat + 1) e he (by omega)
        · rw [(h w e).2 (fun q => he q.2), (h' w e).2 (fun q => he q.2)]
      · intro e
        rw [(h w e).2 (fun q => hw q.1), (h' w e).2 (fun q => hw q.1)]
  funext e w
  exact key w e
theorem RowAt_one {e : Nat} (h2 : ∀ o, sh A o → ks A o < ks A e → R' o = R o) (q1 : RowAt A L R e) (q2 : RowAt A L R' e) : R' e = R e := by
  have hc := tkn_congr (A := A) (L := L) (e := e) h2
  obtain ⟨a2, a3, a4⟩ := q1
  obtain ⟨b2, b3, b4⟩ := q2
  rcases Int.lt_trichotomy (R' e) (R e) with q | q | q
  · exact absurd ((hc _).mpr (a4 _ b2 q)) b3
  · exact q
  · exact absurd ((hc _).mp (b4 _ a2 q)) a3
theorem LayR_one (hO : Ok A) (h : LayR A L R) (h' : LayR A L R') : R' = R := by
  have nn : ∀ e : Nat, (e : Int) < A 0 4 → -300 ≤ ks A e := fun e he => by
    have oe := hO.e he
    unfold ks
    omega
  have main : ∀ (n e : Nat), sh A e → ks A e < (n : Int) - 300 → R' e = R e := by
    intro n
    induction n with
    | zero =>
      intro e he hk
      have := nn e he.1
      omega
    | succ n ihn =>
      intro e he hk
      exact RowAt_one (fun o ho hko => ihn o ho (by omega)) ((h e).1 he) ((h' e).1 he)
  funext e
  by_cases he : sh A e
  · have := nn e he.1
    exact main ((ks A e + 301).toNat) e he (by omega)
  · rw [(h e).2 he, (h' e).2 he]
end UN
