/-- the memory at the start -/
def mm0 : Mm := fun c _ j => match c with
  | 3 => if j = 3 then -1 else 0
  | 11 => if j = 1 then 30 else if j = 3 then 4 else 0
  | _ => 0
def wlP (o : Om) (M : Mm) (H : Heap) (k : Nat) : Prop := va_at o.1 vwCl (o.2.1 (kd k) (k - bas (kd k)), cr o (kd k) (k - bas (kd k)) (M (kd k) (k - bas (kd k)))) H
theorem wl_intro {o : Om} {M : Mm} {H : Heap} (h : ∀ k, k < o.2.2.2 → wlP o M H k) : va_P o.1 vwCl (wl o M) H := by
  intro k q hk
  rw [wl_k] at hk
  by_cases hn : k < o.2.2.2
  · rw [if_pos hn] at hk
    cases hk
    exact h k hn
  · rw [if_neg hn] at hk
    cases hk
theorem wl_introD {o : Om} {M : Mm} {A : Nat → Prop} {ws : va_W} (hD : va_D A ws) (g : Nat → Nat) (hg : ∀ k, k < o.2.2.2 → ∃ e, ws[g k]? = some (o.2.1 (kd k) (k - bas (kd k)), e)) (hi : ∀ i j, i < o.2.2.2 → j < o.2.2.2 → g i = g j → i = j) : va_D A (wl o M) := by
  have key : ∀ (k : Nat) (q : Nat × va_E), (wl o M)[k]? = some q → k < o.2.2.2 ∧ ∃ e, ws[g k]? = some (q.1, e) := by
    intro k q hk
    rw [wl_k] at hk
    by_cases hn : k < o.2.2.2
    · rw [if_pos hn] at hk
      cases hk
      exact ⟨hn, hg k hn⟩
    · rw [if_neg hn] at hk
      cases hk
  refine ⟨fun i j x y hx hy hxy => ?_, fun k q hk => ?_⟩
  · obtain ⟨h1, e1, g1⟩ := key i x hx
    obtain ⟨h2, e2, g2⟩ := key j y hy
    exact hi i j h1 h2 (hD.1 _ _ _ _ g1 g2 hxy)
  · obtain ⟨h1, e1, g1⟩ := key k q hk
    exact hD.2 _ (q.1, e1) g1
theorem q_cell {a : Nat} {cA : ClassId} {n : Nat} {f g : Nat → Option Nat} {D : va_G} {H : Heap} (h : va_at D vwCl (a, .inl (cA, n, .inr (.inr (.inr (.inr f))))) H) (e : ∀ i, i < n → f i = g i) : va_at D vwCl (a, .inl (cA, n, .inr (.inr (.inr (.inr g))))) H := by
  have h1 : H[a]? = some (arrV cA n (fun j => va_rf (f j))) := h
  have h2 : arrV cA n (fun j => va_rf (f j)) = arrV cA n (fun j => va_rf (g j)) := by
    unfold arrV
    congr 1
    apply Array.ext
    · simp
    · intro i h3 h4
      simp only [Array.getElem_ofFn]
      rw [e i (by simpa using h4)]
  rw [h2] at h1
  exact h1
def asmL (t : ClassId × ClassId × ClassId) (ad f0 f1 : Nat → Nat) : va_W := [((ad 0), .inr (4, [.ref (ad 5), .ref (ad 6), .ref (ad 1), .ref (ad 3)])), ((ad 1), .inr (1, [.ref (ad 2), .int 0, .int 0])), ((ad 2), .inl (t.2.1, 8, .inr (.inr (.inr (.inr (va_up (va_up (va_up (va_up (va_up (va_up (va_up (va_up (fun _ => none) (0 : Int32).toNatClampNeg (some (ad 19))) (1 : Int32).toNatClampNeg (some (ad 20))) (2 : Int32).toNatClampNeg (some (ad 21))) (3 : Int32).toNatClampNeg (some (ad 22))) (4 : Int32).toNatClampNeg (some (ad 23))) (5 : Int32).toNatClampNeg (some (ad 24))) (6 : Int32).toNatClampNeg (some (ad 25))) (7 : Int32).toNatClampNeg (some (ad 26)))))))), ((ad 3), .inr (3, [.ref (ad 4), .int 0, .int 0, .int (-1)])), ((ad 4), .inl (t.1, 100, .inl (fun _ => 0))), ((ad 5), .inr (0, [.ref (ad 17), .int 0, .ref (ad 7), .ref (ad 9), .ref (ad 11), .ref (ad 13), .ref (ad 15), .int 0])), ((ad 6), .inr (0, [.ref (ad 18), .int 0, .ref (ad 8), .ref (ad 10), .ref (ad 12), .ref (ad 14), .ref (ad 16), .int 0])), ((ad 7), .inl (t.1, 8, .inl (fun _ => 0))), ((ad 8), .inl (t.1, 8, .inl (fun _ => 0))), ((ad 9), .inl (t.2.2, 24, .inr (.inr (.inr (.inr (fun i => if i < 24 then some (f0 i) else none)))))), ((ad 10), .inl (t.2.2, 24, .inr (.inr (.inr (.inr (fun i => if i < 24 then some (f1 i) else none)))))), ((ad 11), .inl (t.1, 24, .inl (fun _ => 0))), ((ad 12), .inl (t.1, 24, .inl (fun _ => 0))), ((ad 13), .inl (t.1, 42, .inl (fun _ => 0))), ((ad 14), .inl (t.1, 42, .inl (fun _ => 0))), ((ad 15), .inl (t.1, 24, .inl (fun _ => 0))), ((ad 16), .inl (t.1, 24, .inl (fun _ => 0))), ((ad 17), .inr (2, [.int 0, .int 30, .int 0, .int 4, .int 0, .ref (ad 75), .ref (ad 85), .ref (ad 95), .ref (ad 105)])), ((ad 18), .inr (2, [.int 0, .int 30, .int 0, .int 4, .int 0, .ref (ad 76), .ref (ad 86), .ref (ad 96), .ref (ad 106)])), ((ad 19), .inr (2, [.int 0, .int 30, .int 0, .int 4, .int 0, .ref (ad 77), .ref (ad 87), .ref (ad 97), .ref (ad 107)])), ((ad 20), .inr (2, [.int 0, .int 30, .int 0, .int 4, .int 0, .ref (ad 78), .ref (ad 88), .ref (ad 98), .ref (ad 108)])), ((ad 21), .inr (2, [.int 0, .int 30, .int 0, .int 4, .int 0, .ref (ad 79), .ref (ad 89), .ref (ad 99), .ref (ad 109)])), ((ad 22), .inr (2, [.int 0, .int 30, .int 0, .int 4, .int 0, .ref (ad 80), .ref (ad 90), .ref (ad 100), .ref (ad 110)])), ((ad 23), .inr (2, [.int 0, .int 30, .int 0, .int 4, .int 0, .ref (ad 81), .ref (ad 91), .ref (ad 101), .ref (ad 111)])), ((ad 24), .inr (2, [.int 0, .int 30, .int 0, .int 4, .int 0, .ref (ad 82), .ref (ad 92), .ref (ad 102), .ref (ad 112)])), ((ad 25), .inr (2, [.int 0, .int 30, .int 0, .int 4, .int 0, .ref (ad 83), .ref (ad 93), .ref (ad 103), .ref (ad 113)])), ((ad 26), .inr (2, [.int 0, .int 30, .int 0, .int 4, .int 0, .ref (ad 84), .ref (ad 94), .ref (ad 104), .ref (ad 114)])), ((ad 27), .inl (t.1, 7, .inl (fun _ => 0))), ((ad 28), .inl (t.1, 7, .inl (fun _ => 0))), ((ad 29), .inl (t.1, 7, .inl (fun _ => 0))), ((ad 30), .inl (t.1, 7, .inl (fun _ => 0))), ((ad 31), .inl (t.1, 7, .inl (fun _ => 0))), ((ad 32), .inl (t.1, 7, .inl (fun _ => 0))), ((ad 33), .inl (t.1, 7, .inl (fun _ => 0))), ((ad 34), .inl (t.1, 7, .inl (fun _ => 0))), ((ad 35), .inl (t.1, 7, .inl (fun _ => 0))), ((ad 36), .inl (t.1, 7, .inl (fun _ => 0))), ((ad 37), .inl (t.1, 7, .inl (fun _ => 0))), ((ad 38), .inl (t.1, 7, .inl (fun _ => 0))), ((ad 39), .inl (t.1, 7, .inl (fun _ => 0))), ((ad 40), .inl (t.1, 7, .inl (fun _ => 0))), ((ad 41), .inl (t.1, 7, .inl (fun _ => 0))), ((ad 42), .inl (t.1, 7, .inl (fun _ => 0))), ((ad 43), .inl (t.1, 7, .inl (fun _ => 0))), ((ad 44), .inl (t.1, 7, .inl (fun _ => 0))), ((ad 45), .inl (t.1, 7, .inl (fun _ => 0))), ((ad 46), .inl (t.1, 7, .inl (fun _ => 0))), ((ad 47), .inl (t.1, 7, .inl (fun _ => 0))), ((ad 48), .inl (t.1, 7, .inl (fun _ => 0))), ((ad 49), .inl (t.1, 7, .inl (fun _ => 0))), ((ad 50), .inl (t.1, 7, .inl (fun _ => 0))), ((ad 51), .inl (t.1, 7, .inl (fun _ => 0))), ((ad 52), .inl (t.1, 7, .inl (fun _ => 0))), ((ad 53), .inl (t.1, 7, .inl (fun _ => 0))), ((ad 54), .inl (t.1, 7, .inl (fun _ => 0))), ((ad 55), .inl (t.1, 7, .inl (fun _ => 0))), ((ad 56), .inl (t.1, 7, .inl (fun _ => 0))), ((ad 57), .inl (t.1, 7, .inl (fun _ => 0))), ((ad 58), .inl (t.1, 7, .inl (fun _ => 0))), ((ad 59), .inl (t.1, 7, .inl (fun _ => 0))), ((ad 60), .inl (t.1, 7, .inl (fun _ => 0))), ((ad 61), .inl (t.1, 7, .inl (fun _ => 0))), ((ad 62), .inl (t.1, 7, .inl (fun _ => 0))), ((ad 63), .inl (t.1, 7, .inl (fun _ => 0))), ((ad 64), .inl (t.1, 7, .inl (fun _ => 0))), ((ad 65), .inl (t.1, 7, .inl (fun _ => 0))), ((ad 66), .inl (t.1, 7, .inl (fun _ => 0))), ((ad 67), .inl (t.1, 7, .inl (fun _ => 0))), ((ad 68), .inl (t.1, 7, .inl (fun _ => 0))), ((ad 69), .inl (t.1, 7, .inl (fun _ => 0))), ((ad 70), .inl (t.1, 7, .inl (fun _ => 0))), ((ad 71), .inl (t.1, 7, .inl (fun _ => 0))), ((ad 72), .inl (t.1, 7, .inl (fun _ => 0))), ((ad 73), .inl (t.1, 7, .inl (fun _ => 0))), ((ad 74), .inl (t.1, 7, .inl (fun _ => 0))), ((ad 75), .inl (t.1, 24, .inl (fun _ => 0))), ((ad 76), .inl (t.1, 24, .inl (fun _ => 0))), ((ad 77), .inl (t.1, 24, .inl (fun _ => 0))), ((ad 78), .inl (t.1, 24, .inl (fun _ => 0))), ((ad 79), .inl (t.1, 24, .inl (fun _ => 0))), ((ad 80), .inl (t.1, 24, .inl (fun _ => 0))), ((ad 81), .inl (t.1, 24, .inl (fun _ => 0))), ((ad 82), .inl (t.1, 24, .inl (fun _ => 0))), ((ad 83), .inl (t.1, 24, .inl (fun _ => 0))), ((ad 84), .inl (t.1, 24, .inl (fun _ => 0))), ((ad 85), .inl (t.1, 24, .inl (fun _ => 0))), ((ad 86), .inl (t.1, 24, .inl (fun _ => 0))), ((ad 87), .inl (t.1, 24, .inl (fun _ => 0))), ((ad 88), .inl (t.1, 24, .inl (fun _ => 0))), ((ad 89), .inl (t.1, 24, .inl (fun _ => 0))), ((ad 90), .inl (t.1, 24, .inl (fun _ => 0))), ((ad 91), .inl (t.1, 24, .inl (fun _ => 0))), ((ad 92), .inl (t.1, 24, .inl (fun _ => 0))), ((ad 93), .inl (t.1, 24, .inl (fun _ => 0))), ((ad 94), .inl (t.1, 24, .inl (fun _ => 0))), ((ad 95), .inl (t.1, 24, .inl (fun _ => 0))), ((ad 96), .inl (t.1, 24, .inl (fun _ => 0))), ((ad 97), .inl (t.1, 24, .inl (fun _ => 0))), ((ad 98), .inl (t.1, 24, .inl (fun _ => 0))), ((ad 99), .inl (t.1, 24, .inl (fun _ => 0))), ((ad 100), .inl (t.1, 24, .inl (fun _ => 0))), ((ad 101), .inl (t.1, 24, .inl (fun _ => 0))), ((ad 102), .inl (t.1, 24, .inl (fun _ => 0))), ((ad 103), .inl (t.1, 24, .inl (fun _ => 0))), ((ad 104), .inl (t.1, 24, .inl (fun _ => 0))), ((ad 105), .inl (t.1, 24, .inl (fun _ => 0))), ((ad 106), .inl (t.1, 24, .inl (fun _ => 0))), ((ad 107), .inl (t.1, 24, .inl (fun _ => 0))), ((ad 108), .inl (t.1, 24, .inl (fun _ => 0))), ((ad 109), .inl (t.1, 24, .inl (fun _ => 0))), ((ad 110), .inl (t.1, 24, .inl (fun _ => 0))), ((ad 111), .inl (t.1, 24, .inl (fun _ => 0))), ((ad 112), .inl (t.1, 24, .inl (fun _ => 0))), ((ad 113), .inl (t.1, 24, .inl (fun _ => 0))), ((ad 114), .inl (t.1, 24, .inl (fun _ => 0)))]
set_option maxHeartbeats 8000000 in
set_option maxRecDepth 100000 in
theorem asm_P {D : va_G} {t : ClassId × ClassId × ClassId} {ad f0 f1 : Nat → Nat} {H : Heap} (h0 : ∀ i, i < 24 → f0 i = ad (27 + i)) (h1 : ∀ i, i < 24 → f1 i = ad (51 + i)) (hP : va_P D vwCl (asmL t ad f0 f1) H) : va_P D vwCl (wl (D, fun c i => ad (bas c + i), t, 115) mm0) H := by
  have s0 : ∀ k, k < 0 → wlP (D, fun c i => ad (bas c + i), t, 115) mm0 H k := fun k h => absurd h (Nat.not_lt_zero k)
  have s1 : ∀ k, k < 1 → wlP (D, fun c i => ad (bas c + i), t, 115) mm0 H k := fls s0 (hP 0 _ rfl)
  have s2 : ∀ k, k < 2 → wlP (D, fun c i => ad (bas c + i), t, 115) mm0 H k := fls s1 (hP 1 _ rfl)
  have s3 : ∀ k, k < 3 → wlP (D, fun c i => ad (bas c + i), t, 115) mm0 H k := fls s2 (q_cell (hP 2 _ rfl) (fun i hi => by rcases (show i = 0 ∨ i = 1 ∨ i = 2 ∨ i = 3 ∨ i = 4 ∨ i = 5 ∨ i = 6 ∨ i = 7 by omega) with rfl | rfl | rfl | rfl | rfl | rfl | rfl | rfl <;> rfl))
  have s4 : ∀ k, k < 4 → wlP (D, fun c i => ad (bas c + i), t, 115) mm0 H k := fls s3 (hP 3 _ rfl)
  have s5 : ∀ k, k < 5 → wlP (D, fun c i => ad (bas c + i), t, 115) mm0 H k := fls s4 (hP 4 _ rfl)
  have s6 : ∀ k, k < 6 → wlP (D, fun c i => ad (bas c + i), t, 115) mm0 H k := fls s5 (hP 5 _ rfl)
  have s7 : ∀ k, k < 7 → wlP (D, fun c i => ad (bas c + i), t, 115) mm0 H k := fls s6 (hP 6 _ rfl)
  have s8 : ∀ k, k < 8 → wlP (D, fun c i => ad (bas c + i), t, 115) mm0 H k := fls s7 (hP 7 _ rfl)
  have s9 : ∀ k, k < 9 → wlP (D, fun c i => ad (bas c + i), t, 115) mm0 H k := fls s8 (hP 8 _ rfl)
  have s10 : ∀ k, k < 10 → wlP (D, fun c i => ad (bas c + i), t, 115) mm0 H k := fls s9 (q_cell (hP 9 _ rfl) (fun i hi => by rw [if_pos hi, h0 i hi]; exact congrArg (fun z => some (ad z)) (show 27 + i = 27 + (24 * 0 + i) by omega)))
  have s11 : ∀ k, k < 11 → wlP (D, fun c i => ad (bas c + i), t, 115) mm0 H k := fls s10 (q_cell (hP 10 _ rfl) (fun i hi => by rw [if_pos hi, h1 i hi]; exact congrArg (fun z => some (ad z)) (show 51 + i = 27 + (24 * 1 + i) by omega)))
  have s12 : ∀ k, k < 12 → wlP (D, fun c i => ad (bas c + i), t, 115) mm0 H k := fls s11 (hP 11 _ rfl)
  have s13 : ∀ k, k < 13 → wlP (D, fun c i => ad (bas c + i), t, 115) mm0 H k := fls s12 (hP 12 _ rfl)
  have s14 : ∀ k, k < 14 → wlP (D, fun c i => ad (bas c + i), t, 115) mm0 H k := fls s13 (hP 13 _ rfl)
  have s15 : ∀ k, k < 15 → wlP (D, fun c i => ad (bas c + i), t, 115) mm0 H k := fls s14 (hP 14 _ rfl)
  have s16 : ∀ k, k < 16 → wlP (D, fun c i => ad (bas c + i), t, 115) mm0 H k := fls s15 (hP 15 _ rfl)
  have s17 : ∀ k, k < 17 → wlP (D, fun c i => ad (bas c + i), t, 115) mm0 H k := fls s16 (hP 16 _ rfl)
  have s18 : ∀ k, k < 18 → wlP (D, fun c i => ad (bas c + i), t, 115) mm0 H k := fls s17 (hP 17 _ rfl)
  have s19 : ∀ k, k < 19 → wlP (D, fun c i => ad (bas c + i), t, 115) mm0 H k := fls s18 (hP 18 _ rfl)
  have s20 : ∀ k, k < 20 → wlP (D, fun c i => ad (bas c + i), t, 115) mm0 H k := fls s19 (hP 19 _ rfl)
  have s21 : ∀ k, k < 21 → wlP (D, fun c i => ad (bas c + i), t, 115) mm0 H k := fls s20 (hP 20 _ rfl)
  have s22 : ∀ k, k < 22 → wlP (D, fun c i => ad (bas c + i), t, 115) mm0 H k := fls s21 (hP 21 _ rfl)
  have s23 : ∀ k, k < 23 → wlP (D, fun c i => ad (bas c + i), t, 115) mm0 H k := fls s22 (hP 22 _ rfl)
  have s24 : ∀ k, k < 24 → wlP (D, fun c i => ad (bas c + i), t, 115) mm0 H k := fls s23 (hP 23 _ rfl)
  have s25 : ∀ k, k < 25 → wlP (D, fun c i => ad (bas c + i), t, 115) mm0 H k := fls s24 (hP 24 _ rfl)
  have s26 : ∀ k, k < 26 → wlP (D, fun c i => ad (bas c + i), t, 115) mm0 H k := fls s25 (hP 25 _ rfl)
  have s27 : ∀ k, k < 27 → wlP (D, fun c i => ad (bas c + i), t, 115) mm0 H k := fls s26 (hP 26 _ rfl)
  have s28 : ∀ k, k < 28 → wlP (D, fun c i => ad (bas c + i), t, 115) mm0 H k := fls s27 (hP 27 _ rfl)
  have s29 : ∀ k, k < 29 → wlP (D, fun c i => ad (bas c + i), t, 115) mm0 H k := fls s28 (hP 28 _ rfl)
  have s30 : ∀ k, k < 30 → wlP (D, fun c i => ad (bas c + i), t, 115) mm0 H k := fls s29 (hP 29 _ rfl)
  have s31 : ∀ k, k < 31 → wlP (D, fun c i => ad (bas c + i), t, 115) mm0 H k := fls s30 (hP 30 _ rfl)
  have s32 : ∀ k, k < 32 → wlP (D, fun c i => ad (bas c + i), t, 115) mm0 H k := fls s31 (hP 31 _ rfl)
  have s33 : ∀ k, k < 33 → wlP (D, fun c i => ad (bas c + i), t, 115) mm0 H k := fls s32 (hP 32 _ rfl)
  have s34 : ∀ k, k < 34 → wlP (D, fun c i => ad (bas c + i), t, 115) mm0 H k := fls s33 (hP 33 _ rfl)
  have s35 : ∀ k, k < 35 → wlP (D, fun c i => ad (bas c + i), t, 115) mm0 H k := fls s34 (hP 34 _ rfl)
  have s36 : ∀ k, k < 36 → wlP (D, fun c i => ad (bas c + i), t, 115) mm0 H k := fls s35 (hP 35 _ rfl)
  have s37 : ∀ k, k < 37 → wlP (D, fun c i => ad (bas c + i), t, 115) mm0 H k := fls s36 (hP 36 _ rfl)
  have s38 : ∀ k, k < 38 → wlP (D, fun c i => ad (bas c + i), t, 115) mm0 H k := fls s37 (hP 37 _ rfl)
  have s39 : ∀ k, k < 39 → wlP (D, fun c i => ad (bas c + i), t, 115) mm0 H k := fls s38 (hP 38 _ rfl)
  have s40 : ∀ k, k < 40 → wlP (D, fun c i => ad (bas c + i), t, 115) mm0 H k := fls s39 (hP 39 _ rfl)
  have s41 : ∀ k, k < 41 → wlP (D, fun c i => ad (bas c + i), t, 115) mm0 H k := fls s40 (hP 40 _ rfl)
  have s42 : ∀ k, k < 42 → wlP (D, fun c i => ad (bas c + i), t, 115) mm0 H k := fls s41 (hP 41 _ rfl)
  have s43 : ∀ k, k < 43 → wlP (D, fun c i => ad (bas c + i), t, 115) mm0 H k := fls s42 (hP 42 _ rfl)
  have s44 : ∀ k, k < 44 → wlP (D, fun c i => ad (bas c + i), t, 115) mm0 H k := fls s43 (hP 43 _ rfl)
  have s45 : ∀ k, k < 45 → wlP (D, fun c i => ad (bas c + i), t, 115) mm0 H k := fls s44 (hP 44 _ rfl)
  have s46 : ∀ k, k < 46 → wlP (D, fun c i => ad (bas c + i), t, 115) mm0 H k := fls s45 (hP 45 _ rfl)
  have s47 : ∀ k, k < 47 → wlP (D, fun c i => ad (bas c + i), t, 115) mm0 H k := fls s46 (hP 46 _ rfl)
  have s48 : ∀ k, k < 48 → wlP (D, fun c i => ad (bas c + i), t, 115) mm0 H k := fls s47 (hP 47 _ rfl)
  have s49 : ∀ k, k < 49 → wlP (D, fun c i => ad (bas c + i), t, 115) mm0 H k := fls s48 (hP 48 _ rfl)
  have s50 : ∀ k, k < 50 → wlP (D, fun c i => ad (bas c + i), t, 115) mm0 H k := fls s49 (hP 49 _ rfl)
  have s51 : ∀ k, k < 51 → wlP (D, fun c i => ad (bas c + i), t, 115) mm0 H k := fls s50 (hP 50 _ rfl)
  have s52 : ∀ k, k < 52 → wlP (D, fun c i => ad (bas c + i), t, 115) mm0 H k := fls s51 (hP 51 _ rfl)
  have s53 : ∀ k, k < 53 → wlP (D, fun c i => ad (bas c + i), t, 115) mm0 H k := fls s52 (hP 52 _ rfl)
  have s54 : ∀ k, k < 54 → wlP (D, fun c i => ad (bas c + i), t, 115) mm0 H k := fls s53 (hP 53 _ rfl)
  have s55 : ∀ k, k < 55 → wlP (D, fun c i => ad (bas c + i), t, 115) mm0 H k := fls s54 (hP 54 _ rfl)
  have s56 : ∀ k, k < 56 → wlP (D, fun c i => ad (bas c + i), t, 115) mm0 H k := fls s55 (hP 55 _ rfl)
  have s57 : ∀ k, k < 57 → wlP (D, fun c i => ad (bas c + i), t, 115) mm0 H k := fls s56 (hP 56 _ rfl)
  have s58 : ∀ k, k < 58 → wlP (D, fun c i => ad (bas c + i), t, 115) mm0 H k := fls s57 (hP 57 _ rfl)
  have s59 : ∀ k, k < 59 → wlP (D, fun c i => ad (bas c + i), t, 115) mm0 H k := fls s58 (hP 58 _ rfl)
  have s60 : ∀ k, k < 60 → wlP (D, fun c i => ad (bas c + i), t, 115) mm0 H k := fls s59 (hP 59 _ rfl)
  have s61 : ∀ k, k < 61 → wlP (D, fun c i => ad (bas c + i), t, 115) mm0 H k := fls s60 (hP 60 _ rfl)
  have s62 : ∀ k, k < 62 → wlP (D, fun c i => ad (bas c + i), t, 115) mm0 H k := fls s61 (hP 61 _ rfl)
  have s63 : ∀ k, k < 63 → wlP (D, fun c i => ad (bas c + i), t, 115) mm0 H k := fls s62 (hP 62 _ rfl)
  have s64 : ∀ k, k < 64 → wlP (D, fun c i => ad (bas c + i), t, 115) mm0 H k := fls s63 (hP 63 _ rfl)
  have s65 : ∀ k, k < 65 → wlP (D, fun c i => ad (bas c + i), t, 115) mm0 H k := fls s64 (hP 64 _ rfl)
  have s66 : ∀ k, k < 66 → wlP (D, fun c i => ad (bas c + i), t, 115) mm0 H k := fls s65 (hP 65 _ rfl)
  have s67 : ∀ k, k < 67 → wlP (D, fun c i => ad (bas c + i), t, 115) mm0 H k := fls s66 (hP 66 _ rfl)
  have s68 : ∀ k, k < 68 → wlP (D, fun c i => ad (bas c + i), t, 115) mm0 H k := fls s67 (hP 67 _ rfl)
  have s69 : ∀ k, k < 69 → wlP (D, fun c i => ad (bas c + i), t, 115) mm0 H k := fls s68 (hP 68 _ rfl)
  have s70 : ∀ k, k < 70 → wlP (D, fun c i => ad (bas c + i), t, 115) mm0 H k := fls s69 (hP 69 _ rfl)
  have s71 : ∀ k, k < 71 → wlP (D, fun c i => ad (bas c + i), t, 115) mm0 H k := fls s70 (hP 70 _ rfl)
  have s72 : ∀ k, k < 72 → wlP (D, fun c i => ad (bas c + i), t, 115) mm0 H k := fls s71 (hP 71 _ rfl)
  have s73 : ∀ k, k < 73 → wlP (D, fun c i => ad (bas c + i), t, 115) mm0 H k := fls s72 (hP 72 _ rfl)
  have s74 : ∀ k, k < 74 → wlP (D, fun c i => ad (bas c + i), t, 115) mm0 H k := fls s73 (hP 73 _ rfl)
  have s75 : ∀ k, k < 75 → wlP (D, fun c i => ad (bas c + i), t, 115) mm0 H k := fls s74 (hP 74 _ rfl)
  have s76 : ∀ k, k < 76 → wlP (D, fun c i => ad (bas c + i), t, 115) mm0 H k := fls s75 (hP 75 _ rfl)
  have s77 : ∀ k, k < 77 → wlP (D, fun c i => ad (bas c + i), t, 115) mm0 H k := fls s76 (hP 76 _ rfl)
  have s78 : ∀ k, k < 78 → wlP (D, fun c i => ad (bas c + i), t, 115) mm0 H k := fls s77 (hP 77 _ rfl)
  have s79 : ∀ k, k < 79 → wlP (D, fun c i => ad (bas c + i), t, 115) mm0 H k := fls s78 (hP 78 _ rfl)
  have s80 : ∀ k, k < 80 → wlP (D, fun c i => ad (bas c + i), t, 115) mm0 H k := fls s79 (hP 79 _ rfl)
  have s81 : ∀ k, k < 81 → wlP (D, fun c i => ad (bas c + i), t, 115) mm0 H k := fls s80 (hP 80 _ rfl)
  have s82 : ∀ k, k < 82 → wlP (D, fun c i => ad (bas c + i), t, 115) mm0 H k := fls s81 (hP 81 _ rfl)
  have s83 : ∀ k, k < 83 → wlP (D, fun c i => ad (bas c + i), t, 115) mm0 H k := fls s82 (hP 82 _ rfl)
  have s84 : ∀ k, k < 84 → wlP (D, fun c i => ad (bas c + i), t, 115) mm0 H k := fls s83 (hP 83 _ rfl)
  have s85 : ∀ k, k < 85 → wlP (D, fun c i => ad (bas c + i), t, 115) mm0 H k := fls s84 (hP 84 _ rfl)
  have s86 : ∀ k, k < 86 → wlP (D, fun c i => ad (bas c + i), t, 115) mm0 H k := fls s85 (hP 85 _ rfl)
  have s87 : ∀ k, k < 87 → wlP (D, fun c i => ad (bas c + i), t, 115) mm0 H k := fls s86 (hP 86 _ rfl)
  have s88 : ∀ k, k < 88 → wlP (D, fun c i => ad (bas c + i), t, 115) mm0 H k := fls s87 (hP 87 _ rfl)
  have s89 : ∀ k, k < 89 → wlP (D, fun c i => ad (bas c + i), t, 115) mm0 H k := fls s88 (hP 88 _ rfl)
  have s90 : ∀ k, k < 90 → wlP (D, fun c i => ad (bas c + i), t, 115) mm0 H k := fls s89 (hP 89 _ rfl)
  have s91 : ∀ k, k < 91 → wlP (D, fun c i => ad (bas c + i), t, 115) mm0 H k := fls s90 (hP 90 _ rfl)
  have s92 : ∀ k, k < 92 → wlP (D, fun c i => ad (bas c + i), t, 115) mm0 H k := fls s91 (hP 91 _ rfl)
  have s93 : ∀ k, k < 93 → wlP (D, fun c i => ad (bas c + i), t, 115) mm0 H k := fls s92 (hP 92 _ rfl)
  have s94 : ∀ k, k < 94 → wlP (D, fun c i => ad (bas c + i), t, 115) mm0 H k := fls s93 (hP 93 _ rfl)
  have s95 : ∀ k, k < 95 → wlP (D, fun c i => ad (bas c + i), t, 115) mm0 H k := fls s94 (hP 94 _ rfl)
  have s96 : ∀ k, k < 96 → wlP (D, fun c i => ad (bas c + i), t, 115) mm0 H k := fls s95 (hP 95 _ rfl)
  have s97 : ∀ k, k < 97 → wlP (D, fun c i => ad (bas c + i), t, 115) mm0 H k := fls s96 (hP 96 _ rfl)
  have s98 : ∀ k, k < 98 → wlP (D, fun c i => ad (bas c + i), t, 115) mm0 H k := fls s97 (hP 97 _ rfl)
  have s99 : ∀ k, k < 99 → wlP (D, fun c i => ad (bas c + i), t, 115) mm0 H k := fls s98 (hP 98 _ rfl)
  have s100 : ∀ k, k < 100 → wlP (D, fun c i => ad (bas c + i), t, 115) mm0 H k := fls s99 (hP 99 _ rfl)
  have s101 : ∀ k, k < 101 → wlP (D, fun c i => ad (bas c + i), t, 115) mm0 H k := fls s100 (hP 100 _ rfl)
  have s102 : ∀ k, k < 102 → wlP (D, fun c i => ad (bas c + i), t, 115) mm0 H k := fls s101 (hP 101 _ rfl)
  have s103 : ∀ k, k < 103 → wlP (D, fun c i => ad (bas c + i), t, 115) mm0 H k := fls s102 (hP 102 _ rfl)
  have s104 : ∀ k, k < 104 → wlP (D, fun c i => ad (bas c + i), t, 115) mm0 H k := fls s103 (hP 103 _ rfl)
  have s105 : ∀ k, k < 105 → wlP (D, fun c i => ad (bas c + i), t, 115) mm0 H k := fls s104 (hP 104 _ rfl)
  have s106 : ∀ k, k < 106 → wlP (D, fun c i => ad (bas c + i), t, 115) mm0 H k := fls s105 (hP 105 _ rfl)
  have s107 : ∀ k, k < 107 → wlP (D, fun c i => ad (bas c + i), t, 115) mm0 H k := fls s106 (hP 106 _ rfl)
  have s108 : ∀ k, k < 108 → wlP (D, fun c i => ad (bas c + i), t, 115) mm0 H k := fls s107 (hP 107 _ rfl)
  have s109 : ∀ k, k < 109 → wlP (D, fun c i => ad (bas c + i), t, 115) mm0 H k := fls s108 (hP 108 _ rfl)
  have s110 : ∀ k, k < 110 → wlP (D, fun c i => ad (bas c + i), t, 115) mm0 H k := fls s109 (hP 109 _ rfl)
  have s111 : ∀ k, k < 111 → wlP (D, fun c i => ad (bas c + i), t, 115) mm0 H k := fls s110 (hP 110 _ rfl)
  have s112 : ∀ k, k < 112 → wlP (D, fun c i => ad (bas c + i), t, 115) mm0 H k := fls s111 (hP 111 _ rfl)
  have s113 : ∀ k, k < 113 → wlP (D, fun c i => ad (bas c + i), t, 115) mm0 H k := fls s112 (hP 112 _ rfl)
  have s114 : ∀ k, k < 114 → wlP (D, fun c i => ad (bas c + i), t, 115) mm0 H k := fls s113 (hP 113 _ rfl)
  have s115 : ∀ k, k < 115 → wlP (D, fun c i => ad (bas c + i), t, 115) mm0 H k := fls s114 (hP 114 _ rfl)
  exact wl_intro (o := (D, fun c i => ad (bas c + i), t, 115)) s115
theorem kd_115 : ∀ k, k < 115 → bas (kd k) + (k - bas (kd k)) = k := by decide +kernel
set_option maxHeartbeats 8000000 in
set_option maxRecDepth 100000 in
theorem asm_D {D : va_G} {t : ClassId × ClassId × ClassId} {ad f0 f1 : Nat → Nat} {A : Nat → Prop} (hD : va_D A (asmL t ad f0 f1)) : va_D A (wl (D, fun c i => ad (bas c + i), t, 115) mm0) := by
  have hg : ∀ k, k < 115 → ∃ e, (asmL t ad f0 f1)[k]? = some (ad k, e) := by
    have s0 : ∀ k, k < 0 → ∃ e, (asmL t ad f0 f1)[k]? = some (ad k, e) := fun k h => absurd h (Nat.not_lt_zero k)
    have s1 : ∀ k, k < 1 → ∃ e, (asmL t ad f0 f1)[k]? = some (ad k, e) := fls s0 ⟨_, rfl⟩
    have s2 : ∀ k, k < 2 → ∃ e, (asmL t ad f0 f1)[k]? = some (ad k, e) := fls s1 ⟨_, rfl⟩
    have s3 : ∀ k, k < 3 → ∃ e, (asmL t ad f0 f1)[k]? = some (ad k, e) := fls s2 ⟨_, rfl⟩
    have s4 : ∀ k, k < 4 → ∃ e, (asmL t ad f0 f1)[k]? = some (ad k, e) := fls s3 ⟨_, rfl⟩
    have s5 : ∀ k, k < 5 → ∃ e, (asmL t ad f0 f1)[k]? = some (ad k, e) := fls s4 ⟨_, rfl⟩
    have s6 : ∀ k, k < 6 → ∃ e, (asmL t ad f0 f1)[k]? = some (ad k, e) := fls s5 ⟨_, rfl⟩
    have s7 : ∀ k, k < 7 → ∃ e, (asmL t ad f0 f1)[k]? = some (ad k, e) := fls s6 ⟨_, rfl⟩
    have s8 : ∀ k, k < 8 → ∃ e, (asmL t ad f0 f1)[k]? = some (ad k, e) := fls s7 ⟨_, rfl⟩
    have s9 : ∀ k, k < 9 → ∃ e, (asmL t ad f0 f1)[k]? = some (ad k, e) := fls s8 ⟨_, rfl⟩
    have s10 : ∀ k, k < 10 → ∃ e, (asmL t ad f0 f1)[k]? = some (ad k, e) := fls s9 ⟨_, rfl⟩
    have s11 : ∀ k, k < 11 → ∃ e, (asmL t ad f0 f1)[k]? = some (ad k, e) := fls s10 ⟨_, rfl⟩
    have s12 : ∀ k, k < 12 → ∃ e, (asmL t ad f0 f1)[k]? = some (ad k, e) := fls s11 ⟨_, rfl⟩
    have s13 : ∀ k, k < 13 → ∃ e, (asmL t ad f0 f1)[k]? = some (ad k, e) := fls s12 ⟨_, rfl⟩
    have s14 : ∀ k, k < 14 → ∃ e, (asmL t ad f0 f1)[k]? = some (ad k, e) := fls s13 ⟨_, rfl⟩
    have s15 : ∀ k, k < 15 → ∃ e, (asmL t ad f0 f1)[k]? = some (ad k, e) := fls s14 ⟨_, rfl⟩
    have s16 : ∀ k, k < 16 → ∃ e, (asmL t ad f0 f1)[k]? = some (ad k, e) := fls s15 ⟨_, rfl⟩
    have s17 : ∀ k, k < 17 → ∃ e, (asmL t ad f0 f1)[k]? = some (ad k, e) := fls s16 ⟨_, rfl⟩
    have s18 : ∀ k, k < 18 → ∃ e, (asmL t ad f0 f1)[k]? = some (ad k, e) := fls s17 ⟨_, rfl⟩
    have s19 : ∀ k, k < 19 → ∃ e, (asmL t ad f0 f1)[k]? = some (ad k, e) := fls s18 ⟨_, rfl⟩
    have s20 : ∀ k, k < 20 → ∃ e, (asmL t ad f0 f1)[k]? = some (ad k, e) := fls s19 ⟨_, rfl⟩
    have s21 : ∀ k, k < 21 → ∃ e, (asmL t ad f0 f1)[k]? = some (ad k, e) := fls s20 ⟨_, rfl⟩
    have s22 : ∀ k, k < 22 → ∃ e, (asmL t ad f0 f1)[k]? = some (ad k, e) := fls s21 ⟨_, rfl⟩
    have s23 : ∀ k, k < 23 → ∃ e, (asmL t ad f0 f1)[k]? = some (ad k, e) := fls s22 ⟨_, rfl⟩
    have s24 : ∀ k, k < 24 → ∃ e, (asmL t ad f0 f1)[k]? = some (ad k, e) := fls s23 ⟨_, rfl⟩
    have s25 : ∀ k, k < 25 → ∃ e, (asmL t ad f0 f1)[k]? = some (ad k, e) := fls s24 ⟨_, rfl⟩
    have s26 : ∀ k, k < 26 → ∃ e, (asmL t ad f0 f1)[k]? = some (ad k, e) := fls s25 ⟨_, rfl⟩
    have s27 : ∀ k, k < 27 → ∃ e, (asmL t ad f0 f1)[k]? = some (ad k, e) := fls s26 ⟨_, rfl⟩
    have s28 : ∀ k, k < 28 → ∃ e, (asmL t ad f0 f1)[k]? = some (ad k, e) := fls s27 ⟨_, rfl⟩
    have s29 : ∀ k, k < 29 → ∃ e, (asmL t ad f0 f1)[k]? = some (ad k, e) := fls s28 ⟨_, rfl⟩
    have s30 : ∀ k, k < 30 → ∃ e, (asmL t ad f0 f1)[k]? = some (ad k, e) := fls s29 ⟨_, rfl⟩
    have s31 : ∀ k, k < 31 → ∃ e, (asmL t ad f0 f1)[k]? = some (ad k, e) := fls s30 ⟨_, rfl⟩
    have s32 : ∀ k, k < 32 → ∃ e, (asmL t ad f0 f1)[k]? = some (ad k, e) := fls s31 ⟨_, rfl⟩
    have s33 : ∀ k, k < 33 → ∃ e, (asmL t ad f0 f1)[k]? = some (ad k, e) := fls s32 ⟨_, rfl⟩
    have s34 : ∀ k, k < 34 → ∃ e, (asmL t ad f0 f1)[k]? = some (ad k, e) := fls s33 ⟨_, rfl⟩
    have s35 : ∀ k, k < 35 → ∃ e, (asmL t ad f0 f1)[k]? = some (ad k, e) := fls s34 ⟨_, rfl⟩
    have s36 : ∀ k, k < 36 → ∃ e, (asmL t ad f0 f1)[k]? = some (ad k, e) := fls s35 ⟨_, rfl⟩
    have s37 : ∀ k, k < 37 → ∃ e, (asmL t ad f0 f1)[k]? = some (ad k, e) := fls s36 ⟨_, rfl⟩
    have s38 : ∀ k, k < 38 → ∃ e, (asmL t ad f0 f1)[k]? = some (ad k, e) := fls s37 ⟨_, rfl⟩
    have s39 : ∀ k, k < 39 → ∃ e, (asmL t ad f0 f1)[k]? = some (ad k, e) := fls s38 ⟨_, rfl⟩
    have s40 : ∀ k, k < 40 → ∃ e, (asmL t ad f0 f1)[k]? = some (ad k, e) := fls s39 ⟨_, rfl⟩
    have s41 : ∀ k, k < 41 → ∃ e, (asmL t ad f0 f1)[k]? = some (ad k, e) := fls s40 ⟨_, rfl⟩
    have s42 : ∀ k, k < 42 → ∃ e, (asmL t ad f0 f1)[k]? = some (ad k, e) := fls s41 ⟨_, rfl⟩
    have s43 : ∀ k, k < 43 → ∃ e, (asmL t ad f0 f1)[k]? = some (ad k, e) := fls s42 ⟨_, rfl⟩
    have s44 : ∀ k, k < 44 → ∃ e, (asmL t ad f0 f1)[k]? = some (ad k, e) := fls s43 ⟨_, rfl⟩
    have s45 : ∀ k, k < 45 → ∃ e, (asmL t ad f0 f1)[k]? = some (ad k, e) := fls s44 ⟨_, rfl⟩
    have s46 : ∀ k, k < 46 → ∃ e, (asmL t ad f0 f1)[k]? = some (ad k, e) := fls s45 ⟨_, rfl⟩
    have s47 : ∀ k, k < 47 → ∃ e, (asmL t ad f0 f1)[k]? = some (ad k, e) := fls s46 ⟨_, rfl⟩
    have s48 : ∀ k, k < 48 → ∃ e, (asmL t ad f0 f1)[k]? = some (ad k, e) := fls s47 ⟨_, rfl⟩
    have s49 : ∀ k, k < 49 → ∃ e, (asmL t ad f0 f1)[k]? = some (ad k, e) := fls s48 ⟨_, rfl⟩
    have s50 : ∀ k, k < 50 → ∃ e, (asmL t ad f0 f1)[k]? = some (ad k, e) := fls s49 ⟨_, rfl⟩
    have s51 : ∀ k, k < 51 → ∃ e, (asmL t ad f0 f1)[k]? = some (ad k, e) := fls s50 ⟨_, rfl⟩
    have s52 : ∀ k, k < 52 → ∃ e, (asmL t ad f0 f1)[k]? = some (ad k, e) := fls s51 ⟨_, rfl⟩
    have s53 : ∀ k, k < 53 → ∃ e, (asmL t ad f0 f1)[k]? = some (ad k, e) := fls s52 ⟨_, rfl⟩
    have s54 : ∀ k, k < 54 → ∃ e, (asmL t ad f0 f1)[k]? = some (ad k, e) := fls s53 ⟨_, rfl⟩
    have s55 : ∀ k, k < 55 → ∃ e, (asmL t ad f0 f1)[k]? = some (ad k, e) := fls s54 ⟨_, rfl⟩
    have s56 : ∀ k, k < 56 → ∃ e, (asmL t ad f0 f1)[k]? = some (ad k, e) := fls s55 ⟨_, rfl⟩
    have s57 : ∀ k, k < 57 → ∃ e, (asmL t ad f0 f1)[k]? = some (ad k, e) := fls s56 ⟨_, rfl⟩
    have s58 : ∀ k, k < 58 → ∃ e, (asmL t ad f0 f1)[k]? = some (ad k, e) := fls s57 ⟨_, rfl⟩
    have s59 : ∀ k, k < 59 → ∃ e, (asmL t ad f0 f1)[k]? = some (ad k, e) := fls s58 ⟨_, rfl⟩
    have s60 : ∀ k, k < 60 → ∃ e, (asmL t ad f0 f1)[k]? = some (ad k, e) := fls s59 ⟨_, rfl⟩
    have s61 : ∀ k, k < 61 → ∃ e, (asmL t ad f0 f1)[k]? = some (ad k, e) := fls s60 ⟨_, rfl⟩
    have s62 : ∀ k, k < 62 → ∃ e, (asmL t ad f0 f1)[k]? = some (ad k, e) := fls s61 ⟨_, rfl⟩
    have s63 : ∀ k, k < 63 → ∃ e, (asmL t ad f0 f1)[k]? = some (ad k, e) := fls s62 ⟨_, rfl⟩
    have s64 : ∀ k, k < 64 → ∃ e, (asmL t ad f0 f1)[k]? = some (ad k, e) := fls s63 ⟨_, rfl⟩
    have s65 : ∀ k, k < 65 → ∃ e, (asmL t ad f0 f1)[k]? = some (ad k, e) := fls s64 ⟨_, rfl⟩
    have s66 : ∀ k, k < 66 → ∃ e, (asmL t ad f0 f1)[k]? = some (ad k, e) := fls s65 ⟨_, rfl⟩
    have s67 : ∀ k, k < 67 → ∃ e, (asmL t ad f0 f1)[k]? = some (ad k, e) := fls s66 ⟨_, rfl⟩
    have s68 : ∀ k, k < 68 → ∃ e, (asmL t ad f0 f1)[k]? = some (ad k, e) := fls s67 ⟨_, rfl⟩
    have s69 : ∀ k, k < 69 → ∃ e, (asmL t ad f0 f1)[k]? = some (ad k, e) := fls s68 ⟨_, rfl⟩
    have s70 : ∀ k, k < 70 → ∃ e, (asmL t ad f0 f1)[k]? = some (ad k, e) := fls s69 ⟨_, rfl⟩
    have s71 : ∀ k, k < 71 → ∃ e, (asmL t ad f0 f1)[k]? = some (ad k, e) := fls s70 ⟨_, rfl⟩
    have s72 : ∀ k, k < 72 → ∃ e, (asmL t ad f0 f1)[k]? = some (ad k, e) := fls s71 ⟨_, rfl⟩
    have s73 : ∀ k, k < 73 → ∃ e, (asmL t ad f0 f1)[k]? = some (ad k, e) := fls s72 ⟨_, rfl⟩
    have s74 : ∀ k, k < 74 → ∃ e, (asmL t ad f0 f1)[k]? = some (ad k, e) := fls s73 ⟨_, rfl⟩
    have s75 : ∀ k, k < 75 → ∃ e, (asmL t ad f0 f1)[k]? = some (ad k, e) := fls s74 ⟨_, rfl⟩
    have s76 : ∀ k, k < 76 → ∃ e, (asmL t ad f0 f1)[k]? = some (ad k, e) := fls s75 ⟨_, rfl⟩
    have s77 : ∀ k, k < 77 → ∃ e, (asmL t ad f0 f1)[k]? = some (ad k, e) := fls s76 ⟨_, rfl⟩
    have s78 : ∀ k, k < 78 → ∃ e, (asmL t ad f0 f1)[k]? = some (ad k, e) := fls s77 ⟨_, rfl⟩
    have s79 : ∀ k, k < 79 → ∃ e, (asmL t ad f0 f1)[k]? = some (ad k, e) := fls s78 ⟨_, rfl⟩
    have s80 : ∀ k, k < 80 → ∃ e, (asmL t ad f0 f1)[k]? = some (ad k, e) := fls s79 ⟨_, rfl⟩
    have s81 : ∀ k, k < 81 → ∃ e, (asmL t ad f0 f1)[k]? = some (ad k, e) := fls s80 ⟨_, rfl⟩
    have s82 : ∀ k, k < 82 → ∃ e, (asmL t ad f0 f1)[k]? = some (ad k, e) := fls s81 ⟨_, rfl⟩
    have s83 : ∀ k, k < 83 → ∃ e, (asmL t ad f0 f1)[k]? = some (ad k, e) := fls s82 ⟨_, rfl⟩
    have s84 : ∀ k, k < 84 → ∃ e, (asmL t ad f0 f1)[k]? = some (ad k, e) := fls s83 ⟨_, rfl⟩
    have s85 : ∀ k, k < 85 → ∃ e, (asmL t ad f0 f1)[k]? = some (ad k, e) := fls s84 ⟨_, rfl⟩
    have s86 : ∀ k, k < 86 → ∃ e, (asmL t ad f0 f1)[k]? = some (ad k, e) := fls s85 ⟨_, rfl⟩
    have s87 : ∀ k, k < 87 → ∃ e, (asmL t ad f0 f1)[k]? = some (ad k, e) := fls s86 ⟨_, rfl⟩
    have s88 : ∀ k, k < 88 → ∃ e, (asmL t ad f0 f1)[k]? = some (ad k, e) := fls s87 ⟨_, rfl⟩
    have s89 : ∀ k, k < 89 → ∃ e, (asmL t ad f0 f1)[k]? = some (ad k, e) := fls s88 ⟨_, rfl⟩
    have s90 : ∀ k, k < 90 → ∃ e, (asmL t ad f0 f1)[k]? = some (ad k, e) := fls s89 ⟨_, rfl⟩
    have s91 : ∀ k, k < 91 → ∃ e, (asmL t ad f0 f1)[k]? = some (ad k, e) := fls s90 ⟨_, rfl⟩
    have s92 : ∀ k, k < 92 → ∃ e, (asmL t ad f0 f1)[k]? = some (ad k, e) := fls s91 ⟨_, rfl⟩
    have s93 : ∀ k, k < 93 → ∃ e, (asmL t ad f0 f1)[k]? = some (ad k, e) := fls s92 ⟨_, rfl⟩
    have s94 : ∀ k, k < 94 → ∃ e, (asmL t ad f0 f1)[k]? = some (ad k, e) := fls s93 ⟨_, rfl⟩
    have s95 : ∀ k, k < 95 → ∃ e, (asmL t ad f0 f1)[k]? = some (ad k, e) := fls s94 ⟨_, rfl⟩
    have s96 : ∀ k, k < 96 → ∃ e, (asmL t ad f0 f1)[k]? = some (ad k, e) := fls s95 ⟨_, rfl⟩
    have s97 : ∀ k, k < 97 → ∃ e, (asmL t ad f0 f1)[k]? = some (ad k, e) := fls s96 ⟨_, rfl⟩
    have s98 : ∀ k, k < 98 → ∃ e, (asmL t ad f0 f1)[k]? = some (ad k, e) := fls s97 ⟨_, rfl⟩
    have s99 : ∀ k, k < 99 → ∃ e, (asmL t ad f0 f1)[k]? = some (ad k, e) := fls s98 ⟨_, rfl⟩
    have s100 : ∀ k, k < 100 → ∃ e, (asmL t ad f0 f1)[k]? = some (ad k, e) := fls s99 ⟨_, rfl⟩
    have s101 : ∀ k, k < 101 → ∃ e, (asmL t ad f0 f1)[k]? = some (ad k, e) := fls s100 ⟨_, rfl⟩
    have s102 : ∀ k, k < 102 → ∃ e, (asmL t ad f0 f1)[k]? = some (ad k, e) := fls s101 ⟨_, rfl⟩
    have s103 : ∀ k, k < 103 → ∃ e, (asmL t ad f0 f1)[k]? = some (ad k, e) := fls s102 ⟨_, rfl⟩
    have s104 : ∀ k, k < 104 → ∃ e, (asmL t ad f0 f1)[k]? = some (ad k, e) := fls s103 ⟨_, rfl⟩
    have s105 : ∀ k, k < 105 → ∃ e, (asmL t ad f0 f1)[k]? = some (ad k, e) := fls s104 ⟨_, rfl⟩
    have s106 : ∀ k, k < 106 → ∃ e, (asmL t ad f0 f1)[k]? = some (ad k, e) := fls s105 ⟨_, rfl⟩
    have s107 : ∀ k, k < 107 → ∃ e, (asmL t ad f0 f1)[k]? = some (ad k, e) := fls s106 ⟨_, rfl⟩
    have s108 : ∀ k, k < 108 → ∃ e, (asmL t ad f0 f1)[k]? = some (ad k, e) := fls s107 ⟨_, rfl⟩
    have s109 : ∀ k, k < 109 → ∃ e, (asmL t ad f0 f1)[k]? = some (ad k, e) := fls s108 ⟨_, rfl⟩
    have s110 : ∀ k, k < 110 → ∃ e, (asmL t ad f0 f1)[k]? = some (ad k, e) := fls s109 ⟨_, rfl⟩
    have s111 : ∀ k, k < 111 → ∃ e, (asmL t ad f0 f1)[k]? = some (ad k, e) := fls s110 ⟨_, rfl⟩
    have s112 : ∀ k, k < 112 → ∃ e, (asmL t ad f0 f1)[k]? = some (ad k, e) := fls s111 ⟨_, rfl⟩
    have s113 : ∀ k, k < 113 → ∃ e, (asmL t ad f0 f1)[k]? = some (ad k, e) := fls s112 ⟨_, rfl⟩
    have s114 : ∀ k, k < 114 → ∃ e, (asmL t ad f0 f1)[k]? = some (ad k, e) := fls s113 ⟨_, rfl⟩
    have s115 : ∀ k, k < 115 → ∃ e, (asmL t ad f0 f1)[k]? = some (ad k, e) := fls s114 ⟨_, rfl⟩
    exact s115
  refine wl_introD (o := (D, fun c i => ad (bas c + i), t, 115)) hD id (fun k hk => ?_) (fun i j _ _ h => h)
  obtain ⟨e, he⟩ := hg k hk
  refine ⟨e, ?_⟩
  show (asmL t ad f0 f1)[k]? = some (ad (bas (kd k) + (k - bas (kd k))), e)
  rw [kd_115 k hk, he]
