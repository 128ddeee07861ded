/-! the reference reads a text -/
def Ra (M : Mm) (x : Nat → Int) (k p : Nat) : Prop := Tr M x k ∧ M 17 0 7 = iI p
def Rn (M M' : Mm) : Prop := sx (fun c i => c = 17 ∧ i = 0) M M' ∧ ∀ j, j ≠ 7 → j ≠ 8 → M' 17 0 j = M 17 0 j
def Rx (e : Nat) (M M' : Mm) : Prop := sx (fun c i => (c = 17 ∨ c = 23) ∧ i = 0) M M' ∧ (∀ j, j ≠ 7 → j ≠ 8 → M' 17 0 j = M 17 0 j) ∧ ∀ j, j < 4 * e → M' 23 0 j = M 23 0 j
section MRD
variable {M M' M'' : Mm} {x : Nat → Int} {k p e : Nat} {Q : Int32 → Mm → Prop}
theorem Rn.rf : Rn M M := ⟨sx_rf, fun _ _ _ => rfl⟩
theorem Rn.tr (h : Rn M M') (h' : Rn M' M'') : Rn M M'' := ⟨fun c i hci => (h'.1 c i hci).trans (h.1 c i hci), fun j h7 h8 => (h'.2 j h7 h8).trans (h.2 j h7 h8)⟩
theorem Rn.sn (h : Rn M M') {j : Nat} (hj : j = 7 ∨ j = 8) {v : Int32} : Rn M (st M' 17 0 j v) := ⟨sx_st h.1 ⟨rfl, rfl⟩, fun i h7 h8 => by rw [st_d (by omega)]; exact h.2 i h7 h8⟩
theorem Rn.rx (h : Rn M M') : Rx e M M' := ⟨sx_mono h.1 (fun c i q => ⟨Or.inl q.1, q.2⟩), h.2, fun j _ => by rw [h.1 23 0 (by omega)]⟩
theorem Rx.rf : Rx e M M := ⟨sx_rf, fun _ _ _ => rfl, fun _ _ => rfl⟩
theorem Rx.tr (h : Rx e M M') (h' : Rx e M' M'') : Rx e M M'' := ⟨fun c i hci => (h'.1 c i hci).trans (h.1 c i hci), fun j h7 h8 => (h'.2.1 j h7 h8).trans (h.2.1 j h7 h8), fun j hj => (h'.2.2 j hj).trans (h.2.2 j hj)⟩
theorem Rx.sm (h : Rx e M M') {j : Nat} (hj : 4 * e ≤ j) {v : Int32} : Rx e M (st M' 23 0 j v) := ⟨sx_st h.1 ⟨Or.inr rfl, rfl⟩, fun i h7 h8 => by rw [st_ne _ _ (by omega)]; exact h.2.1 i h7 h8, fun i hi => by rw [st_d (by omega)]; exact h.2.2 i hi⟩
theorem Rx.rn (h : Rx e M M') {j : Nat} (hj : j = 7 ∨ j = 8) {v : Int32} : Rx e M (st M' 17 0 j v) := ⟨sx_st h.1 ⟨Or.inl rfl, rfl⟩, fun i h7 h8 => by rw [st_d (by omega)]; exact h.2.1 i h7 h8, fun i hi => by rw [st_ne _ _ (by omega)]; exact h.2.2 i hi⟩
theorem Tr.rx (h : Tr M x k) (hs : Rx e M M') : Tr M' x k := ⟨h.1, by rw [hs.2.1 3 (by decide) (by decide)]; exact h.2.1, fun j hj => by rw [hs.1 19 0 (by omega)]; exact h.2.2 j hj⟩
theorem Ra.at (h : Ra M x k p) {q : Nat} : Ra (st M 17 0 7 (iI q)) x k q := ⟨h.1.rx (e := 0) (Rx.rf.rn (Or.inl rfl)), st_s⟩
theorem Ra.n8 (h : Ra M x k p) {v : Int32} : Ra (st M 17 0 8 v) x k p := ⟨h.1.rx (e := 0) (Rx.rf.rn (Or.inr rfl)), by rw [st_d (by decide)]; exact h.2⟩
theorem Ra.md (h : Ra M x k p) {j : Nat} {v : Int32} : Ra (st M 23 0 j v) x k p := ⟨h.1.rx (e := 0) (Rx.rf.sm (Nat.zero_le _)), by rw [st_ne _ _ (by omega)]; exact h.2⟩
theorem s_X5_here (hR : Ra M x k p) (hp : p ≤ k) (h1 : p < k → Q (iI (x p)) M) (h0 : ¬ p < k → Q (iI (-9)) M) : w_X5_here M Q := by
  obtain ⟨⟨g1, g2, g3⟩, g4⟩ := hR
  unfold w_X5_here
  rw [g2, g4]
  simp only [lm1_, lm2_, lm3_, lm9_, lm10_, lm999_, lm1000_, l0_, l1_, l2_, l3_, l4_, l5_, l6_, l7_, l8_, l9_, l10_, l11_, l12_, l13_, l23_, l24_, l30_, l31_, l33_, l35_, l41_, l42_, l45_, l48_, l57_, l58_, l59_, l60_, l64_, l96_, l99_, l100_, l101_, l126_, l168_, l808_, l909_, l999_, l1439_, iI_add, iI_sub, iI_mul, iI_neg]
  refine s_if (fun q => ?_) (fun q => ?_)
  · have q := (iI_le (by omega) (by omega) (by omega) (by omega)).mp q
    exact h0 (by omega)
  · have q : ¬ (k : Int) ≤ p := fun z => q ((iI_le (by omega) (by omega) (by omega) (by omega)).mpr z)
    refine s_ldN (by omega) (by decide) ?_
    rw [g3 p (by omega)]
    exact h1 (by omega)
theorem s_X5_takes (hR : Ra M x k p) (hb : Tb x k) (hp : p ≤ k) {c : Int} (hc : 0 ≤ c ∧ c ≤ 1000) (h1 : chr x k p c → Q (iI 1) (st M 17 0 7 (iI ((p + 1 : Nat) : Int)))) (h0 : ¬ chr x k p c → Q (iI 0) (st M 17 0 7 (iI (p : Int)))) : w_X5_takes M (iI c) Q := by
  unfold w_X5_takes
  simp only [lm1_, lm2_, lm3_, lm9_, lm10_, lm999_, lm1000_, l0_, l1_, l2_, l3_, l4_, l5_, l6_, l7_, l8_, l9_, l10_, l11_, l12_, l13_, l23_, l24_, l30_, l31_, l33_, l35_, l41_, l42_, l45_, l48_, l57_, l58_, l59_, l60_, l64_, l96_, l99_, l100_, l101_, l126_, l168_, l808_, l909_, l999_, l1439_, iI_add, iI_sub, iI_mul, iI_neg]
  have key : ∀ v : Int, (v = x p ∧ p < k ∨ v = -9 ∧ ¬ p < k) → letJ (fun (v3 : Int32) => letJ (fun (v5 : Int32) => stF M 17 0 7 (M 17 0 7 + v5) fun M7 => bz v3 ∧ Q v3 M7) fun J6 => if v3 = iI 0 then J6 (iI 0) else J6 (iI 1)) fun J4 => if iI v = iI c then J4 (iI 1) else J4 (iI 0) := by
    intro v hv
    have hvb : -9 ≤ v ∧ v ≤ 126 := by
      rcases hv with hv | hv
      · have := hb p hv.2
        omega
      · omega
    by_cases cc : chr x k p c
    · have hvc : v = c := by
        rcases hv with hv | hv
        · rw [hv.1]; exact cc.2
        · exact absurd cc.1 hv.2
      refine s_letV (iI 1) (fun J hJ => ?_) ?_
      · rw [hvc, if_pos rfl]
        exact hJ
      · refine s_letV (iI 1) (fun J hJ => z1 hJ) ?_
        rw [hR.2, iI_add]
        exact s_stF ⟨bz1, h1 cc⟩
    · have hvc : ¬ v = c := by
        rcases hv with hv | hv
        · exact fun z => cc ⟨hv.2, by rw [← hv.1]; exact z⟩
        · omega
      refine s_letV (iI 0) (fun J hJ => ?_) ?_
      · rw [if_neg (fun z => hvc ((iI_eq (by omega) (by omega) (by omega) (by omega)).mp z))]
        exact hJ
      · refine s_letV (iI 0) (fun J hJ => z0 hJ) ?_
        rw [hR.2, iI_add, show (p : Int) + 0 = p by omega]
        exact s_stF ⟨bz0, h0 cc⟩
  exact s_X5_here hR hp (fun c1 => key _ (Or.inl ⟨rfl, c1⟩)) (fun c1 => key _ (Or.inr ⟨rfl, c1⟩))
theorem s_X5_isFigure (hR : Ra M x k p) (hb : Tb x k) (hp : p ≤ k) (h1 : dgt x k p → Q (iI 1) M) (h0 : ¬ dgt x k p → Q (iI 0) M) : w_X5_isFigure M Q := by
  unfold w_X5_isFigure
  simp only [lm1_, lm2_, lm3_, lm9_, lm10_, lm999_, lm1000_, l0_, l1_, l2_, l3_, l4_, l5_, l6_, l7_, l8_, l9_, l10_, l11_, l12_, l13_, l23_, l24_, l30_, l31_, l33_, l35_, l41_, l42_, l45_, l48_, l57_, l58_, l59_, l60_, l64_, l96_, l99_, l100_, l101_, l126_, l168_, l808_, l909_, l999_, l1439_, iI_add, iI_sub, iI_mul, iI_neg]
  refine s_X5_here hR hp (fun c => ?_) (fun c => ?_)
  · have := hb p c
    exact s_X5_in (by omega) (by omega) (by omega) (fun c2 => h1 ⟨c, c2⟩) (fun c2 => h0 (fun z => c2 z.2))
  · exact s_X5_in (by omega) (by omega) (by omega) (fun c2 => absurd c2 (by omega)) (fun c2 => h0 (fun z => c z.1))
theorem s_X5_readsNumber (hR : Ra M x k p) (hb : Tb x k) (hp : p ≤ k) {m : Nat} (hm : 1 ≤ m ∧ m ≤ 3) {lo hi : Int} (hlo : 0 ≤ lo ∧ lo ≤ 1000) (hhi : 0 ≤ hi ∧ hi ≤ 1000) (h1 : ∀ i : Nat, 1 ≤ i → i ≤ m → (∀ j, j < i → dgt x k (p + j)) → ¬ dgt x k (p + i) → lo ≤ dv x p i ∧ dv x p i ≤ hi → ∀ M', Ra M' x k (p + i) → M' 17 0 8 = iI (dv x p i) → Rn M M' → Q (iI 1) M') (h0 : ∀ f : Nat, (f = p ∧ ¬ dgt x k p) ∨ (f = p + m ∧ ∀ j, j ≤ m → dgt x k (p + j)) ∨ (∃ i : Nat, 1 ≤ i ∧ i ≤ m ∧ (∀ j, j < i → dgt x k (p + j)) ∧ ¬ dgt x k (p + i) ∧ ¬ (lo ≤ dv x p i ∧ dv x p i ≤ hi) ∧ f = p + i - 1) → ∀ M', Ra M' x k f → Rn M M' → Q (iI 0) M') : w_X5_readsNumber M (iI m) (iI lo) (iI hi) Q := by
  have gk := hR.1.1
  unfold w_X5_readsNumber
  simp only [lm1_, lm2_, lm3_, lm9_, lm10_, lm999_, lm1000_, l0_, l1_, l2_, l3_, l4_, l5_, l6_, l7_, l8_, l9_, l10_, l11_, l12_, l13_, l23_, l24_, l30_, l31_, l33_, l35_, l41_, l42_, l45_, l48_, l57_, l58_, l59_, l60_, l64_, l96_, l99_, l100_, l101_, l126_, l168_, l808_, l909_, l999_, l1439_, iI_add, iI_sub, iI_mul, iI_neg]
  refine s_stF ?_
  have hK : ∀ (i : Nat) (M' : Mm), i ≤ m → Ra M' x k (p + i) → M' 17 0 8 = iI (dv x p i) → Rn M M' → (∀ j, j < i → dgt x k (p + j)) → (i = m ∨ ¬ dgt x k (p + i)) → if iI (i : Int) = iI 0 then Q (iI 0) M' else w_X5_isFigure M' fun v16 M15 => if v16 = iI 0 then w_X5_in M15 (M15 17 0 8) (iI lo) (iI hi) fun v18 M17 => letJ (fun (v19 : Int32) => stF M17 17 0 7 (M17 17 0 7 - v19) fun M21 => Q v18 M21) fun J20 => if v18 = iI 0 then J20 (iI 1) else J20 (iI 0) else Q (iI 0) M15 := by
    intro i M' him g1 g2 g3 g4 g5
    have hpi : p + i ≤ k := by
      by_cases hi0 : i = 0
      · omega
      · have := (g4 (i - 1) (by omega)).1
        omega
    by_cases hi0 : i = 0
    · subst hi0
      refine z0 (h0 p (Or.inl ⟨rfl, ?_⟩) M' g1 g3)
      rcases g5 with g5 | g5
      · omega
      · exact g5
    · rw [if_neg (fun z => hi0 (by have := (iI_eq (by omega) (by omega) (by omega) (by omega)).mp z; omega))]
      refine s_X5_isFigure g1 hb hpi (fun c => z1 ?_) (fun c => z0 ?_)
      · have him2 : i = m := g5.resolve_right (fun z => z c)
        subst him2
        refine h0 (p + i) (Or.inr (Or.inl ⟨rfl, fun j hj => ?_⟩)) M' g1 g3
        by_cases hji : j = i
        · rw [hji]; exact c
        · exact g4 j (by omega)
      · have hdb := dv_b (i := i) (by omega) g4
        rw [g2]
        refine s_X5_in (by omega) (by omega) (by omega) (fun c2 => ?_) (fun c2 => ?_)
        · refine s_letV (iI 0) (fun J hJ => z1 hJ) ?_
          rw [g1.2, iI_sub, show ((p + i : Nat) : Int) - 0 = ((p + i : Nat) : Int) by omega]
          exact s_stF (h1 i (by omega) him g4 c c2 _ g1.at (by rw [st_d (by decide)]; exact g2) (g3.sn (Or.inl rfl)))
        · refine s_letV (iI 1) (fun J hJ => z0 hJ) ?_
          rw [g1.2, iI_sub, show ((p + i : Nat) : Int) - 1 = ((p + i - 1 : Nat) : Int) by omega]
          exact s_stF (h0 _ (Or.inr (Or.inr ⟨i, by omega, him, g4, c, c2, rfl⟩)) _ g1.at (g3.sn (Or.inl rfl)))
  refine loop_up (fun i s => ∃ M', s = (iI i, M') ∧ Ra M' x k (p + i) ∧ M' 17 0 8 = iI (dv x p i) ∧ Rn M M' ∧ ∀ j, j < i → dgt x k (p + j)) m ?_ ?_ (Nat.zero_le _) ⟨_, rfl, hR.n8, st_s, Rn.rf.sn (Or.inr rfl), fun j hj => absurd hj (Nat.not_lt_zero _)⟩
  · rintro R i s hi ⟨M', rfl, g1, g2, g3, g4⟩ hRr
    have hpi : p + i ≤ k := by
      by_cases hi0 : i = 0
      · omega
      · have := (g4 (i - 1) (by omega)).1
        omega
    unfold w_X5_readsNumber_L8
    dsimp only
    simp only [lm1_, lm2_, lm3_, lm9_, lm10_, lm999_, lm1000_, l0_, l1_, l2_, l3_, l4_, l5_, l6_, l7_, l8_, l9_, l10_, l11_, l12_, l13_, l23_, l24_, l30_, l31_, l33_, l35_, l41_, l42_, l45_, l48_, l57_, l58_, l59_, l60_, l64_, l96_, l99_, l100_, l101_, l126_, l168_, l808_, l909_, l999_, l1439_, iI_add, iI_sub, iI_mul, iI_neg]
    refine s_X5_isFigure g1 hb hpi (fun c => z1 ?_) (fun c => z0 (hK i M' (by omega) g1 g2 g3 g4 (Or.inr c)))
    rw [if_neg (fun z => by have := (iI_le (by omega) (by omega) (by omega) (by omega)).mp z; omega)]
    refine s_X5_here g1 hpi (fun _ => ?_) (fun z => absurd c.1 z)
    rw [g2]
    simp only [lm1_, lm2_, lm3_, lm9_, lm10_, lm999_, lm1000_, l0_, l1_, l2_, l3_, l4_, l5_, l6_, l7_, l8_, l9_, l10_, l11_, l12_, l13_, l23_, l24_, l30_, l31_, l33_, l35_, l41_, l42_, l45_, l48_, l57_, l58_, l59_, l60_, l64_, l96_, l99_, l100_, l101_, l126_, l168_, l808_, l909_, l999_, l1439_, iI_add, iI_sub, iI_mul, iI_neg]
    refine s_stF ?_
    have e7 : st M' 17 0 8 (iI (10 * dv x p i + x (p + i) - 48)) 17 0 7 = iI ((p + i : Nat) : Int) := by rw [st_d (by decide)]; exact g1.2
    rw [e7]
    simp only [lm1_, lm2_, lm3_, lm9_, lm10_, lm999_, lm1000_, l0_, l1_, l2_, l3_, l4_, l5_, l6_, l7_, l8_, l9_, l10_, l11_, l12_, l13_, l23_, l24_, l30_, l31_, l33_, l35_, l41_, l42_, l45_, l48_, l57_, l58_, l59_, l60_, l64_, l96_, l99_, l100_, l101_, l126_, l168_, l808_, l909_, l999_, l1439_, iI_add, iI_sub, iI_mul, iI_neg]
    rw [show ((p + i : Nat) : Int) + 1 = ((p + (i + 1) : Nat) : Int) by omega]
    refine s_stF (s_bI (hRr _ ⟨_, rfl, g1.n8.at, ?_, (g3.sn (Or.inr rfl)).sn (Or.inl rfl), fun j hj => ?_⟩))
    · rw [st_d (by decide), st_s]
      show _ = iI (10 * dv x p i + (x (p + i) - 48))
      congr 1
      omega
    · by_cases hji : j = i
      · rw [hji]; exact c
      · exact g4 j (by omega)
  · rintro R s ⟨M', rfl, g1, g2, g3, g4⟩
    have hpi : p + m ≤ k := by
      have := (g4 (m - 1) (by omega)).1
      omega
    unfold w_X5_readsNumber_L8
    dsimp only
    simp only [lm1_, lm2_, lm3_, lm9_, lm10_, lm999_, lm1000_, l0_, l1_, l2_, l3_, l4_, l5_, l6_, l7_, l8_, l9_, l10_, l11_, l12_, l13_, l23_, l24_, l30_, l31_, l33_, l35_, l41_, l42_, l45_, l48_, l57_, l58_, l59_, l60_, l64_, l96_, l99_, l100_, l101_, l126_, l168_, l808_, l909_, l999_, l1439_, iI_add, iI_sub, iI_mul, iI_neg]
    refine s_X5_isFigure g1 hb hpi (fun c => z1 ?_) (fun c => z0 (hK m M' (Nat.le_refl _) g1 g2 g3 g4 (Or.inr c)))
    rw [if_pos ((iI_le (by omega) (by omega) (by omega) (by omega)).mpr (by omega))]
    exact hK m M' (Nat.le_refl _) g1 g2 g3 g4 (Or.inl rfl)
theorem s_X5_readsDay (hR : Ra M x k p) (hb : Tb x k) (hp : p ≤ k) {lo : Int} (hlo : 0 ≤ lo ∧ lo ≤ 1000) (h1 : ∀ v q, pDay x k p = .inr (v, q) → lo ≤ v → ∀ M', Ra M' x k q → M' 17 0 8 = iI v → Rn M M' → Q (iI 1) M') (h0 : ∀ f, (pDay x k p = .inl f ∨ ∃ v q, pDay x k p = .inr (v, q) ∧ v < lo ∧ f = q - 1) → ∀ M', Ra M' x k f → Rn M M' → Q (iI 0) M') : w_X5_readsNumber M (iI 3) (iI lo) (iI 999) Q := by
  refine s_X5_readsNumber (m := 3) hR hb hp (by omega) hlo (by omega) (fun i i1 i2 g1 g2 g3 M' a1 a2 a3 => h1 _ _ (pDay_ok i1 i2 g1 g2) g3.1 M' a1 a2 a3) (fun f hf M' a1 a2 => h0 f ?_ M' a1 a2)
  rcases hf with ⟨rfl, hf⟩ | ⟨rfl, hf⟩ | ⟨i, i1, i2, g1, g2, g3, rfl⟩
  · exact Or.inl (pDay_f0 hf)
  · exact Or.inl (pDay_f3 hf)
  · have := dv_b i2 g1
    exact Or.inr ⟨_, _, pDay_ok i1 i2 g1 g2, by omega, rfl⟩
theorem s_X5_readsDig (hR : Ra M x k p) (hb : Tb x k) (hp : p ≤ k) (h1 : dgt x k p → ∀ M', Ra M' x k (p + 1) → M' 17 0 8 = iI (x p - 48) → Rn M M' → Q (iI 1) M') (h0 : ∀ f, (f = p ∧ ¬ dgt x k p ∨ f = p + 1 ∧ dgt x k p ∧ dgt x k (p + 1)) → ∀ M', Ra M' x k f → Rn M M' → Q (iI 0) M') : w_X5_readsNumber M (iI 1) (iI 0) (iI 9) Q := by
  refine s_X5_readsNumber (m := 1) hR hb hp (by omega) (by omega) (by omega) (fun i i1 i2 g1 g2 g3 M' a1 a2 a3 => ?_) (fun f hf M' a1 a2 => h0 f ?_ M' a1 a2)
  · obtain rfl : i = 1 := by omega
    rw [dv_1] at a2
    exact h1 (g1 0 (by omega)) M' a1 a2 a3
  · rcases hf with ⟨rfl, hf⟩ | ⟨rfl, hf⟩ | ⟨i, i1, i2, g1, g2, g3, rfl⟩
    · exact Or.inl ⟨rfl, hf⟩
    · exact Or.inr ⟨rfl, hf 0 (by omega), hf 1 (by omega)⟩
    · obtain rfl : i = 1 := by omega
      have := g1 0 (by omega)
      rw [Nat.add_zero] at this
      rw [dv_1] at g3
      exact absurd (by omega) g3
theorem s_X5_readsTwo (hR : Ra M x k p) (hb : Tb x k) (hp : p ≤ k) {m : Int} (hm : 0 ≤ m ∧ m ≤ 1000) (h1 : ∀ v q, pTwo x k p m = .inr (v, q) → ∀ M', Ra M' x k q → M' 17 0 8 = iI v → Rn M M' → Q (iI 1) M') (h0 : ∀ f, pTwo x k p m = .inl f → ∀ M', Ra M' x k f → Rn M M' → Q (iI 0) M') : w_X5_readsTwo M (iI m) Q := by
  have gk := hR.1.1
  unfold w_X5_readsTwo
  simp only [lm1_, lm2_, lm3_, lm9_, lm10_, lm999_, lm1000_, l0_, l1_, l2_, l3_, l4_, l5_, l6_, l7_, l8_, l9_, l10_, l11_, l12_, l13_, l23_, l24_, l30_, l31_, l33_, l35_, l41_, l42_, l45_, l48_, l57_, l58_, l59_, l60_, l64_, l96_, l99_, l100_, l101_, l126_, l168_, l808_, l909_, l999_, l1439_, iI_add, iI_sub, iI_mul, iI_neg]
  refine s_stF ?_
  refine loop_up (fun i s => ∃ M', s = (iI i, M') ∧ Ra M' x k (p + i) ∧ M' 17 0 8 = iI (dv x p i) ∧ Rn M M' ∧ ∀ j, j < i → dgt x k (p + j)) 2 ?_ ?_ (Nat.zero_le _) ⟨_, rfl, hR.n8, st_s, Rn.rf.sn (Or.inr rfl), fun j hj => absurd hj (Nat.not_lt_zero _)⟩
  · rintro R i s hi ⟨M', rfl, g1, g2, g3, g4⟩ hRr
    have hpi : p + i ≤ k := by
      by_cases hi0 : i = 0
      · omega
      · have := (g4 (i - 1) (by omega)).1
        omega
    unfold w_X5_readsTwo_L7
    dsimp only
    simp only [lm1_, lm2_, lm3_, lm9_, lm10_, lm999_, lm1000_, l0_, l1_, l2_, l3_, l4_, l5_, l6_, l7_, l8_, l9_, l10_, l11_, l12_, l13_, l23_, l24_, l30_, l31_, l33_, l35_, l41_, l42_, l45_, l48_, l57_, l58_, l59_, l60_, l64_, l96_, l99_, l100_, l101_, l126_, l168_, l808_, l909_, l999_, l1439_, iI_add, iI_sub, iI_mul, iI_neg]
    rw [if_neg (fun z => by have := (iI_le (by omega) (by omega) (by omega) (by omega)).mp z; omega)]
    refine s_X5_isFigure g1 hb hpi (fun c => z1 ?_) (fun c => z0 (h0 (p + i) ?_ M' g1 g3))
    · refine s_X5_here g1 hpi (fun _ => ?_) (fun z => absurd c.1 z)
      rw [g2]
      simp only [lm1_, lm2_, lm3_, lm9_, lm10_, lm999_, lm1000_, l0_, l1_, l2_, l3_, l4_, l5_, l6_, l7_, l8_, l9_, l10_, l11_, l12_, l13_, l23_, l24_, l30_, l31_, l33_, l35_, l41_, l42_, l45_, l48_, l57_, l58_, l59_, l60_, l64_, l96_, l99_, l100_, l101_, l126_, l168_, l808_, l909_, l999_, l1439_, iI_add, iI_sub, iI_mul, iI_neg]
      refine s_stF ?_
      have e7 : st M' 17 0 8 (iI (10 * dv x p i + x (p + i) - 48)) 17 0 7 = iI ((p + i : Nat) : Int) := by rw [st_d (by decide)]; exact g1.2
      rw [e7]
      simp only [lm1_, lm2_, lm3_, lm9_, lm10_, lm999_, lm1000_, l0_, l1_, l2_, l3_, l4_, l5_, l6_, l7_, l8_, l9_, l10_, l11_, l12_, l13_, l23_, l24_, l30_, l31_, l33_, l35_, l41_, l42_, l45_, l48_, l57_, l58_, l59_, l60_, l64_, l96_, l99_, l100_, l101_, l126_, l168_, l808_, l909_, l999_, l1439_, iI_add, iI_sub, iI_mul, iI_neg]
      rw [show ((p + i : Nat) : Int) + 1 = ((p + (i + 1) : Nat) : Int) by omega]
      refine s_stF (s_bI (hRr _ ⟨_, rfl, g1.n8.at, ?_, (g3.sn (Or.inr rfl)).sn (Or.inl rfl), fun j hj => ?_⟩))
      · rw [st_d (by decide), st_s]
        show _ = iI (10 * dv x p i + (x (p + i) - 48))
        congr 1
        omega
      · by_cases hji : j = i
        · rw [hji]; exact c
        · exact g4 j (by omega)
    · unfold pTwo
      rcases (show i = 0 ∨ i = 1 by omega) with rfl | rfl
      · exact if_pos c
      · have g0 := g4 0 (by omega)
        rw [Nat.add_zero] at g0
        rw [if_neg (fun z => z g0), if_pos c]
  · rintro R s ⟨M', rfl, g1, g2, g3, g4⟩
    have g0 := g4 0 (by omega)
    rw [Nat.add_zero] at g0
    have g01 := g4 1 (by omega)
    have hdb := dv_b (i := 2) (by omega) g4
    unfold w_X5_readsTwo_L7
    dsimp only
    simp only [lm1_, lm2_, lm3_, lm9_, lm10_, lm999_, lm1000_, l0_, l1_, l2_, l3_, l4_, l5_, l6_, l7_, l8_, l9_, l10_, l11_, l12_, l13_, l23_, l24_, l30_, l31_, l33_, l35_, l41_, l42_, l45_, l48_, l57_, l58_, l59_, l60_, l64_, l96_, l99_, l100_, l101_, l126_, l168_, l808_, l909_, l999_, l1439_, iI_add, iI_sub, iI_mul, iI_neg]
    rw [if_pos ((iI_le (by omega) (by omega) (by omega) (by omega)).mpr (by omega))]
    by_cases c : m < dv x p 2
    · have e1 : pTwo x k p m = .inl (p + 1) := by
        unfold pTwo
        rw [if_neg (fun z => z g0), if_neg (fun z => z g01), if_pos c]
      refine s_letV (iI 1) (fun J hJ => ?_) ?_
      · rw [if_neg (fun z => by rw [g2] at z; have := (iI_le (by omega) (by omega) (by omega) (by omega)).mp z; omega)]
        exact hJ
      · rw [g1.2, iI_sub, show ((p + 2 : Nat) : Int) - 1 = ((p + 1 : Nat) : Int) by omega]
        refine s_stF ?_
        rw [if_pos (by rw [st_d (by decide), g2]; exact (iI_lt (by omega) (by omega) (by omega) (by omega)).mpr (by omega))]
        exact h0 _ e1 _ g1.at (g3.sn (Or.inl rfl))
    · have e1 : pTwo x k p m = .inr (dv x p 2, p + 2) := by
        unfold pTwo
        rw [if_neg (fun z => z g0), if_neg (fun z => z g01), if_neg c]
      refine s_letV (iI 0) (fun J hJ => ?_) ?_
      · rw [if_pos (by rw [g2]; exact (iI_le (by omega) (by omega) (by omega) (by omega)).mpr (by omega))]
        exact hJ
      · rw [g1.2, iI_sub, show ((p + 2 : Nat) : Int) - 0 = ((p + 2 : Nat) : Int) by omega]
        refine s_stF ?_
        rw [if_neg (fun z => by rw [st_d (by decide), g2] at z; have := (iI_lt (by omega) (by omega) (by omega) (by omega)).mp z; omega)]
        exact h1 _ _ e1 _ g1.at (by rw [st_d (by decide)]; exact g2) (g3.sn (Or.inl rfl))
theorem s_X5_readsTime (hR : Ra M x k p) (hb : Tb x k) (hp : p ≤ k) (he : e < 24) (h1 : ∀ v q, pTime x k p = .inr (v, q) → ∀ M', Ra M' x k q → M' 23 0 (4 * e + 2) = iI v → (∀ j, j ≠ 4 * e + 2 → M' 23 0 j = M 23 0 j) → Rx e M M' → Q (iI 1) M') (h0 : ∀ f, pTime x k p = .inl f → ∀ M', Ra M' x k f → Rx e M M' → Q (iI 0) M') : w_X5_readsTime M (iI (4 * (e : Int))) Q := by
  have gk := hR.1.1
  unfold w_X5_readsTime
  simp only [lm1_, lm2_, lm3_, lm9_, lm10_, lm999_, lm1000_, l0_, l1_, l2_, l3_, l4_, l5_, l6_, l7_, l8_, l9_, l10_, l11_, l12_, l13_, l23_, l24_, l30_, l31_, l33_, l35_, l41_, l42_, l45_, l48_, l57_, l58_, l59_, l60_, l64_, l96_, l99_, l100_, l101_, l126_, l168_, l808_, l909_, l999_, l1439_, iI_add, iI_sub, iI_mul, iI_neg]
  refine s_X5_readsTwo hR hb hp (by omega) (fun v q e1 M1 a1 a2 a3 => z1 ?_) (fun f e1 M1 a1 a2 => z0 (h0 f ?_ M1 a1 a2.rx))
  · have b1 := pTwo_b e1
    rw [a2]
    refine s_bI (s_X5_takes a1 hb b1.2.2 (by omega) (fun c => z1 ?_) (fun c => z0 (h0 q ?_ _ a1.at (a3.sn (Or.inl rfl)).rx)))
    · refine s_X5_readsTwo a1.at hb (by omega) (by omega) (fun v2 q2 e2 M2 d1 d2 d3 => z1 ?_) (fun f e2 M2 d1 d2 => z0 (h0 f ?_ M2 d1 ((a3.sn (Or.inl rfl)).tr d2).rx))
      · rw [d2]
        simp only [lm1_, lm2_, lm3_, lm9_, lm10_, lm999_, lm1000_, l0_, l1_, l2_, l3_, l4_, l5_, l6_, l7_, l8_, l9_, l10_, l11_, l12_, l13_, l23_, l24_, l30_, l31_, l33_, l35_, l41_, l42_, l45_, l48_, l57_, l58_, l59_, l60_, l64_, l96_, l99_, l100_, l101_, l126_, l168_, l808_, l909_, l999_, l1439_, iI_add, iI_sub, iI_mul, iI_neg]
        refine s_stA (by omega) (by omega) (by decide) ?_
        rw [show (4 * (e : Int) + 2).toNat = 4 * e + 2 by omega]
        have hn := (a3.sn (j := 7) (v := iI ((q + 1 : Nat) : Int)) (Or.inl rfl)).tr d3
        refine h1 _ _ ?_ _ d1.md st_s (fun j hj => ?_) (hn.rx.sm (by omega))
        · unfold pTime
          rw [e1]
          dsimp only
          rw [if_pos c, e2]
        · rw [st_d hj, hn.1 23 0 (by omega)]
      · unfold pTime
        rw [e1]
        dsimp only
        rw [if_pos c, e2]
    · unfold pTime
      rw [e1]
      dsimp only
      rw [if_neg c]
  · unfold pTime
    rw [e1]
end MRD
