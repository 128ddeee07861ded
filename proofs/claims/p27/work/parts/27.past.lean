/-- without entry e -/
def dropE (A : Ab) (e : Nat) : Ab := fun c k => if c = 0 then (if k = 4 then A 0 4 - 1 else A 0 k) else if k < e then A c k else A c (k + 1)
theorem Ok.drop {A : Ab} (hO : Ok A) {e : Nat} (he : (e : Int) < A 0 4) : Ok (dropE A e) := by
  have ob := hO.b
  refine ⟨by simp [dropE]; omega, by simp [dropE]; omega, by simp [dropE]; omega, by simp [dropE]; omega, by simp [dropE]; omega, by simp [dropE]; omega, by simp [dropE]; omega, by simp [dropE]; omega, by simp [dropE]; omega, by simp [dropE]; omega, fun k hk => ?_⟩
  have hk2 : (k : Int) < A 0 4 - 1 := by simpa [dropE] using hk
  by_cases hke : k < e
  · have := hO.e (e := k) (by omega)
    simp [dropE, hke]
    omega
  · have := hO.e (e := k + 1) (by omega)
    simp [dropE, hke]
    omega
/-- the remembered states, the oldest first -/
def recH (h : Nat → Ab) (n : Nat) (A : Ab) : Nat → Ab := if n < 8 then (fun j => if j = n then A else h j) else (fun j => if j = 7 then A else h (j + 1))
def recN (n : Nat) : Nat := if n < 8 then n + 1 else 8
def Ps (M : Mm) (h : Nat → Ab) (n : Nat) : Prop := ∃ o : Nat, o < 8 ∧ n ≤ 8 ∧ M 1 0 1 = iI o ∧ M 1 0 2 = iI n ∧ ∀ j, j < n → Pl M (2 + (o + j) % 8) (h j) ∧ Ok (h j)
/-- the cells of the past -/
def psc : Nat → Nat → Prop := fun c i => c = 1 ∨ (c = 11 ∨ c = 13 ∨ c = 14 ∨ c = 15 ∨ c = 16) ∧ 2 ≤ i
theorem Ps.sx {P : Nat → Nat → Prop} {M M' : Mm} {h : Nat → Ab} {n : Nat} (hp : Ps M h n) (hs : sx P M M') (h1 : ¬ P 1 0) (h2 : ∀ i, 2 ≤ i → ¬ P 11 i ∧ ¬ P 13 i ∧ ¬ P 14 i ∧ ¬ P 15 i ∧ ¬ P 16 i) : Ps M' h n := by
  obtain ⟨o, g1, g2, g3, g4, g5⟩ := hp
  refine ⟨o, g1, g2, by rw [hs 1 0 h1]; exact g3, by rw [hs 1 0 h1]; exact g4, fun j hj => ⟨(g5 j hj).1.sx hs (h2 _ (by omega)), (g5 j hj).2⟩⟩
theorem s_X1_record {M : Mm} {j : Nat} {A : Ab} {h : Nat → Ab} {n : Nat} {Q : Mm → Prop} (hp : Ps M h n) (hP : Pl M j A) (hO : Ok A) (hj : j < 2) (hQ : ∀ M', Ps M' (recH h n A) (recN n) → sx psc M M' → Q M') : w_X1_record j M Q := by
  obtain ⟨o, g1, g2, g3, g4, g5⟩ := hp
  unfold w_X1_record
  rw [g3, g4]
  simp (disch := omega) only [lm1_, lm2_, lm3_, lm9_, lm10_, lm999_, lm1000_, l0_, l1_, l2_, l3_, l4_, l5_, l6_, l7_, l8_, l9_, l10_, l11_, l12_, l13_, l23_, l24_, l30_, l31_, l33_, l35_, l41_, l42_, l45_, l48_, l57_, l58_, l59_, l60_, l64_, l96_, l99_, l100_, l101_, l126_, l168_, l808_, l909_, l900_, l20_, l1440_, l2003_, l15486209_, l2147483647_, l999_, l1439_, iI_add, iI_sub, iI_mul, iI_neg, iI_rem, iI_lt, iI_le, iI_eq, vp_iI, cl_iI, Int.toNat_natCast]
  refine s_ldR (by omega) (by omega) (by decide) ?_
  rw [show (((o : Int) + (n : Int)) % 8).toNat = (o + n) % 8 by omega]
  have hlt : (o + n) % 8 < 8 := Nat.mod_lt _ (by decide)
  rw [show (o + n) % 8 + 2 = 2 + (o + n) % 8 by omega]
  refine s_X2_copy hP hO (by omega) (fun M1 hP1 hs1 => ?_)
  have m1 : M1 1 0 = M 1 0 := hs1 1 0 (fun q => by rcases q.1 with q | q | q | q | q <;> omega)
  have hsx : sx psc M M1 := sx_mono hs1 (fun c i q => Or.inr ⟨q.1, by have := q.2; omega⟩)
  rw [m1, g3, g4]
  simp (disch := omega) only [lm1_, lm2_, lm3_, lm9_, lm10_, lm999_, lm1000_, l0_, l1_, l2_, l3_, l4_, l5_, l6_, l7_, l8_, l9_, l10_, l11_, l12_, l13_, l23_, l24_, l30_, l31_, l33_, l35_, l41_, l42_, l45_, l48_, l57_, l58_, l59_, l60_, l64_, l96_, l99_, l100_, l101_, l126_, l168_, l808_, l909_, l900_, l20_, l1440_, l2003_, l15486209_, l2147483647_, l999_, l1439_, iI_add, iI_sub, iI_mul, iI_neg, iI_rem, iI_lt, iI_le, iI_eq, vp_iI, cl_iI, Int.toNat_natCast]
  refine s_if (fun q => ?_) (fun q => ?_)
  · have hn8 : n = 8 := by omega
    refine s_stF (hQ _ ?_ (sx_st hsx (Or.inl rfl)))
    refine ⟨(o + 1) % 8, Nat.mod_lt _ (by decide), by simp [recN, hn8], by simp [st], by simp [st, m1, g4, recN, hn8], fun k hk => ?_⟩
    have hk8 : k < 8 := by simpa [recN, hn8] using hk
    have e1 : recH h n A k = if k = 7 then A else h (k + 1) := by simp [recH, hn8]
    rw [e1]
    by_cases hk7 : k = 7
    · rw [if_pos hk7]
      refine ⟨?_, hO⟩
      have e2 : 2 + ((o + 1) % 8 + k) % 8 = 2 + (o + n) % 8 := by omega
      rw [e2]
      exact hP1.sx (P := fun c i => c = 1) (sx_st sx_rf rfl) ⟨by decide, by decide, by decide, by decide, by decide⟩
    · rw [if_neg hk7]
      have e2 : 2 + ((o + 1) % 8 + k) % 8 = 2 + (o + (k + 1)) % 8 := by omega
      rw [e2]
      obtain ⟨a1, a2⟩ := g5 (k + 1) (by omega)
      refine ⟨?_, a2⟩
      have a3 : Pl M1 (2 + (o + (k + 1)) % 8) (h (k + 1)) := a1.sx hs1 (by
        have hne : 2 + (o + (k + 1)) % 8 ≠ 2 + (o + n) % 8 := by omega
        exact ⟨fun z => hne z.2, fun z => hne z.2, fun z => hne z.2, fun z => hne z.2, fun z => hne z.2⟩)
      exact a3.sx (P := fun c i => c = 1) (sx_st sx_rf rfl) ⟨by decide, by decide, by decide, by decide, by decide⟩
  · have hn8 : n < 8 := by omega
    refine s_stF (hQ _ ?_ (sx_st hsx (Or.inl rfl)))
    refine ⟨o, g1, by simp [recN, hn8]; omega, by simp [st, m1, g3], by simp [st, recN, hn8], fun k hk => ?_⟩
    have hk8 : k < n + 1 := by simpa [recN, hn8] using hk
    have e1 : recH h n A k = if k = n then A else h k := by simp [recH, hn8]
    rw [e1]
    by_cases hk7 : k = n
    · rw [if_pos hk7]
      refine ⟨?_, hO⟩
      rw [hk7]
      exact hP1.sx (P := fun c i => c = 1) (sx_st sx_rf rfl) ⟨by decide, by decide, by decide, by decide, by decide⟩
    · rw [if_neg hk7]
      obtain ⟨a1, a2⟩ := g5 k (by omega)
      refine ⟨?_, a2⟩
      have a3 : Pl M1 (2 + (o + k) % 8) (h k) := a1.sx hs1 (by
        have hne : 2 + (o + k) % 8 ≠ 2 + (o + n) % 8 := by omega
        exact ⟨fun z => hne z.2, fun z => hne z.2, fun z => hne z.2, fun z => hne z.2, fun z => hne z.2⟩)
      exact a3.sx (P := fun c i => c = 1) (sx_st sx_rf rfl) ⟨by decide, by decide, by decide, by decide, by decide⟩
theorem s_X1_restore {M : Mm} {h : Nat → Ab} {n : Nat} {Q : Mm → Prop} (hp : Ps M h (n + 1)) (hQ : ∀ M', Ps M' h n → Pl M' 0 (h n) → sx (fun c i => c = 1 ∨ plc 0 c i) M M' → M' 1 0 2 = iI n → Q M') : w_X1_restore 0 M Q := by
  obtain ⟨o, g1, g2, g3, g4, g5⟩ := hp
  unfold w_X1_restore
  rw [g4]
  simp (disch := omega) only [lm1_, lm2_, lm3_, lm9_, lm10_, lm999_, lm1000_, l0_, l1_, l2_, l3_, l4_, l5_, l6_, l7_, l8_, l9_, l10_, l11_, l12_, l13_, l23_, l24_, l30_, l31_, l33_, l35_, l41_, l42_, l45_, l48_, l57_, l58_, l59_, l60_, l64_, l96_, l99_, l100_, l101_, l126_, l168_, l808_, l909_, l900_, l20_, l1440_, l2003_, l15486209_, l2147483647_, l999_, l1439_, iI_add, iI_sub, iI_mul, iI_neg, iI_rem, iI_lt, iI_le, iI_eq, vp_iI, cl_iI, Int.toNat_natCast]
  rw [if_pos (by omega)]
  refine s_stF ?_
  have r1 : st M 1 0 2 (iI (((n + 1 : Nat) : Int) - 1)) 1 0 1 = iI o := by simp [st, g3]
  have r2 : st M 1 0 2 (iI (((n + 1 : Nat) : Int) - 1)) 1 0 2 = iI n := by
    simp only [st, and_self, if_true]
    congr 1
    omega
  generalize hM1 : st M 1 0 2 (iI (((n + 1 : Nat) : Int) - 1)) = M1 at r1 r2
  have hs1 : sx (fun c i => c = 1) M M1 := by rw [← hM1]; exact sx_st sx_rf rfl
  rw [r1, r2]
  simp (disch := omega) only [lm1_, lm2_, lm3_, lm9_, lm10_, lm999_, lm1000_, l0_, l1_, l2_, l3_, l4_, l5_, l6_, l7_, l8_, l9_, l10_, l11_, l12_, l13_, l23_, l24_, l30_, l31_, l33_, l35_, l41_, l42_, l45_, l48_, l57_, l58_, l59_, l60_, l64_, l96_, l99_, l100_, l101_, l126_, l168_, l808_, l909_, l900_, l20_, l1440_, l2003_, l15486209_, l2147483647_, l999_, l1439_, iI_add, iI_sub, iI_mul, iI_neg, iI_rem, iI_lt, iI_le, iI_eq, vp_iI, cl_iI, Int.toNat_natCast]
  refine s_ldR (by omega) (by omega) (by decide) ?_
  rw [show (((o : Int) + (n : Int)) % 8).toNat = (o + n) % 8 by omega]
  have hlt : (o + n) % 8 < 8 := Nat.mod_lt _ (by decide)
  rw [show (o + n) % 8 + 2 = 2 + (o + n) % 8 by omega]
  obtain ⟨a1, a2⟩ := g5 n (by omega)
  have a3 : Pl M1 (2 + (o + n) % 8) (h n) := a1.sx hs1 ⟨by decide, by decide, by decide, by decide, by decide⟩
  refine s_X2_copy a3 a2 (by omega) (fun M2 hP2 hs2 => ?_)
  have m2 : M2 1 0 = M1 1 0 := hs2 1 0 (fun q => by rcases q.1 with q | q | q | q | q <;> omega)
  refine hQ M2 ⟨o, g1, by omega, by rw [m2]; exact r1, by rw [m2]; exact r2, fun k hk => ?_⟩ hP2 (sx_tr hs1 hs2) (by rw [m2]; exact r2)
  obtain ⟨b1, b2⟩ := g5 k (by omega)
  refine ⟨?_, b2⟩
  have b3 : Pl M1 (2 + (o + k) % 8) (h k) := b1.sx hs1 ⟨by decide, by decide, by decide, by decide, by decide⟩
  exact b3.sx hs2 ⟨fun z => by have := z.2; omega, fun z => by have := z.2; omega, fun z => by have := z.2; omega, fun z => by have := z.2; omega, fun z => by have := z.2; omega⟩
