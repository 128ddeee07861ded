/-! bits of a day's rows -/
theorem iI_nI (n : Nat) : iI (n : Int) = nI n := by
  apply Int32.toBitVec_inj.mp
  exact BitVec.ofInt_natCast 32 n
theorem sh_31 : ∀ r, r < 32 → ((nI r &&& 31 : Int32).toBitVec.smod 32).toNat = r := by decide +kernel
theorem bit_t {T r : Nat} (hT : T < 2147483648) (hr : r < 32) : ((iI T >>> (iI r &&& 31)) &&& (1 : Int32)) = iI (if T.testBit r then 1 else 0) := by
  have h2 : T / 2 ^ r ≤ T := Nat.div_le_self _ _
  rw [iI_nI, iI_nI, pk_shrN hT _ r (sh_31 r hr), pk_andN (by omega) 1 (by decide)]
  rw [Nat.testBit_eq_decide_div_mod_eq]
  rcases Nat.mod_two_eq_zero_or_one (T / 2 ^ r) with h | h
  · rw [show (2 : Nat) ^ 1 = 2 from rfl, h]
    rfl
  · rw [show (2 : Nat) ^ 1 = 2 from rfl, h]
    rfl
theorem bit_sh {T r : Nat} (hT : T < 2147483648) (hr : r < 32) : (iI T >>> (iI r &&& 31)) = iI ((T >>> r : Nat) : Int) := by
  rw [iI_nI, iI_nI, pk_shrN hT _ r (sh_31 r hr), iI_nI, Nat.shiftRight_eq_div_pow]
theorem pw_31 : ∀ r, r < 31 → 1 * 2 ^ r < 2 ^ 32 := by decide +kernel
theorem bit_set {r : Nat} (hr : r < 31) : ((1 : Int32) <<< (iI r &&& 31)) = iI ((2 ^ r : Nat) : Int) := by
  rw [iI_nI, iI_nI, show (1 : Int32) = nI 1 from rfl, pk_shlN _ r (sh_31 r (by omega)) (pw_31 r hr), Nat.one_mul]
theorem bit_or {T U : Nat} (hT : T < 4294967296) (hU : U < 4294967296) : (iI T ||| iI U) = iI ((T ||| U : Nat) : Int) := by
  rw [iI_nI, iI_nI, iI_nI]
  apply Int32.toBitVec_inj.mp
  apply BitVec.eq_of_toNat_eq
  rw [Int32.toBitVec_or, BitVec.toNat_or, pk_tn hT, pk_tn hU, pk_tn (Nat.or_lt_two_pow (n := 32) hT hU)]
theorem s_X0_smallestFree {M : Mm} {Q : Int32 → Mm → Prop} {T : Nat} (hT : T < 2147483648) (h : ∀ r : Nat, r ≤ 24 → (∀ q, q < r → T.testBit q = true) → (r < 24 → T.testBit r = false) → Q (iI r) M) : w_X0_smallestFree M (iI T) Q := by
  unfold w_X0_smallestFree
  refine loop_up (fun k x => x = (iI k, M) ∧ ∀ q, q < k → T.testBit q = true) 24 ?_ ?_ (Nat.zero_le _) ⟨rfl, fun q hq => absurd hq (Nat.not_lt_zero _)⟩
  · rintro R k x hk ⟨rfl, hb⟩ hR
    unfold w_X0_smallestFree_L2
    dsimp only
    rw [bit_t hT (by omega)]
    by_cases hc : T.testBit k = true
    · rw [if_pos hc]
      simp (disch := omega) only [lm1_, lm2_, lm3_, lm9_, lm10_, lm999_, lm1000_, l0_, l1_, l2_, l3_, l4_, l5_, l6_, l7_, l8_, l9_, l10_, l11_, l12_, l13_, l23_, l24_, l30_, l31_, l33_, l35_, l41_, l42_, l45_, l48_, l57_, l58_, l59_, l60_, l64_, l96_, l99_, l100_, l101_, l126_, l168_, l808_, l909_, l900_, l20_, l1440_, l2003_, l15486209_, l2147483647_, l999_, l1439_, iI_add, iI_sub, iI_mul, iI_neg, iI_rem, iI_lt, iI_le, iI_eq, vp_iI, cl_iI, Int.toNat_natCast]
      rw [if_neg (by omega)]
      refine hR _ ⟨rfl, fun q hq => ?_⟩
      by_cases hqk : q = k
      · rw [hqk]; exact hc
      · exact hb q (by omega)
    · rw [if_neg hc]
      simp (disch := omega) only [lm1_, lm2_, lm3_, lm9_, lm10_, lm999_, lm1000_, l0_, l1_, l2_, l3_, l4_, l5_, l6_, l7_, l8_, l9_, l10_, l11_, l12_, l13_, l23_, l24_, l30_, l31_, l33_, l35_, l41_, l42_, l45_, l48_, l57_, l58_, l59_, l60_, l64_, l96_, l99_, l100_, l101_, l126_, l168_, l808_, l909_, l900_, l20_, l1440_, l2003_, l15486209_, l2147483647_, l999_, l1439_, iI_add, iI_sub, iI_mul, iI_neg, iI_rem, iI_lt, iI_le, iI_eq, vp_iI, cl_iI, Int.toNat_natCast]
      rw [if_neg (by omega)]
      exact h k (by omega) hb (fun _ => by simpa using hc)
  · rintro R x ⟨rfl, hb⟩
    unfold w_X0_smallestFree_L2
    dsimp only
    simp (disch := omega) only [lm1_, lm2_, lm3_, lm9_, lm10_, lm999_, lm1000_, l0_, l1_, l2_, l3_, l4_, l5_, l6_, l7_, l8_, l9_, l10_, l11_, l12_, l13_, l23_, l24_, l30_, l31_, l33_, l35_, l41_, l42_, l45_, l48_, l57_, l58_, l59_, l60_, l64_, l96_, l99_, l100_, l101_, l126_, l168_, l808_, l909_, l900_, l20_, l1440_, l2003_, l15486209_, l2147483647_, l999_, l1439_, iI_add, iI_sub, iI_mul, iI_neg, iI_rem, iI_lt, iI_le, iI_eq, vp_iI, cl_iI, Int.toNat_natCast]
    rw [if_pos (by omega)]
    exact h 24 (Nat.le_refl _) hb (fun q => absurd q (Nat.lt_irrefl _))
/-- no more things in different places than places -/
theorem pig : ∀ (m n : Nat) (f : Nat → Nat), (∀ i, i < n → f i < m) → (∀ i j, i < n → j < n → f i = f j → i = j) → n ≤ m := by
  intro m
  induction m with
  | zero =>
    intro n f h _
    by_cases hn : n = 0
    · omega
    · exact absurd (h 0 (by omega)) (Nat.not_lt_zero _)
  | succ m ih =>
    intro n f h hi
    by_cases hn : n = 0
    · omega
    have h1 := ih (n - 1) (fun i => if f i = m then f (n - 1) else f i) (fun i hin => by
      split
      · rename_i hm
        have h2 := h (n - 1) (by omega)
        have h3 : f (n - 1) ≠ m := fun q => by
          have := hi i (n - 1) (by omega) (by omega) (by omega)
          omega
        omega
      · have h2 := h i (by omega)
        omega) (fun i j hin hjn he => by
      by_cases hi1 : f i = m
      · rw [if_pos hi1] at he
        by_cases hj1 : f j = m
        · exact hi i j (by omega) (by omega) (by omega)
        · rw [if_neg hj1] at he
          have := hi (n - 1) j (by omega) (by omega) he
          omega
      · rw [if_neg hi1] at he
        by_cases hj1 : f j = m
        · rw [if_pos hj1] at he
          have := hi i (n - 1) (by omega) (by omega) he
          omega
        · rw [if_neg hj1] at he
          exact hi i j (by omega) (by omega) he)
    omega
/-- which rows of the page's days are taken -/
def TK (M : Mm) (p : Nat) (B : Nat → Nat → Prop) : Prop := ∀ k, k < 42 → ∃ T : Nat, M 9 p k = iI T ∧ T < 16777216 ∧ ∀ r, T.testBit r = true ↔ B k r
theorem TK.lt {M : Mm} {p : Nat} {B : Nat → Nat → Prop} (h : TK M p B) {k r : Nat} (hk : k < 42) (hb : B k r) : r < 24 := by
  obtain ⟨T, -, h2, h3⟩ := h k hk
  have h4 := (h3 r).mpr hb
  refine Nat.lt_of_not_le (fun hr => ?_)
  have h5 : T < 2 ^ r := Nat.lt_of_lt_of_le h2 (Nat.le_trans (by decide : 16777216 ≤ 2 ^ 24) (Nat.pow_le_pow_right (by decide) hr))
  rw [Nat.testBit_lt_two_pow h5] at h4
  cases h4
theorem TK.congr {M M' : Mm} {p : Nat} {B B' : Nat → Nat → Prop} (h : TK M p B) (hM : ∀ k, k < 42 → M' 9 p k = M 9 p k) (hB : ∀ k r, k < 42 → (B k r ↔ B' k r)) : TK M' p B' := fun k hk => by
  obtain ⟨T, h1, h2, h3⟩ := h k hk
  exact ⟨T, by rw [hM k hk]; exact h1, h2, fun r => (h3 r).trans (hB k r hk)⟩
theorem pw_24 : ∀ r, r < 24 → 2 ^ r < 16777216 := by decide +kernel
/-- one more row taken on one day -/
theorem TK.set {M : Mm} {p : Nat} {B : Nat → Nat → Prop} (h : TK M p B) {k r T : Nat} (hk : k < 42) (hr : r < 24) (hT : M 9 p k = iI T) (hT2 : T < 16777216) : TK (st M 9 p k (iI ((T ||| 2 ^ r : Nat) : Int))) p (fun k' r' => B k' r' ∨ (k' = k ∧ r' = r)) := by
  intro k' hk'
  by_cases e : k' = k
  · subst e
    obtain ⟨T', h1, h2, h3⟩ := h k' hk
    have e2 : T' = T := by
      rw [hT] at h1
      have := (iI_eq (by omega) (by omega) (by omega) (by omega)).mp h1
      omega
    subst e2
    refine ⟨T' ||| 2 ^ r, st_s, Nat.or_lt_two_pow (n := 24) hT2 (pw_24 r hr), fun r' => ?_⟩
    rw [Nat.testBit_or, Nat.testBit_two_pow, Bool.or_eq_true, decide_eq_true_eq, h3 r']
    constructor
    · rintro (q | q)
      · exact Or.inl q
      · exact Or.inr ⟨rfl, q.symm⟩
    · rintro (q | q)
      · exact Or.inl q
      · exact Or.inr q.2.symm
  · obtain ⟨T', h1, h2, h3⟩ := h k' hk'
    refine ⟨T', by rw [st_d e]; exact h1, h2, fun r' => ?_⟩
    rw [h3 r']
    constructor
    · exact Or.inl
    · rintro (q | q)
      · exact q
      · exact absurd q.1 e
