/-! ===== THE PURE PART: numbers ===== -/
def iI (z : Int) : Int32 := Int32.ofInt z
theorem iI_toInt {z : Int} (h1 : -2147483648 ≤ z) (h2 : z ≤ 2147483647) : (iI z).toInt = z := Int32.toInt_ofInt_of_le (by omega) (by omega)
theorem toInt_iI (x : Int32) : iI x.toInt = x := Int32.ofInt_toInt x
theorem iI_add (a b : Int) : iI a + iI b = iI (a + b) := (Int32.ofInt_add a b).symm
theorem iI_sub (a b : Int) : iI a - iI b = iI (a - b) := (Int32.ofInt_sub a b).symm
theorem iI_mul (a b : Int) : iI a * iI b = iI (a * b) := (Int32.ofInt_mul a b).symm
theorem iI_neg (a : Int) : -iI a = iI (-a) := (Int32.ofInt_neg a).symm
theorem iI_lt {a b : Int} (h1 : -2147483648 ≤ a) (h2 : a ≤ 2147483647) (h3 : -2147483648 ≤ b) (h4 : b ≤ 2147483647) : iI a < iI b ↔ a < b := by
  rw [Int32.lt_iff_toInt_lt, iI_toInt h1 h2, iI_toInt h3 h4]
theorem iI_le {a b : Int} (h1 : -2147483648 ≤ a) (h2 : a ≤ 2147483647) (h3 : -2147483648 ≤ b) (h4 : b ≤ 2147483647) : iI a ≤ iI b ↔ a ≤ b := by
  rw [Int32.le_iff_toInt_le, iI_toInt h1 h2, iI_toInt h3 h4]
theorem iI_eq {a b : Int} (h1 : -2147483648 ≤ a) (h2 : a ≤ 2147483647) (h3 : -2147483648 ≤ b) (h4 : b ≤ 2147483647) : iI a = iI b ↔ a = b := by
  rw [← Int32.toInt_inj, iI_toInt h1 h2, iI_toInt h3 h4]
theorem vp_iI {z : Int} {n : Nat} (h1 : -2147483648 ≤ z) (h2 : z ≤ 2147483647) : vp_in (iI z) n ↔ 0 ≤ z ∧ z < n := by
  rw [vp_in_iff, iI_toInt h1 h2]
theorem cl_iI {z : Int} (h1 : -2147483648 ≤ z) (h2 : z ≤ 2147483647) : (iI z).toNatClampNeg = z.toNat := Int32.toNatClampNeg_ofInt_of_le (by omega) (by omega)
theorem lm1_ : (-1 : Int32) = iI (-1) := by decide
theorem lm2_ : (-2 : Int32) = iI (-2) := by decide
theorem lm3_ : (-3 : Int32) = iI (-3) := by decide
theorem lm9_ : (-9 : Int32) = iI (-9) := by decide
theorem lm10_ : (-10 : Int32) = iI (-10) := by decide
theorem lm999_ : (-999 : Int32) = iI (-999) := by decide
theorem lm1000_ : (-1000 : Int32) = iI (-1000) := by decide
theorem l0_ : (0 : Int32) = iI 0 := by decide
theorem l1_ : (1 : Int32) = iI 1 := by decide
theorem l2_ : (2 : Int32) = iI 2 := by decide
theorem l3_ : (3 : Int32) = iI 3 := by decide
theorem l4_ : (4 : Int32) = iI 4 := by decide
theorem l5_ : (5 : Int32) = iI 5 := by decide
theorem l6_ : (6 : Int32) = iI 6 := by decide
theorem l7_ : (7 : Int32) = iI 7 := by decide
theorem l8_ : (8 : Int32) = iI 8 := by decide
theorem l9_ : (9 : Int32) = iI 9 := by decide
theorem l10_ : (10 : Int32) = iI 10 := by decide
theorem l11_ : (11 : Int32) = iI 11 := by decide
theorem l12_ : (12 : Int32) = iI 12 := by decide
theorem l13_ : (13 : Int32) = iI 13 := by decide
theorem l23_ : (23 : Int32) = iI 23 := by decide
theorem l24_ : (24 : Int32) = iI 24 := by decide
theorem l30_ : (30 : Int32) = iI 30 := by decide
theorem l31_ : (31 : Int32) = iI 31 := by decide
theorem l33_ : (33 : Int32) = iI 33 := by decide
theorem l35_ : (35 : Int32) = iI 35 := by decide
theorem l41_ : (41 : Int32) = iI 41 := by decide
theorem l42_ : (42 : Int32) = iI 42 := by decide
theorem l45_ : (45 : Int32) = iI 45 := by decide
theorem l48_ : (48 : Int32) = iI 48 := by decide
theorem l57_ : (57 : Int32) = iI 57 := by decide
theorem l58_ : (58 : Int32) = iI 58 := by decide
theorem l59_ : (59 : Int32) = iI 59 := by decide
theorem l60_ : (60 : Int32) = iI 60 := by decide
theorem l64_ : (64 : Int32) = iI 64 := by decide
theorem l96_ : (96 : Int32) = iI 96 := by decide
theorem l99_ : (99 : Int32) = iI 99 := by decide
theorem l100_ : (100 : Int32) = iI 100 := by decide
theorem l101_ : (101 : Int32) = iI 101 := by decide
theorem l126_ : (126 : Int32) = iI 126 := by decide
theorem l168_ : (168 : Int32) = iI 168 := by decide
theorem l808_ : (808 : Int32) = iI 808 := by decide
theorem l909_ : (909 : Int32) = iI 909 := by decide
theorem l900_ : (900 : Int32) = iI 900 := by decide
theorem l20_ : (20 : Int32) = iI 20 := by decide
theorem l1440_ : (1440 : Int32) = iI 1440 := by decide
theorem l2003_ : (2003 : Int32) = iI 2003 := by decide
theorem l15486209_ : (15486209 : Int32) = iI 15486209 := by decide
theorem l2147483647_ : (2147483647 : Int32) = iI 2147483647 := by decide
theorem l999_ : (999 : Int32) = iI 999 := by decide
theorem l1439_ : (1439 : Int32) = iI 1439 := by decide
theorem i32_iI (x : Int32) : ∃ z : Int, x = iI z ∧ -2147483648 ≤ z ∧ z ≤ 2147483647 := ⟨x.toInt, (toInt_iI x).symm, by have := Int32.le_toInt x; omega, by have := Int32.toInt_lt x; omega⟩
/-- remainders by a positive constant, of numbers that aren't negative -/
theorem iI_rem {a d : Int} (h1 : 0 ≤ a) (h2 : a ≤ 2147483647) (h3 : 0 < d) (h4 : d ≤ 2147483647) : iI a - iI a / iI d * iI d = iI (a % d) := by
  have e1 : iI a = nI a.toNat := by
    rw [← Int32.toInt_inj, iI_toInt (by omega) h2, nI_toInt (by omega)]; omega
  have e2 : iI d = nI d.toNat := by
    rw [← Int32.toInt_inj, iI_toInt (by omega) h4, nI_toInt (by omega)]; omega
  rw [e1, e2, pk_rem (by omega) (by omega) (by omega), ← Int32.toInt_inj]
  have e3 : (a % d) = ((a.toNat % d.toNat : Nat) : Int) := by
    rw [Int.natCast_emod, Int.toNat_of_nonneg h1, Int.toNat_of_nonneg (by omega)]
  have h5 : a.toNat % d.toNat < d.toNat := Nat.mod_lt _ (by omega)
  rw [nI_toInt (by omega), e3, iI_toInt (by omega) (by omega)]
/-- the steps of a functional text -/
theorem s_ldA {a : Nat → Int32} {n : Nat} {j : Int} {K : Int32 → Prop} (h0 : 0 ≤ j) (h1 : j < n) (hn : n ≤ 2147483647) (h : K (a j.toNat)) : ldA a n (iI j) K := by
  refine ⟨(vp_iI (by omega) (by omega)).mpr ⟨h0, h1⟩, ?_⟩
  rw [cl_iI (by omega) (by omega)]
  exact h
theorem s_ldN {a : Nat → Int32} {n j : Nat} {K : Int32 → Prop} (h1 : j < n) (hn : n ≤ 2147483647) (h : K (a j)) : ldA a n (iI j) K := s_ldA (by omega) (by omega) hn (by rw [Int.toNat_natCast]; exact h)
theorem s_stA {M : Mm} {c i n : Nat} {j : Int} {x : Int32} {K : Mm → Prop} (h0 : 0 ≤ j) (h1 : j < n) (hn : n ≤ 2147483647) (h : K (st M c i j.toNat x)) : stA M c i n (iI j) x K := by
  refine ⟨(vp_iI (by omega) (by omega)).mpr ⟨h0, h1⟩, ?_⟩
  rw [cl_iI (by omega) (by omega)]
  exact h
theorem s_stN {M : Mm} {c i n j : Nat} {x : Int32} {K : Mm → Prop} (h1 : j < n) (hn : n ≤ 2147483647) (h : K (st M c i j x)) : stA M c i n (iI j) x K := s_stA (by omega) (by omega) hn (by rw [Int.toNat_natCast]; exact h)
theorem s_ldR {n : Nat} {j : Int} {K : Nat → Prop} (h0 : 0 ≤ j) (h1 : j < n) (hn : n ≤ 2147483647) (h : K j.toNat) : ldR n (iI j) K := by
  refine ⟨(vp_iI (by omega) (by omega)).mpr ⟨h0, h1⟩, ?_⟩
  rw [cl_iI (by omega) (by omega)]
  exact h
theorem s_ldRN {n j : Nat} {K : Nat → Prop} (h1 : j < n) (hn : n ≤ 2147483647) (h : K j) : ldR n (iI j) K := s_ldR (by omega) (by omega) hn (by rw [Int.toNat_natCast]; exact h)
theorem s_if {c : Prop} {P1 P2 : Prop} [Decidable c] (h1 : c → P1) (h2 : ¬ c → P2) : if c then P1 else P2 := by
  by_cases h : c
  · rw [if_pos h]; exact h1 h
  · rw [if_neg h]; exact h2 h
/-- a loop that counts up, from i to n -/
theorem loop_up {S : Type} {body : (S → Prop) → S → Prop} (I : Nat → S → Prop) (n : Nat) (hs : ∀ (R : S → Prop) (i : Nat) (s : S), i < n → I i s → (∀ s', I (i + 1) s' → R s') → body R s) (he : ∀ (R : S → Prop) (s : S), I n s → body R s) {i : Nat} {s : S} (hi : i ≤ n) (h : I i s) : ∃ k, loop body k s := by
  refine loop_I (fun k s => k ≤ n ∧ I (n - k) s) ?_ (k := n - i) ⟨by omega, by rw [Nat.sub_sub_self hi]; exact h⟩
  intro R k s hI hR
  obtain ⟨h1, h2⟩ := hI
  by_cases hk : k = 0
  · subst hk
    exact he R s h2
  · refine hs R (n - k) s (by omega) h2 (fun s' h3 => hR (k - 1) s' (by omega) ⟨by omega, ?_⟩)
    rw [show n - (k - 1) = n - k + 1 by omega]
    exact h3
theorem z1 {P1 P2 : Prop} (h : P2) : if iI 1 = iI 0 then P1 else P2 := by
  rw [if_neg (by decide)]; exact h
theorem z0 {P1 P2 : Prop} (h : P1) : if iI 0 = iI 0 then P1 else P2 := by
  rw [if_pos rfl]; exact h
theorem bz1 : bz (iI 1) := Or.inr rfl
theorem bz0 : bz (iI 0) := Or.inl rfl
/-- a join: what is known of what comes there -/
theorem s_letJ {S : Type} {K : S → Prop} {F : (S → Prop) → Prop} (P : S → Prop) (hF : ∀ J : S → Prop, (∀ x, P x → J x) → F J) (hK : ∀ x, P x → K x) : letJ K F := hF K hK
theorem s_letV {S : Type} {K : S → Prop} {F : (S → Prop) → Prop} (x : S) (hF : ∀ J : S → Prop, J x → F J) (hK : K x) : letJ K F := hF K hK
theorem s_bI {x : Int32} {K : Int32 → Prop} (h : K x) : bI x K := h
theorem s_bL {x : Int64} {K : Int64 → Prop} (h : K x) : bL x K := h
