/-! the law's numbers, and what it builds of them -/
def Ws (M : Mm) (A : Ab) (n : Nat) : Prop := Pl M 0 A ∧ Ok A ∧ (∃ h, Ps M h n) ∧ (∃ L R, Laid M 0 A L R) ∧ M 3 0 1 = iI 0
theorem Ps.cnt {M : Mm} {h : Nat → Ab} {n : Nat} (hp : Ps M h n) : M 1 0 2 = iI n := by
  obtain ⟨o, g1, g2, g3, g4, g5⟩ := hp
  exact g4
theorem Ws.wd {M : Mm} {A : Ab} {n : Nat} (h : Ws M A n) : ∃ L R, Wd M A L R n := by
  obtain ⟨h1, h2, ⟨hh, h3⟩, ⟨L, R, h4⟩, h5⟩ := h
  exact ⟨L, R, h1, h2, h4, h5, h3.cnt⟩
theorem Cs.ws {M M' : Mm} {A A' : Ab} {h : Nat → Ab} {n : Nat} (hC : Cs M M' A A' h n) (hO : Ok A') (h5 : M 3 0 1 = iI 0) : Ws M' A' (recN n) := by
  obtain ⟨g1, g2, g3, g4⟩ := hC
  exact ⟨g1, hO, ⟨_, g2⟩, g3, by rw [g4 3 0 (by unfold kc pgc; omega)]; exact h5⟩
theorem and_31 (x : Int32) : ∃ c : Nat, c < 2147483648 ∧ x &&& (2147483647 : Int32) = iI c := by
  have key : ∀ T : Nat, T < 4294967296 → ∃ c : Nat, c < 2147483648 ∧ iI T &&& (2147483647 : Int32) = iI c := by
    intro T hT
    refine ⟨T % 2147483648, Nat.mod_lt _ (by decide), ?_⟩
    have e : (2147483647 : Int32) = iI ((2147483647 : Nat) : Int) := by decide
    rw [e, bit_and hT (by decide)]
    have e2 : T &&& 2147483647 = T % 2147483648 := Nat.and_two_pow_sub_one_eq_mod T 31
    rw [e2]
  obtain ⟨z, rfl, h1, h2⟩ := i32_iI x
  by_cases c : 0 ≤ z
  · obtain ⟨T, hT⟩ : ∃ T : Nat, z = T := ⟨z.toNat, by omega⟩
    rw [hT]
    exact key T (by omega)
  · obtain ⟨T, hT⟩ : ∃ T : Nat, z + 4294967296 = T := ⟨(z + 4294967296).toNat, by omega⟩
    have e : iI z = iI (T : Int) := by
      have e1 : iI 4294967296 = 0 := by decide
      rw [← hT, ← iI_add, e1, Int32.add_zero]
    rw [e]
    exact key T (by omega)
theorem rem_c {c : Nat} (hc : c < 2147483648) {d : Int} (h1 : 0 < d) (h2 : d ≤ 2147483647) : iI (c : Int) - iI (c : Int) / iI d * iI d = iI ((c : Int) % d) := iI_rem (by omega) (by omega) h1 h2
theorem shr_b {c r : Nat} (hc : c < 2147483648) : c >>> r < 2147483648 := by
  rw [Nat.shiftRight_eq_div_pow]
  exact Nat.lt_of_le_of_lt (Nat.div_le_self _ _) hc
section SETS
variable {M : Mm} {Q : Int32 → Mm → Prop} {L : Nat} {xs : Nat → Int32}
theorem p_cell (hL : L ≤ 260) {k : Int} (hk : 0 ≤ k ∧ k ≤ 1000) (h : ∀ c : Nat, c < 2147483648 → Q (iI c) M) : w_L_cell L xs M (iI k) Q := by
  have e : ∀ x : Int32, Q (x &&& (2147483647 : Int32)) M := fun x => by
    obtain ⟨c, h1, h2⟩ := and_31 x
    rw [h2]
    exact h c h1
  unfold w_L_cell
  rw [show Int32.ofNat L = iI (L : Int) from (iI_nI L).symm]
  refine s_if (fun _ => e _) (fun q => ?_)
  have q : ¬ (L : Int) ≤ k := fun z => q ((iI_le (by omega) (by omega) (by omega) (by omega)).mpr z)
  exact s_ldA (by omega) (by omega) (by omega) (e _)
/-- the page is set, k entries are added -/
def Sk (M : Mm) (f l : Int) (k : Nat) : Prop := ∃ A n, Ws M A n ∧ A 0 0 = f ∧ A 0 1 = l ∧ A 0 4 = k ∧ ∀ e : Nat, (e : Int) < A 0 4 → A 2 e ≤ A 1 e + 11
theorem p_add {f l : Int} (hf : 0 ≤ f ∧ f ≤ 899) (hl : f ≤ l ∧ l ≤ f + 41) {k : Nat} (hk : k < 12) (hS : Sk M f l k) {a b t r : Int} (ha : 0 ≤ a ∧ a ≤ l + 4) (hb : a ≤ b ∧ b ≤ a + 11) (ht : tmo t) (hr : 0 ≤ r ∧ r ≤ 9) (h : ∀ M', Sk M' f l (k + 1) → Q (iI k) M') : w_X4_add M (iI a) (iI b) (iI t) (iI r) Q := by
  obtain ⟨A, n, ⟨h1, h2, ⟨hh, h3⟩, h4, h5⟩, e0, e1, e4, e2⟩ := hS
  have ok : (0 ≤ a ∧ a ≤ b ∧ b ≤ 999) ∧ tmo t ∧ 0 ≤ r ∧ r ≤ 9 := ⟨⟨by omega, by omega, by omega⟩, ht, hr⟩
  refine s_X4_add h1 h2 h3 (by omega) (by omega) (by omega) (by omega) (fun _ c M' hC => ?_) (fun _ z => absurd z (by omega)) (fun z => absurd ok z)
  rw [e4]
  have hO' : Ok (addE A a b t r) := h2.add c ok.1.1 ok.1.2.1 ok.1.2.2 (ht.elim Or.inl (fun z => Or.inr z.1)) (by omega) hr.1 hr.2
  refine h M' ⟨_, _, hC.ws hO' h5, e0, e1, by show A 0 4 + 1 = ((k + 1 : Nat) : Int); omega, fun e he => ?_⟩
  have he : (e : Int) < A 0 4 + 1 := he
  show (if (e : Int) = A 0 4 then b else A 2 e) ≤ (if (e : Int) = A 0 4 then a else A 1 e) + 11
  by_cases q : (e : Int) = A 0 4
  · rw [if_pos q, if_pos q]; omega
  · rw [if_neg q, if_neg q]; exact e2 e (by omega)
/-- what the law has built -/
def Q1 (M : Mm) : Prop := ∃ A n, Ws M A n ∧ 0 ≤ A 0 0 ∧ A 0 0 ≤ 899 ∧ 1 ≤ A 0 4 ∧ A 0 4 ≤ 12 ∧ ∀ e : Nat, (e : Int) < A 0 4 → A 2 e ≤ A 1 e + 11
theorem p_sets_turn (hL : L ≤ 260) {f l : Int} (hf : 0 ≤ f ∧ f ≤ 899) (hl : f ≤ l ∧ l ≤ f + 41) {k : Nat} {m : Int} (hk : (k : Int) < m ∧ m ≤ 12) (hS : Sk M f l k) {K Rr : Int32 × Int32 × Mm → Prop} (hR : ∀ M', Sk M' f l (k + 1) → Rr (iI 1, iI ((k : Int) + 1), M')) : w_L_sets_L85 L xs (iI f) (iI l) (iI m) K Rr (iI 1, iI k, M) := by
  unfold w_L_sets_L85
  try dsimp only
  rw [if_neg (fun z => by have := (iI_le (by omega) (by omega) (by omega) (by omega)).mp z; omega)]
  refine z1 ?_
  rw [l5_, iI_add]
  refine p_cell hL (by omega) (fun c hc => ?_)
  rw [iI_sub, show iI (l - f) + (9 : Int32) = iI (l - f + 9) by rw [l9_, iI_add]]
  refine ⟨fun z => ?_, ?_⟩
  · rw [l0_] at z
    have := (iI_eq (by omega) (by omega) (by omega) (by omega)).mp z
    omega
  try dsimp only
  rw [rem_c hc (by omega) (by omega), iI_add, l4_, iI_sub]
  have hm := Int.emod_nonneg (c : Int) (show l - f + 9 ≠ 0 by omega)
  have hm2 := Int.emod_lt_of_pos (c : Int) (show 0 < l - f + 9 by omega)
  revert hm hm2
  generalize (c : Int) % (l - f + 9) = m1
  intro hm hm2
  refine s_bI ?_
  refine s_letV (iI (max 0 (f + m1 - 4))) (fun J hJ => ?_) ?_
  · rw [l0_]
    refine s_if (fun q => ?_) (fun q => ?_)
    · have q := (iI_le (by omega) (by omega) (by omega) (by omega)).mp q
      rw [show max 0 (f + m1 - 4) = f + m1 - 4 by omega] at hJ
      exact hJ
    · have q : ¬ 0 ≤ f + m1 - 4 := fun z => q ((iI_le (by omega) (by omega) (by omega) (by omega)).mpr z)
      rw [show max 0 (f + m1 - 4) = 0 by omega] at hJ
      exact hJ
  try dsimp only
  have s6 : (iI (c : Int) >>> ((6 : Int32) &&& 31)) = iI ((c >>> 6 : Nat) : Int) := by rw [l6_]; exact bit_sh (r := 6) hc (by decide)
  have s7 : (iI (c : Int) >>> ((7 : Int32) &&& 31)) = iI ((c >>> 7 : Nat) : Int) := by rw [l7_]; exact bit_sh (r := 7) hc (by decide)
  have s11 : (iI (c : Int) >>> ((11 : Int32) &&& 31)) = iI ((c >>> 11 : Nat) : Int) := by rw [l11_]; exact bit_sh (r := 11) hc (by decide)
  have s12 : (iI (c : Int) >>> ((12 : Int32) &&& 31)) = iI ((c >>> 12 : Nat) : Int) := by rw [l12_]; exact bit_sh (r := 12) hc (by decide)
  have s23 : (iI (c : Int) >>> ((23 : Int32) &&& 31)) = iI ((c >>> 23 : Nat) : Int) := by rw [l23_]; exact bit_sh (r := 23) hc (by decide)
  rw [s6, s7, s11, s12, s23]
  have h12 := rem_c (shr_b (r := 7) hc) (d := 12) (by omega) (by omega)
  have h1440 := rem_c (shr_b (r := 12) hc) (d := 1440) (by omega) (by omega)
  have h10 := rem_c (shr_b (r := 23) hc) (d := 10) (by omega) (by omega)
  refine s_letJ (fun y => ∃ v : Int, y = iI v ∧ 0 ≤ v ∧ v ≤ 11) (fun J hJ => ?_) ?_
  · refine s_if (fun _ => hJ _ ⟨0, rfl, by omega, by omega⟩) (fun _ => ?_)
    rw [l12_, h12]
    exact hJ _ ⟨_, rfl, by omega, by omega⟩
  rintro y ⟨v, rfl, hv1, hv2⟩
  try dsimp only
  rw [iI_add]
  refine s_bI ?_
  refine s_letJ (fun y => ∃ v : Int, y = iI v ∧ tmo v) (fun J hJ => ?_) ?_
  · refine s_if (fun _ => hJ _ ⟨-9, by rw [lm9_], Or.inl rfl⟩) (fun _ => ?_)
    rw [l1440_, h1440]
    exact hJ _ ⟨_, rfl, Or.inr ⟨by omega, by omega⟩⟩
  rintro y ⟨t, rfl, ht⟩
  try dsimp only
  rw [show (10 : Int32) = iI 10 from l10_, h10]
  refine p_add hf hl (by omega) hS (by omega) (by omega) ht (by omega) (fun M' hS' => ?_)
  rw [if_pos rfl, l1_, iI_add]
  exact s_bI (hR M' hS')
theorem p_sets (hL : L ≤ 260) {A : Ab} {n : Nat} (hW : Ws M A n) (h3 : A 0 3 = 4) (h4 : A 0 4 = 0) (h : ∀ M', Q1 M' → Q (iI 1) M') : w_L_sets L xs M Q := by
  unfold w_L_sets
  rw [show (0 : Int32) = iI 0 from l0_]
  refine p_cell hL (by omega) (fun c0 hc0 => ?_)
  rw [l900_, rem_c hc0 (by omega) (by omega)]
  obtain ⟨f, hf⟩ : ∃ f : Int, f = (c0 : Int) % 900 := ⟨_, rfl⟩
  rw [← hf]
  refine s_bI ?_
  rw [show (1 : Int32) = iI 1 from l1_]
  refine p_cell hL (by omega) (fun c1 hc1 => ?_)
  rw [l42_, rem_c hc1 (by omega) (by omega), iI_add]
  obtain ⟨l, hl⟩ : ∃ l : Int, l = f + (c1 : Int) % 42 := ⟨_, rfl⟩
  rw [← hl]
  refine s_bI ?_
  rw [show (2 : Int32) = iI 2 from l2_]
  refine p_cell hL (by omega) (fun c2 hc2 => ?_)
  rw [l7_, rem_c hc2 (by omega) (by omega)]
  obtain ⟨g1, g2, ⟨hh, g3⟩, g4, g5⟩ := hW
  refine s_X4_setWeek g1 g2 g3 (by omega) (fun c M9 hC => ?_) (fun z => absurd ⟨by omega, by omega⟩ z)
  have hn9 := nW_b (g2.wd c)
  refine s_letJ (fun y => ∃ M', y = (iI 1, M') ∧ Sk M' f l 0) (fun J12 hJ12 => ?_) ?_
  · refine s_letJ (fun _ => False) (fun J40 hJ40 => ?_) (fun x hx => hx.elim)
    rw [if_neg (fun z => by have := (iI_le (by omega) (by omega) (by omega) (by omega)).mp z; omega)]
    obtain ⟨k1, k2, k3, k4⟩ := hC
    have k5 : M9 3 0 1 = iI 0 := by rw [k4 3 0 (by unfold kc pgc; omega)]; exact g5
    have oP : 0 ≤ f ∧ f ≤ l ∧ l ≤ 999 ∧ l ≤ f + 41 := by omega
    refine s_X4_setPage k1 (g2.wd c) k2 (by omega) (by omega) (fun c' M42 hC2 => ?_) (fun z => absurd oP z)
    have hn42 := nW_b ((g2.wd c).pg c')
    rw [if_neg (fun z => by have := (iI_le (by omega) (by omega) (by omega) (by omega)).mp z; omega)]
    rw [show (3 : Int32) = iI 3 from l3_]
    refine p_cell hL (by omega) (fun c3 hc3 => ?_)
    rw [rem_c hc3 (by omega) (by omega), iI_add]
    obtain ⟨q1, q2, q3, q4⟩ := hC2
    have q5 : M42 3 0 1 = iI 0 := by rw [q4 3 0 (by unfold kc pgc; omega)]; exact k5
    refine s_X4_setRows q1 ((g2.wd c).pg c') q2 q3 (by omega) (fun c'' M46 hC3 => ?_) (fun z => absurd ⟨by omega, by omega⟩ z)
    have e4 : upA (upA (upA A 0 2 ((c2 : Int) % 7)) 0 0 f) 0 1 l 0 3 = 4 := by
      rw [upA_d (by omega), upA_d (by omega), upA_d (by omega)]
      exact h3
    rw [e4, l4_, if_pos rfl]
    refine hJ12 _ ⟨M46, rfl, _, _, hC3.ws (((g2.wd c).pg c').rws c'') q5, ?_, ?_, ?_, fun e he => ?_⟩
    · rw [upA_d (by omega), upA_d (by omega), upA_s]
    · rw [upA_d (by omega), upA_s]
    · rw [upA_d (by omega), upA_d (by omega), upA_d (by omega), upA_d (by omega)]
      exact h4
    · rw [upA_d (by omega), upA_d (by omega), upA_d (by omega), upA_d (by omega), h4] at he
      omega
  rintro y ⟨M13, rfl, hS0⟩
  try dsimp only
  rw [show (4 : Int32) = iI 4 from l4_]
  refine p_cell hL (by omega) (fun c4 hc4 => ?_)
  rw [l12_, rem_c hc4 (by omega) (by omega), iI_add]
  obtain ⟨m, hm⟩ : ∃ m : Int, m = 1 + (c4 : Int) % 12 := ⟨_, rfl⟩
  rw [← hm]
  refine s_bI ?_
  refine loop_up (fun k x => ∃ M', x = (iI 1, iI k, M') ∧ Sk M' f l k) m.toNat ?_ ?_ (Nat.zero_le _) ⟨M13, rfl, hS0⟩
  · rintro Rk k x hk ⟨M', rfl, hSk⟩ hRk
    exact p_sets_turn hL (by omega) (by omega) (by omega) hSk (fun M2 hS2 => hRk _ ⟨M2, rfl, hS2⟩)
  · rintro Rk x ⟨M', rfl, hSk⟩
    unfold w_L_sets_L85
    try dsimp only
    rw [if_pos ((iI_le (by omega) (by omega) (by omega) (by omega)).mpr (by omega))]
    obtain ⟨A', n', u1, u2, u3, u4, u5⟩ := hSk
    exact ⟨bz1, h M' ⟨A', n', u1, by omega, by omega, by omega, by omega, u5⟩⟩
end SETS
