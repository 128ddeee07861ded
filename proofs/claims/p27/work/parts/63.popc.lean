/-! how many bits are set -/
theorem bit_and {T U : Nat} (hT : T < 4294967296) (hU : U < 4294967296) : (iI T &&& iI U) = iI ((T &&& U : Nat) : Int) := by
  rw [iI_nI, iI_nI, iI_nI]
  apply Int32.toBitVec_inj.mp
  apply BitVec.eq_of_toNat_eq
  rw [Int32.toBitVec_and, BitVec.toNat_and, pk_tn hT, pk_tn hU, pk_tn (Nat.lt_of_le_of_lt Nat.and_le_left hT)]
theorem land_256 {a q m k : Nat} (ha : a < 256) (hm : m < 256) : (a + 256 * q) &&& (m + 256 * k) = (a &&& m) + 256 * (q &&& k) := by
  have h1 : a &&& m < 2 ^ 8 := Nat.lt_of_le_of_lt Nat.and_le_left ha
  apply Nat.eq_of_testBit_eq
  intro i
  rw [Nat.add_comm a, Nat.add_comm m, Nat.add_comm (a &&& m), show 256 * q = 2 ^ 8 * q from rfl, show 256 * k = 2 ^ 8 * k from rfl, show 256 * (q &&& k) = 2 ^ 8 * (q &&& k) from rfl]
  rw [Nat.testBit_and, Nat.testBit_two_pow_mul_add _ ha, Nat.testBit_two_pow_mul_add _ hm, Nat.testBit_two_pow_mul_add _ h1]
  split <;> rw [Nat.testBit_and]
theorem land_3 {a b c m : Nat} (ha : a < 256) (hb : b < 256) (hc : c < 256) (hm : m < 256) : (a + 256 * b + 65536 * c) &&& (m + 256 * m + 65536 * m + 16777216 * m) = (a &&& m) + 256 * (b &&& m) + 65536 * (c &&& m) := by
  rw [show a + 256 * b + 65536 * c = a + 256 * (b + 256 * (c + 256 * 0)) by omega, show m + 256 * m + 65536 * m + 16777216 * m = m + 256 * (m + 256 * (m + 256 * m)) by omega]
  rw [land_256 ha hm, land_256 hb hm, land_256 hc hm, Nat.zero_and]
  omega
def pg1 (a : Nat) : Nat := a - (a / 2 &&& 85)
def pg2 (v : Nat) : Nat := (v &&& 51) + (v / 4 &&& 51)
def pg3 (v : Nat) : Nat := (v + v / 16) % 16
theorem pt1 : ∀ a, a < 256 → (a / 2 &&& 85) ≤ a ∧ pg1 a < 256 ∧ (a / 2 + 128 &&& 85) = (a / 2 &&& 85) := by decide +kernel
theorem pt2 : ∀ a, a < 256 → pg2 (pg1 a) < 256 ∧ pg2 (pg1 a) % 16 ≤ 4 ∧ pg2 (pg1 a) / 16 ≤ 4 := by decide +kernel
theorem pt2b : ∀ v, v < 256 → ((v / 4 + 64 &&& 51) = (v / 4 &&& 51) ∧ (v / 4 + 128 &&& 51) = (v / 4 &&& 51) ∧ (v / 4 + 192 &&& 51) = (v / 4 &&& 51)) := by decide +kernel
theorem pt3 : ∀ a, a < 256 → pg3 (pg2 (pg1 a)) = cntP (fun r => a.testBit r) 8 := by decide +kernel
theorem cntP_le8 {p : Nat → Bool} : cntP p 8 ≤ 8 := cntP_le p 8
theorem cntP_add (p : Nat → Bool) (m n : Nat) : cntP p (m + n) = cntP p m + cntP (fun r => p (m + r)) n := by
  induction n with
  | zero => rfl
  | succ n ih =>
    by_cases h : p (m + n) = true
    · rw [show m + (n + 1) = (m + n) + 1 by omega, cntP_t h, cntP_t (p := fun r => p (m + r)) h, ih]
      omega
    · rw [show m + (n + 1) = (m + n) + 1 by omega, cntP_f h, cntP_f (p := fun r => p (m + r)) h, ih]
theorem tb_low {a q i : Nat} (ha : a < 256) (hi : i < 8) : (a + 256 * q).testBit i = a.testBit i := by
  rw [Nat.add_comm, show 256 * q = 2 ^ 8 * q from rfl, Nat.testBit_two_pow_mul_add _ ha, if_pos hi]
theorem tb_high {a q i : Nat} (ha : a < 256) : (a + 256 * q).testBit (8 + i) = q.testBit i := by
  rw [Nat.add_comm, show 256 * q = 2 ^ 8 * q from rfl, Nat.testBit_two_pow_mul_add _ ha, if_neg (by omega), Nat.add_sub_cancel_left]
theorem popc_3 {a b c : Nat} (ha : a < 256) (hb : b < 256) : cntP (fun r => (a + 256 * (b + 256 * c)).testBit r) 24 = cntP (fun r => a.testBit r) 8 + cntP (fun r => b.testBit r) 8 + cntP (fun r => c.testBit r) 8 := by
  rw [show 24 = 8 + (8 + 8) from rfl, cntP_add, cntP_add]
  have e1 : cntP (fun r => (a + 256 * (b + 256 * c)).testBit r) 8 = cntP (fun r => a.testBit r) 8 := cntP_congr (fun i hi => tb_low ha hi)
  have e2 : cntP (fun r => (a + 256 * (b + 256 * c)).testBit (8 + r)) 8 = cntP (fun r => b.testBit r) 8 := cntP_congr (fun i hi => by rw [tb_high ha]; exact tb_low hb hi)
  have e3 : cntP (fun r => (a + 256 * (b + 256 * c)).testBit (8 + (8 + r))) 8 = cntP (fun r => c.testBit r) 8 := cntP_congr (fun i hi => by rw [tb_high ha]; exact tb_high hb)
  rw [e1, e2, e3]
  omega
theorem ush_n {n : Nat} (hn : n < 4294967296) (s : Int32) (k : Nat) (hs : ((s.toUInt32 &&& Int32.toUInt32 31).toBitVec % 32).toNat = k) : (Int32.toUInt32 (iI n) >>> (Int32.toUInt32 s &&& Int32.toUInt32 31)).toInt32 = iI ((n / 2 ^ k : Nat) : Int) := by
  rw [iI_nI, pk_ushrN hn s k hs, iI_nI]
theorem pg3_8 : ∀ x, x < 256 → x % 16 ≤ 4 → x / 16 ≤ 4 → pg3 x ≤ 8 := by decide +kernel
/-- the first step, on three bytes -/
theorem ps1 {a b c : Nat} (ha : a < 256) (hb : b < 256) (hc : c < 256) : ((a + 256 * b + 65536 * c) / 2 &&& 1431655765) = (a / 2 &&& 85) + 256 * (b / 2 &&& 85) + 65536 * (c / 2 &&& 85) := by
  have key : ∀ x y, x < 256 → (x / 2 + 128 * (y % 2) &&& 85) = (x / 2 &&& 85) := by
    intro x y hx
    rcases Nat.mod_two_eq_zero_or_one y with h | h
    · rw [h]; rfl
    · rw [h]; exact (pt1 x hx).2.2
  rw [show (a + 256 * b + 65536 * c) / 2 = (a / 2 + 128 * (b % 2)) + 256 * (b / 2 + 128 * (c % 2)) + 65536 * (c / 2) by omega]
  rw [show 1431655765 = 85 + 256 * 85 + 65536 * 85 + 16777216 * 85 from rfl, land_3 (by omega) (by omega) (by omega) (by omega), key a b ha, key b c hb]
theorem ps2 {a b c : Nat} (ha : a < 256) (hb : b < 256) (hc : c < 256) : ((a + 256 * b + 65536 * c) / 4 &&& 858993459) = (a / 4 &&& 51) + 256 * (b / 4 &&& 51) + 65536 * (c / 4 &&& 51) := by
  have key : ∀ x y, x < 256 → (x / 4 + 64 * (y % 4) &&& 51) = (x / 4 &&& 51) := by
    intro x y hx
    obtain ⟨t1, t2, t3⟩ := pt2b x hx
    rcases (show y % 4 = 0 ∨ y % 4 = 1 ∨ y % 4 = 2 ∨ y % 4 = 3 by omega) with h | h | h | h
    · rw [h]; rfl
    · rw [h]; exact t1
    · rw [h]; exact t2
    · rw [h]; exact t3
  rw [show (a + 256 * b + 65536 * c) / 4 = (a / 4 + 64 * (b % 4)) + 256 * (b / 4 + 64 * (c % 4)) + 65536 * (c / 4) by omega]
  rw [show 858993459 = 51 + 256 * 51 + 65536 * 51 + 16777216 * 51 from rfl, land_3 (by omega) (by omega) (by omega) (by omega), key a b ha, key b c hb]
theorem ps2a {a b c : Nat} (ha : a < 256) (hb : b < 256) (hc : c < 256) : ((a + 256 * b + 65536 * c) &&& 858993459) = (a &&& 51) + 256 * (b &&& 51) + 65536 * (c &&& 51) := by
  rw [show 858993459 = 51 + 256 * 51 + 65536 * 51 + 16777216 * 51 from rfl, land_3 ha hb hc (by omega)]
theorem ps3 {a b c : Nat} (ha : a < 256) (hb : b < 256) (hc : c < 256) : ((a + 256 * b + 65536 * c) &&& 252645135) = a % 16 + 256 * (b % 16) + 65536 * (c % 16) := by
  rw [show 252645135 = 15 + 256 * 15 + 65536 * 15 + 16777216 * 15 from rfl, land_3 ha hb hc (by omega)]
  rw [show 15 = 2 ^ 4 - 1 from rfl, Nat.and_two_pow_sub_one_eq_mod, Nat.and_two_pow_sub_one_eq_mod, Nat.and_two_pow_sub_one_eq_mod]
theorem s_bitCount {M : Mm} {Q : Int32 → Mm → Prop} {T : Nat} (hT : T < 16777216) (h : Q (iI (cntP (fun r => T.testBit r) 24)) M) : w_J6_bitCount_0f7a4 M (iI T) Q := by
  obtain ⟨a, ha⟩ : ∃ a, a = T % 256 := ⟨_, rfl⟩
  obtain ⟨b, hb⟩ : ∃ b, b = T / 256 % 256 := ⟨_, rfl⟩
  obtain ⟨c, hc⟩ : ∃ c, c = T / 65536 := ⟨_, rfl⟩
  have hT2 : T = a + 256 * b + 65536 * c := by omega
  have ha2 : a < 256 := by omega
  have hb2 : b < 256 := by omega
  have hc2 : c < 256 := by omega
  clear ha hb hc
  rw [show T = a + 256 * (b + 256 * c) by omega, popc_3 ha2 hb2, ← pt3 a ha2, ← pt3 b hb2, ← pt3 c hc2] at h
  subst hT2
  obtain ⟨a1, a2, a3⟩ := pt1 a ha2
  obtain ⟨b1, b2, b3⟩ := pt1 b hb2
  obtain ⟨c1, c2, c3⟩ := pt1 c hc2
  obtain ⟨a4, a5, a6⟩ := pt2 a ha2
  obtain ⟨b4, b5, b6⟩ := pt2 b hb2
  obtain ⟨c4, c5, c6⟩ := pt2 c hc2
  unfold w_J6_bitCount_0f7a4
  rw [ush_n (by omega) (1 : Int32) 1 (by decide), show (1431655765 : Int32) = iI ((1431655765 : Nat) : Int) from rfl, bit_and (by omega) (by omega), show 2 ^ 1 = 2 from rfl, ps1 ha2 hb2 hc2, iI_sub]
  rw [show ((a + 256 * b + 65536 * c : Nat) : Int) - (((a / 2 &&& 85) + 256 * (b / 2 &&& 85) + 65536 * (c / 2 &&& 85) : Nat) : Int) = ((pg1 a + 256 * pg1 b + 65536 * pg1 c : Nat) : Int) by unfold pg1; omega]
  refine s_bI ?_
  revert h a2 a4 a5 a6 b2 b4 b5 b6 c2 c4 c5 c6
  generalize pg1 a = a'
  generalize pg1 b = b'
  generalize pg1 c = c'
  intro h a2 b2 c2 a4 a5 a6 b4 b5 b6 c4 c5 c6
  rw [ush_n (by omega) (2 : Int32) 2 (by decide), show (858993459 : Int32) = iI ((858993459 : Nat) : Int) from rfl, bit_and (by omega) (by omega), bit_and (by omega) (by omega), show 2 ^ 2 = 4 from rfl, ps2 a2 b2 c2, ps2a a2 b2 c2, iI_add]
  rw [show (((a' &&& 51) + 256 * (b' &&& 51) + 65536 * (c' &&& 51) : Nat) : Int) + (((a' / 4 &&& 51) + 256 * (b' / 4 &&& 51) + 65536 * (c' / 4 &&& 51) : Nat) : Int) = ((pg2 a' + 256 * pg2 b' + 65536 * pg2 c' : Nat) : Int) by unfold pg2; omega]
  refine s_bI ?_
  revert h a4 a5 a6 b4 b5 b6 c4 c5 c6
  generalize pg2 a' = x
  generalize pg2 b' = y
  generalize pg2 c' = z
  intro h a4 a5 a6 b4 b5 b6 c4 c5 c6
  rw [ush_n (by omega) (4 : Int32) 4 (by decide), iI_add, show (252645135 : Int32) = iI ((252645135 : Nat) : Int) from rfl]
  rw [show ((x + 256 * y + 65536 * z : Nat) : Int) + (((x + 256 * y + 65536 * z) / 2 ^ 4 : Nat) : Int) = (((x + x / 16 + 16 * (y % 16)) + 256 * (y + y / 16 + 16 * (z % 16)) + 65536 * (z + z / 16) : Nat) : Int) by omega]
  rw [bit_and (by omega) (by omega), ps3 (by omega) (by omega) (by omega)]
  rw [show (x + x / 16 + 16 * (y % 16)) % 16 = pg3 x by unfold pg3; omega, show (y + y / 16 + 16 * (z % 16)) % 16 = pg3 y by unfold pg3; omega, show (z + z / 16) % 16 = pg3 z from rfl]
  have x3 := pg3_8 x a4 a5 a6
  have y3 := pg3_8 y b4 b5 b6
  have z3 := pg3_8 z c4 c5 c6
  refine s_bI ?_
  revert h x3 y3 z3
  generalize pg3 x = u
  generalize pg3 y = v
  generalize pg3 z = w
  intro h x3 y3 z3
  rw [ush_n (by omega) (8 : Int32) 8 (by decide), iI_add]
  rw [show ((u + 256 * v + 65536 * w : Nat) : Int) + (((u + 256 * v + 65536 * w) / 2 ^ 8 : Nat) : Int) = ((u + v + 256 * (v + w) + 65536 * w : Nat) : Int) by omega]
  refine s_bI ?_
  rw [ush_n (by omega) (16 : Int32) 16 (by decide), iI_add]
  rw [show ((u + v + 256 * (v + w) + 65536 * w : Nat) : Int) + (((u + v + 256 * (v + w) + 65536 * w) / 2 ^ 16 : Nat) : Int) = ((u + v + w + 256 * (v + w) + 65536 * w : Nat) : Int) by omega]
  refine s_bI ?_
  rw [show (63 : Int32) = iI ((2 ^ 6 - 1 : Nat) : Int) from rfl, bit_and (by omega) (by omega), Nat.and_two_pow_sub_one_eq_mod]
  rw [show (u + v + w + 256 * (v + w) + 65536 * w) % 2 ^ 6 = u + v + w by omega]
  exact h
