/-! the best day -/
noncomputable def HP (A : Ab) (r : Int) : Nat := @dite Nat (∃ n : Nat, ∃ (L : Nat → Nat → Int) (R : Nat → Int), LayL A L ∧ LayR A L R ∧ Lbd L ∧ Rbd R ∧ n = hidP A L R r) (Classical.propDecidable _) (fun h => Classical.choose h) (fun _ => 0)
theorem HP_eq {A : Ab} {L : Nat → Nat → Int} {R : Nat → Int} {r : Int} (hO : Ok A) (h1 : LayL A L) (h2 : LayR A L R) (h3 : Lbd L) (h4 : Rbd R) : HP A r = hidP A L R r := by
  have h : ∃ n : Nat, ∃ (L : Nat → Nat → Int) (R : Nat → Int), LayL A L ∧ LayR A L R ∧ Lbd L ∧ Rbd R ∧ n = hidP A L R r := ⟨_, L, R, h1, h2, h3, h4, rfl⟩
  unfold HP
  rw [dif_pos h]
  obtain ⟨L', R', a1, a2, a3, a4, a5⟩ := Classical.choose_spec h
  have e1 : L' = L := LayL_one hO h1 a1 h3
  subst e1
  have e2 : R' = R := LayR_one hO h2 a2
  subst e2
  exact a5
theorem hidS_le {A : Ab} {L : Nat → Nat → Int} {R : Nat → Int} {r a : Int} (hO : Ok A) (k : Nat) : hidS A L R r a k ≤ 24 * k := by
  have ob := hO.b
  induction k with
  | zero => exact Nat.le_refl _
  | succ k ih =>
    have : hidN A L R (a + k) (mrk (ned A L R (a + k) (A 0 4).toNat) r) (A 0 4).toNat ≤ (A 0 4).toNat := cntP_le _ _
    show hidS A L R r a k + hidN A L R (a + k) (mrk (ned A L R (a + k) (A 0 4).toNat) r) (A 0 4).toNat ≤ 24 * (k + 1)
    omega
theorem HP_le {A : Ab} (hO : Ok A) (r : Int) : HP A r ≤ 1008 := by
  have ob := hO.b
  unfold HP
  split
  · rename_i h
    obtain ⟨L', R', a1, a2, a3, a4, a5⟩ := Classical.choose_spec h
    rw [a5]
    have := hidS_le (L := L') (R := R') (r := r) (a := A 0 0) hO (A 0 1 + 1 - A 0 0).toNat
    show hidS A L' R' r (A 0 0) (A 0 1 + 1 - A 0 0).toNat ≤ 1008
    omega
  · omega
def ab (z : Int) : Int := if 0 ≤ z then z else -z
noncomputable def Hd (A : Ab) (e : Nat) (d : Int) : Int := (HP (mvE A e (d - A 1 e)) (A 0 3) : Nat)
/-- is the day better than what was found -/
def btr (A : Ab) (e : Nat) (d x : Int) (s : Int × Int) : Prop := s.1 = -9 ∨ x < s.2 ∨ x = s.2 ∧ ab (d - A 1 e) < ab (s.1 - A 1 e)
noncomputable def bsS (A : Ab) (e : Nat) : Nat → Int × Int
  | 0 => (-9, 0)
  | k + 1 => if 999 < A 2 e + (A 0 0 + k - A 1 e) then bsS A e k else @ite _ (btr A e (A 0 0 + k) (Hd A e (A 0 0 + k)) (bsS A e k)) (Classical.propDecidable _) (A 0 0 + k, Hd A e (A 0 0 + k)) (bsS A e k)
theorem bsS_off {A : Ab} {e k : Nat} (h : 999 < A 2 e + (A 0 0 + k - A 1 e)) : bsS A e (k + 1) = bsS A e k := if_pos h
theorem bsS_t {A : Ab} {e k : Nat} (h : ¬ 999 < A 2 e + (A 0 0 + k - A 1 e)) (hb : btr A e (A 0 0 + k) (Hd A e (A 0 0 + k)) (bsS A e k)) : bsS A e (k + 1) = (A 0 0 + k, Hd A e (A 0 0 + k)) := by
  show (if 999 < A 2 e + (A 0 0 + k - A 1 e) then bsS A e k else @ite _ (btr A e (A 0 0 + k) (Hd A e (A 0 0 + k)) (bsS A e k)) (Classical.propDecidable _) (A 0 0 + k, Hd A e (A 0 0 + k)) (bsS A e k)) = _
  rw [if_neg h, if_pos hb]
theorem bsS_f {A : Ab} {e k : Nat} (h : ¬ 999 < A 2 e + (A 0 0 + k - A 1 e)) (hb : ¬ btr A e (A 0 0 + k) (Hd A e (A 0 0 + k)) (bsS A e k)) : bsS A e (k + 1) = bsS A e k := by
  show (if 999 < A 2 e + (A 0 0 + k - A 1 e) then bsS A e k else @ite _ (btr A e (A 0 0 + k) (Hd A e (A 0 0 + k)) (bsS A e k)) (Classical.propDecidable _) (A 0 0 + k, Hd A e (A 0 0 + k)) (bsS A e k)) = _
  rw [if_neg h, if_neg hb]
theorem bsS_stop {A : Ab} {e k : Nat} (h : 999 < A 2 e + (A 0 0 + k - A 1 e)) (j : Nat) : bsS A e (k + j) = bsS A e k := by
  induction j with
  | zero => rfl
  | succ j ih => rw [show k + (j + 1) = (k + j) + 1 by omega, bsS_off (by omega), ih]
theorem mvE_ok {A : Ab} (hO : Ok A) {e : Nat} (he : (e : Int) < A 0 4) {d : Int} (h0 : 0 ≤ d) (h : ¬ 999 < A 2 e + (d - A 1 e)) : Ok (mvE A e (d - A 1 e)) := hO.mv (by omega) (by omega)
theorem Hd_b {A : Ab} (hO : Ok A) {e : Nat} (he : (e : Int) < A 0 4) {d : Int} (h0 : 0 ≤ d) (h : ¬ 999 < A 2 e + (d - A 1 e)) : 0 ≤ Hd A e d ∧ Hd A e d ≤ 1008 := by
  have := HP_le (mvE_ok hO he h0 h) (A 0 3)
  unfold Hd
  omega
theorem bsS_b {A : Ab} (hO : Ok A) {e : Nat} (he : (e : Int) < A 0 4) (k : Nat) (hk : (k : Int) ≤ A 0 1 - A 0 0 + 1) : -9 ≤ (bsS A e k).1 ∧ (bsS A e k).1 ≤ 999 ∧ 0 ≤ (bsS A e k).2 ∧ (bsS A e k).2 ≤ 1008 := by
  have ob := hO.b
  induction k with
  | zero =>
    show -9 ≤ (-9 : Int) ∧ (-9 : Int) ≤ 999 ∧ (0 : Int) ≤ 0 ∧ (0 : Int) ≤ 1008
    omega
  | succ k ih =>
    have ih := ih (by omega)
    by_cases h : 999 < A 2 e + (A 0 0 + k - A 1 e)
    · rw [bsS_off h]; exact ih
    · by_cases hb : btr A e (A 0 0 + k) (Hd A e (A 0 0 + k)) (bsS A e k)
      · have := Hd_b hO he (d := A 0 0 + k) (by omega) h
        rw [bsS_t h hb]
        exact ⟨by show -9 ≤ A 0 0 + (k : Int); omega, by show A 0 0 + (k : Int) ≤ 999; omega, this.1, this.2⟩
      · rw [bsS_f h hb]; exact ih
theorem mvE_mv {A : Ab} {e : Nat} {t d : Int} : upA (upA (mvE A e t) 1 e (A 1 e + d)) 2 e (A 2 e + d) = mvE A e d := by
  funext c k
  unfold mvE upA
  by_cases h1 : c = 2 ∧ k = e
  · simp [h1]
  · by_cases h2 : c = 1 ∧ k = e
    · simp [h2]
    · simp [h1, h2]
theorem mvE_0 {A : Ab} {e : Nat} : mvE A e 0 = A := by
  funext c k
  unfold mvE upA
  by_cases h1 : c = 2 ∧ k = e
  · simp [h1]
  · by_cases h2 : c = 1 ∧ k = e
    · simp [h2]
    · simp [h1, h2]
theorem mvE_back {A : Ab} {e : Nat} {t : Int} : mvE (mvE A e t) e (-t) = A := by
  have h1 : mvE A e t 1 e = A 1 e + t := by simp [mvE, upA]
  have h2 : mvE A e t 2 e = A 2 e + t := by simp [mvE, upA]
  have : mvE (mvE A e t) e (-t) = upA (upA (mvE A e t) 1 e (A 1 e + 0)) 2 e (A 2 e + 0) := by
    show upA (upA (mvE A e t) 1 e (mvE A e t 1 e + -t)) 2 e (mvE A e t 2 e + -t) = _
    rw [h1, h2, show A 1 e + t + -t = A 1 e + 0 by omega, show A 2 e + t + -t = A 2 e + 0 by omega]
  rw [this, mvE_mv, mvE_0]
/-- the cells of the trial page -/
abbrev tr1 : Nat → Nat → Prop := fun c i => (c = 11 ∨ c = 13 ∨ c = 14 ∨ c = 15 ∨ c = 16) ∧ i = 1 ∨ pgc 1 c i
section BST
variable {M : Mm} {A : Ab} {L : Nat → Nat → Int} {R : Nat → Int} {Q : Int32 → Mm → Prop}
theorem ab_c {z : Int} (h1 : -100000 ≤ z) (h2 : z ≤ 100000) : (if (iI 0) ≤ iI z then iI z else iI (0 - z)) = iI (ab z) := by
  unfold ab
  by_cases c : 0 ≤ z
  · rw [if_pos ((iI_le (by omega) (by omega) (by omega) (by omega)).mpr c), if_pos c]
  · rw [if_neg (fun q => c ((iI_le (by omega) (by omega) (by omega) (by omega)).mp q)), if_neg c, show 0 - z = -z by omega]
theorem ab_b {z : Int} (h1 : -100000 ≤ z) (h2 : z ≤ 100000) : 0 ≤ ab z ∧ ab z ≤ 100000 := by
  unfold ab
  split <;> omega
set_option maxHeartbeats 1000000 in
theorem s_X4_bestDay (hP : Pl M 0 A) (hO : Ok A) {a : Int} (ha : i32 a) (h1 : ∀ e : Nat, a = e → (e : Int) < A 0 4 → ∀ M', Pl M' 0 A → sx tr1 M M' → Q (iI (bsS A e (A 0 1 - A 0 0 + 1).toNat).1) M') (h0 : ¬ (0 ≤ a ∧ a < A 0 4) → Q (iI (-1)) M) : w_X4_bestDay M (iI a) Q := by
  have ob := hO.b
  unfold w_X4_bestDay
  simp only [lm1_, lm2_, lm3_, lm9_, lm10_, lm999_, lm1000_, l0_, l1_, l2_, l3_, l4_, l5_, l6_, l7_, l8_, l9_, l10_, l11_, l12_, l13_, l23_, l24_, l30_, l31_, l33_, l35_, l41_, l42_, l45_, l48_, l57_, l58_, l59_, l60_, l64_, l96_, l99_, l100_, l101_, l126_, l168_, l808_, l909_, l900_, l20_, l1440_, l2003_, l15486209_, l2147483647_, l999_, l1439_, iI_add, iI_sub, iI_mul, iI_neg]
  refine s_X4_isEntry hP hO ha (fun c1 => z1 ?_) (fun c1 => z0 (h0 c1))
  obtain ⟨e, rfl⟩ : ∃ e : Nat, a = e := ⟨a.toNat, by omega⟩
  have he := c1.2
  have oe := hO.e he
  have h1 := h1 e rfl he
  refine s_X2_copy hP hO (by decide) (fun M1 q1 q2 => ?_)
  have p0 : Pl M1 0 A := hP.sx q2 ⟨by unfold plc; omega, by unfold plc; omega, by unfold plc; omega, by unfold plc; omega, by unfold plc; omega⟩
  obtain ⟨p1, p2, p3, p4⟩ := p0.2 e he
  refine s_ldN (by omega) (by decide) (s_ldN (by omega) (by decide) ?_)
  rw [p1, p2, iI_sub]
  refine s_bI ?_
  rw [q1.1 0 (by decide)]
  refine s_bI ?_
  have hsx1 : sx tr1 M M1 := sx_mono q2 (fun c i q => Or.inl q)
  obtain ⟨n, hn⟩ : ∃ n : Nat, (A 0 1 - A 0 0 + 1).toNat = n := ⟨_, rfl⟩
  rw [hn] at h1
  refine loop_up (fun k x => ∃ (M' : Mm) (t : Int), x = (iI (bsS A e k).1, iI (bsS A e k).2, iI (A 0 0 + k), M') ∧ Pl M' 1 (mvE A e t) ∧ sx tr1 M M') n ?_ ?_ (Nat.zero_le _) ⟨M1, 0, by rw [show A 0 0 + ((0 : Nat) : Int) = A 0 0 by omega]; rfl, by rw [mvE_0]; exact q1, hsx1⟩
  · rintro Rr k x hk ⟨M', t, rfl, g1, g2⟩ hR
    have hsb := bsS_b hO he k (by omega)
    have hP0 : Pl M' 0 A := hP.sx g2 ⟨by unfold tr1 pgc; omega, by unfold tr1 pgc; omega, by unfold tr1 pgc; omega, by unfold tr1 pgc; omega, by unfold tr1 pgc; omega⟩
    unfold w_X4_bestDay_L71
    dsimp only
    simp only [lm1_, lm2_, lm3_, lm9_, lm10_, lm999_, lm1000_, l0_, l1_, l2_, l3_, l4_, l5_, l6_, l7_, l8_, l9_, l10_, l11_, l12_, l13_, l23_, l24_, l30_, l31_, l33_, l35_, l41_, l42_, l45_, l48_, l57_, l58_, l59_, l60_, l64_, l96_, l99_, l100_, l101_, l126_, l168_, l808_, l909_, l900_, l20_, l1440_, l2003_, l15486209_, l2147483647_, l999_, l1439_, iI_add, iI_sub, iI_mul, iI_neg]
    rw [g1.1 1 (by decide), show mvE A e t 0 1 = A 0 1 from rfl, if_neg (fun z => by have := (iI_lt (by omega) (by omega) (by omega) (by omega)).mp z; omega)]
    refine s_if (fun q => ?_) (fun q => ?_)
    · have q := (iI_lt (by omega) (by omega) (by omega) (by omega)).mp q
      have hs := bsS_stop (A := A) (e := e) (k := k) (by omega) (n - k)
      rw [show k + (n - k) = n by omega] at hs
      rw [hs] at h1
      exact h1 M' hP0 g2
    · have q : ¬ 999 < A 0 0 + k + (A 2 e - A 1 e) := fun z => q ((iI_lt (by omega) (by omega) (by omega) (by omega)).mpr z)
      have hoff : ¬ 999 < A 2 e + (A 0 0 + k - A 1 e) := by omega
      refine s_stN (by omega) (by decide) (s_stN (by omega) (by decide) ?_)
      have g3 : Pl (st (st M' 13 1 e (iI (A 0 0 + k))) 14 1 e (iI (A 0 0 + k + (A 2 e - A 1 e)))) 1 (mvE A e (A 0 0 + k - A 1 e)) := by
        have := (g1.ue (c := 1) (e := e) (by omega) (v := A 1 e + (A 0 0 + k - A 1 e))).ue (c := 2) (e := e) (by omega) (v := A 2 e + (A 0 0 + k - A 1 e))
        rw [mvE_mv] at this
        rw [show A 1 e + (A 0 0 + k - A 1 e) = A 0 0 + k by omega, show A 2 e + (A 0 0 + k - A 1 e) = A 0 0 + k + (A 2 e - A 1 e) by omega] at this
        exact this
      have g4 : sx tr1 M (st (st M' 13 1 e (iI (A 0 0 + k))) 14 1 e (iI (A 0 0 + k + (A 2 e - A 1 e)))) := sx_st (sx_st g2 (Or.inl ⟨Or.inr (Or.inl rfl), rfl⟩)) (Or.inl ⟨Or.inr (Or.inr (Or.inl rfl)), rfl⟩)
      have hOk := mvE_ok hO he (d := A 0 0 + k) (by omega) hoff
      refine s_X0_lay g3 hOk (fun M2 L2 R2 l1 l2 => ?_)
      have g5 : Pl M2 1 (mvE A e (A 0 0 + k - A 1 e)) := g3.sx l2 ⟨by unfold pgc; omega, by unfold pgc; omega, by unfold pgc; omega, by unfold pgc; omega, by unfold pgc; omega⟩
      have g6 : sx tr1 M M2 := fun c i hci => by rw [l2 c i (fun z => hci (Or.inr z)), g4 c i hci]
      rw [g5.1 3 (by decide), show mvE A e (A 0 0 + k - A 1 e) 0 3 = A 0 3 from rfl]
      refine s_X0_hiddenOnPage g5 hOk l1 (by omega) ?_
      rw [← HP_eq hOk l1.2.1 l1.2.2.1 l1.2.2.2.1 l1.2.2.2.2.1]
      have hHd : ((HP (mvE A e (A 0 0 + k - A 1 e)) (A 0 3) : Nat) : Int) = Hd A e (A 0 0 + k) := rfl
      rw [hHd]
      have hHb := Hd_b hO he (d := A 0 0 + k) (by omega) hoff
      rw [ab_c (by omega) (by omega), ab_c (by omega) (by omega)]
      have ab1 := ab_b (z := (bsS A e k).1 - A 1 e) (by omega) (by omega)
      have ab2 := ab_b (z := A 0 0 + k - A 1 e) (by omega) (by omega)
      have hyes : btr A e (A 0 0 + k) (Hd A e (A 0 0 + k)) (bsS A e k) → Rr (iI (A 0 0 + k), iI (Hd A e (A 0 0 + k)), iI (A 0 0 + k + 1), M2) := fun z => hR _ ⟨M2, _, by rw [bsS_t hoff z, show A 0 0 + ((k + 1 : Nat) : Int) = A 0 0 + k + 1 by omega], g5, g6⟩
      have hno : ¬ btr A e (A 0 0 + k) (Hd A e (A 0 0 + k)) (bsS A e k) → Rr (iI (bsS A e k).1, iI (bsS A e k).2, iI (A 0 0 + k + 1), M2) := fun z => hR _ ⟨M2, _, by rw [bsS_f hoff z, show A 0 0 + ((k + 1 : Nat) : Int) = A 0 0 + k + 1 by omega], g5, g6⟩
      refine s_letJ (fun v => v = iI 1 ∧ ab (A 0 0 + k - A 1 e) < ab ((bsS A e k).1 - A 1 e) ∨ v = iI 0 ∧ ¬ ab (A 0 0 + k - A 1 e) < ab ((bsS A e k).1 - A 1 e)) (fun J hJ => ?_) ?_
      · refine s_if (fun q => ?_) (fun q => ?_)
        · have q := (iI_le (by omega) (by omega) (by omega) (by omega)).mp q
          exact hJ _ (Or.inr ⟨rfl, by omega⟩)
        · have q : ¬ ab ((bsS A e k).1 - A 1 e) ≤ ab (A 0 0 + k - A 1 e) := fun z => q ((iI_le (by omega) (by omega) (by omega) (by omega)).mpr z)
          exact hJ _ (Or.inl ⟨rfl, by omega⟩)
      · intro v hv
        refine s_if (fun q => ?_) (fun q => ?_)
        · have q := (iI_eq (by omega) (by omega) (by omega) (by omega)).mp q
          exact s_bI (hyes (Or.inl q))
        · have q9 : ¬ (bsS A e k).1 = -9 := fun z => q (by rw [z])
          refine s_if (fun q2 => ?_) (fun q2 => ?_)
          · have q2 := (iI_lt (by omega) (by omega) (by omega) (by omega)).mp q2
            exact s_bI (hyes (Or.inr (Or.inl q2)))
          · have q2 : ¬ Hd A e (A 0 0 + k) < (bsS A e k).2 := fun z => q2 ((iI_lt (by omega) (by omega) (by omega) (by omega)).mpr z)
            refine s_if (fun q3 => ?_) (fun q3 => ?_)
            · have q3 := (iI_eq (by omega) (by omega) (by omega) (by omega)).mp q3
              rcases hv with ⟨rfl, hv⟩ | ⟨rfl, hv⟩
              · exact z1 (s_bI (hyes (Or.inr (Or.inr ⟨q3, hv⟩))))
              · exact z0 (s_bI (hno (fun z => z.elim q9 (fun z => z.elim q2 (fun z => hv z.2)))))
            · have q3 : ¬ Hd A e (A 0 0 + k) = (bsS A e k).2 := fun z => q3 (by rw [z])
              exact s_bI (hno (fun z => z.elim q9 (fun z => z.elim q2 (fun z => q3 z.1))))
  · rintro Rr x ⟨M', t, rfl, g1, g2⟩
    have hP0 : Pl M' 0 A := hP.sx g2 ⟨by unfold tr1 pgc; omega, by unfold tr1 pgc; omega, by unfold tr1 pgc; omega, by unfold tr1 pgc; omega, by unfold tr1 pgc; omega⟩
    unfold w_X4_bestDay_L71
    dsimp only
    rw [g1.1 1 (by decide), show mvE A e t 0 1 = A 0 1 from rfl, if_pos ((iI_lt (by omega) (by omega) (by omega) (by omega)).mpr (by omega))]
    exact h1 M' hP0 g2
end BST
