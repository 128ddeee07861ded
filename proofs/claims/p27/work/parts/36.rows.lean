section ROWS
variable {M : Mm} {p : Nat} {A : Ab} {L : Nat → Nat → Int}
/-- what is taken by bars alone -/
abbrev Bb (A : Ab) (L : Nat → Nat → Int) (d r : Nat) : Prop := ∃ w x : Nat, (w : Int) < nW A ∧ bar A w x ∧ bs A w x ≤ d ∧ d ≤ bt A w x ∧ L x w = r
theorem dk_eq {e : Nat} (he : sh A e) : (dk A e : Int) = A 1 e - A 0 0 := by
  unfold dk
  have := he.2.2
  omega
set_option maxHeartbeats 2000000 in
theorem s_rows {l : List Nat} (hP : Pl M p A) (hO : Ok A) (hord : Ord (ks A) l) (hl : ∀ x, x ∈ l ↔ sh A x) (hlen : l.length ≤ 24) (h57 : M 5 p 7 = iI l.length) (harr : ∀ j x : Nat, l[j]? = some x → M 10 p j = iI x) (h8 : ∀ e, e < 24 → M 8 p e = iI (-9)) (hT : TK M p (Bb A L)) {K : Int32 × Mm → Prop}
    (hK : ∀ (x : Int32) (M' : Mm) (R : Nat → Int), LayR A L R → Rbd R → (∀ e, e < 24 → M' 8 p e = iI (R e)) → TK M' p (fun d r => Bb A L d r ∨ ∃ x, sh A x ∧ d = dk A x ∧ R x = r) → sx (fun c i => (c = 8 ∨ c = 9) ∧ i = p) M M' → K (x, M')) : ∃ n, loop (w_X0_lay_L62 p K) n ((0 : Int32), M) := by
  have ob := hO.b
  refine loop_up (fun k x => ∃ (M' : Mm) (R : Nat → Int), x = (iI k, M') ∧ Rbd R ∧ (∀ e, e < 24 → M' 8 p e = iI (R e)) ∧ (∀ j x : Nat, j < k → l[j]? = some x → RowAt A L R x) ∧ (∀ x : Nat, (∀ j, j < k → ¬ l[j]? = some x) → R x = -9) ∧ TK M' p (fun d r => Bb A L d r ∨ ∃ j x : Nat, j < k ∧ l[j]? = some x ∧ d = dk A x ∧ R x = r) ∧ sx (fun c i => (c = 8 ∨ c = 9) ∧ i = p) M M') l.length ?_ ?_ (Nat.zero_le _) ⟨M, fun _ => -9, rfl, fun _ => ⟨Or.inl rfl, (by decide : (-9 : Int) < 24)⟩, fun e he => h8 e he, fun j x hj => absurd hj (Nat.not_lt_zero _), fun _ _ => rfl, hT.congr (fun _ _ => rfl) (fun d r _ => ⟨Or.inl, fun q => q.elim id (fun ⟨j, _, hj, _⟩ => absurd hj (Nat.not_lt_zero _))⟩), sx_rf⟩
  · rintro Rr k x hk ⟨M', R, rfl, g1, g2, g3, g4, g5, g6⟩ hR
    obtain ⟨e, hke⟩ : ∃ e, l[k]? = some e := ⟨l[k], List.getElem?_eq_getElem hk⟩
    have hes : sh A e := (hl e).mp (List.mem_of_getElem? hke)
    have hd := dk_eq hes
    have hes1 := hes.1
    have hes2 := hes.2.2
    have hP' : Pl M' p A := hP.sx g6 ⟨by omega, by omega, by omega, by omega, by omega⟩
    unfold w_X0_lay_L62
    dsimp only
    rw [g6 5 p (by omega), h57]
    simp (disch := omega) only [lm1_, lm2_, lm3_, lm9_, lm10_, lm999_, lm1000_, l0_, l1_, l2_, l3_, l4_, l5_, l6_, l7_, l8_, l9_, l10_, l11_, l12_, l13_, l23_, l24_, l30_, l31_, l33_, l35_, l41_, l42_, l45_, l48_, l57_, l58_, l59_, l60_, l64_, l96_, l99_, l100_, l101_, l126_, l168_, l808_, l909_, l900_, l20_, l1440_, l2003_, l15486209_, l2147483647_, l999_, l1439_, iI_add, iI_sub, iI_mul, iI_neg, iI_rem, iI_lt, iI_le, iI_eq, vp_iI, cl_iI, Int.toNat_natCast]
    rw [if_neg (by omega)]
    refine s_ldN (by omega) (by decide) ?_
    rw [g6 10 p (by omega), harr k e hke]
    have hlk : ∀ j x : Nat, j < k → l[j]? = some x → sh A x ∧ ks A x < ks A e ∧ x ≠ e := by
      intro j x hj hx
      have h1 := hord.lt hj hx hke
      refine ⟨(hl x).mp (List.mem_of_getElem? hx), h1, fun q => ?_⟩
      rw [q] at h1
      omega
    have hU : ∀ R2 : Nat → Int, (∀ x, x ≠ e → R2 x = R x) → ∀ q : Nat, (Bb A L (dk A e) q ∨ ∃ j x : Nat, j < k ∧ l[j]? = some x ∧ dk A e = dk A x ∧ R x = q) ↔ tkn A L R2 e q := by
      intro R2 hR2 q
      constructor
      · rintro (⟨w, x, q1, q2, q3, q4, q5⟩ | ⟨j, x, q1, q2, q3, q4⟩)
        · have hb := bs_bt hO q1 q2
          have hwk : wk A (A 1 e) = w := (wk_in hO hes2.1 hes2.2 (by omega) q1).mpr (by omega)
          have h1 := (day_bar hO (o := x) (D := A 1 e) hes2.1 hes2.2).mpr ⟨w, q1, by rw [hwk, Int.toNat_natCast], q2, by omega, by omega⟩
          exact Or.inl ⟨x, h1.1, h1.2.1, h1.2.2.1, h1.2.2.2, by rw [hwk, Int.toNat_natCast]; exact q5⟩
        · obtain ⟨h1, h2, h3⟩ := hlk j x q1 q2
          have := dk_eq h1
          exact Or.inr ⟨x, h1, by omega, h2, by rw [hR2 x h3]; exact q4⟩
      · rintro (⟨o, q1, q2, q3, q4, q5⟩ | ⟨o, q1, q2, q3, q4⟩)
        · obtain ⟨w, w1, w2, w3, w4, w5⟩ := (day_bar hO (o := o) (D := A 1 e) hes2.1 hes2.2).mp ⟨q1, q2, q3, q4⟩
          exact Or.inl ⟨w, o, w1, w3, by omega, by omega, by rw [w2]; exact q5⟩
        · obtain ⟨j, hj⟩ := List.getElem?_of_mem ((hl o).mpr q1)
          have hjk : j < k := (hord.at hj hke).mp q3
          have := dk_eq q1
          exact Or.inr ⟨j, o, hjk, hj, by omega, by rw [← hR2 o (hlk j o hjk hj).2.2]; exact q4⟩
    have hfree : ∃ r, r < 24 ∧ ¬ (Bb A L (dk A e) r ∨ ∃ j x : Nat, j < k ∧ l[j]? = some x ∧ dk A e = dk A x ∧ R x = r) := by
      refine Classical.byContradiction fun hno => ?_
      have hall : ∀ r : Nat, r < 24 → ∃ x : Nat, x < 24 ∧ x ≠ e ∧ (if lng A x then L x (wk A (A 1 e)).toNat else R x) = (r : Int) := by
        intro r hr
        have h1 : Bb A L (dk A e) r ∨ ∃ j x : Nat, j < k ∧ l[j]? = some x ∧ dk A e = dk A x ∧ R x = r := Classical.byContradiction fun z => hno ⟨r, hr, z⟩
        rcases (hU R (fun _ _ => rfl) r).mp h1 with ⟨o, o1, o2, o3, o4, o5⟩ | ⟨o, o1, o2, o3, o4⟩
        · exact ⟨o, by omega, fun z => hes.2.1 (by rw [← z]; exact o2), by rw [if_pos o2]; exact o5⟩
        · refine ⟨o, by have := o1.1; omega, fun z => ?_, by rw [if_neg o1.2.1]; exact o4⟩
          rw [z] at o3
          omega
      have hp := pig 24 25 (fun r => if h : r < 24 then Classical.choose (hall r h) else e) (fun i hi => by
        split
        · rename_i h
          exact (Classical.choose_spec (hall i h)).1
        · omega) (fun i j hi hj hij => by
        by_cases h1 : i < 24
        · rw [dif_pos h1] at hij
          have c1 := Classical.choose_spec (hall i h1)
          by_cases h2 : j < 24
          · rw [dif_pos h2] at hij
            have c2 := Classical.choose_spec (hall j h2)
            rw [← hij] at c2
            have := c1.2.2.symm.trans c2.2.2
            omega
          · rw [dif_neg h2] at hij
            exact absurd hij c1.2.1
        · rw [dif_neg h1] at hij
          by_cases h2 : j < 24
          · rw [dif_pos h2] at hij
            have c2 := Classical.choose_spec (hall j h2)
            exact absurd hij.symm c2.2.1
          · omega)
      omega
    refine s_X0_stack hP' hO g5 hes hfree (fun M2 r hr p1 p2 m1 m2 m3 m4 => ?_)
    obtain ⟨R2, hR2⟩ : ∃ R2 : Nat → Int, R2 = fun x => if x = e then (r : Int) else R x := ⟨_, rfl⟩
    have z1 : R2 e = r := by rw [hR2]; exact if_pos rfl
    have z2 : ∀ x, x ≠ e → R2 x = R x := fun x hn => by rw [hR2]; exact if_neg hn
    have hU2 := hU R2 z2
    refine hR _ ⟨M2, R2, rfl, fun x => ?_, fun x hx => ?_, fun j x hj hx => ?_, fun x hx => ?_, m3.congr (fun _ _ => rfl) (fun d q _ => ?_), fun c i hci => ?_⟩
    · by_cases hxe : x = e
      · rw [hxe, z1]
        omega
      · rw [z2 x hxe]
        exact g1 x
    · by_cases hxe : x = e
      · rw [hxe, m1, z1]
      · rw [m2 x hxe, z2 x hxe]
        exact g2 x hx
    · by_cases hjk : j = k
      · rw [hjk, hke] at hx
        cases hx
        unfold RowAt
        rw [z1]
        refine ⟨by omega, fun q => p1 ((hU2 r).mpr q), fun r' h0 h1 => ?_⟩
        have := (hU2 r'.toNat).mp (p2 r'.toNat (by omega))
        rwa [Int.toNat_of_nonneg h0] at this
      · have hjk2 : j < k := by omega
        obtain ⟨h1, h2, h3⟩ := hlk j x hjk2 hx
        refine (RowAt_congr (fun o _ hko => z2 o (fun q => ?_)) (z2 x h3)).mpr (g3 j x hjk2 hx)
        rw [q] at hko
        omega
    · have h1 : x ≠ e := fun q => hx k (by omega) (by rw [q]; exact hke)
      rw [z2 x h1]
      exact g4 x (fun j hj => hx j (by omega))
    · constructor
      · rintro ((q | ⟨j, x, q1, q2, q3, q4⟩) | ⟨q1, q2⟩)
        · exact Or.inl q
        · exact Or.inr ⟨j, x, by omega, q2, q3, by rw [z2 x (hlk j x q1 q2).2.2]; exact q4⟩
        · exact Or.inr ⟨k, e, by omega, hke, q1, by rw [z1, q2]⟩
      · rintro (q | ⟨j, x, q1, q2, q3, q4⟩)
        · exact Or.inl (Or.inl q)
        · by_cases hjk : j = k
          · rw [hjk, hke] at q2
            cases q2
            rw [z1] at q4
            exact Or.inr ⟨q3, by omega⟩
          · have hjk2 : j < k := by omega
            rw [z2 x (hlk j x hjk2 q2).2.2] at q4
            exact Or.inl (Or.inr ⟨j, x, hjk2, q2, q3, q4⟩)
    · rw [m4 c i hci]
      exact g6 c i hci
  · rintro Rr x ⟨M', R, rfl, g1, g2, g3, g4, g5, g6⟩
    unfold w_X0_lay_L62
    dsimp only
    rw [g6 5 p (by omega), h57]
    simp (disch := omega) only [lm1_, lm2_, lm3_, lm9_, lm10_, lm999_, lm1000_, l0_, l1_, l2_, l3_, l4_, l5_, l6_, l7_, l8_, l9_, l10_, l11_, l12_, l13_, l23_, l24_, l30_, l31_, l33_, l35_, l41_, l42_, l45_, l48_, l57_, l58_, l59_, l60_, l64_, l96_, l99_, l100_, l101_, l126_, l168_, l808_, l909_, l900_, l20_, l1440_, l2003_, l15486209_, l2147483647_, l999_, l1439_, iI_add, iI_sub, iI_mul, iI_neg, iI_rem, iI_lt, iI_le, iI_eq, vp_iI, cl_iI, Int.toNat_natCast]
    rw [if_pos (by omega)]
    refine hK _ M' R (fun e => ⟨fun q => ?_, fun q => g4 e (fun j hj hx => q ((hl e).mp (List.mem_of_getElem? hx)))⟩) g1 g2 (g5.congr (fun _ _ => rfl) (fun d r _ => ?_)) g6
    · obtain ⟨j, hj⟩ := List.getElem?_of_mem ((hl e).mpr q)
      exact g3 j e (List.getElem?_eq_some_iff.mp hj).1 hj
    · constructor
      · rintro (q | ⟨j, x, q1, q2, q3⟩)
        · exact Or.inl q
        · exact Or.inr ⟨x, (hl x).mp (List.mem_of_getElem? q2), q3⟩
      · rintro (q | ⟨x, q1, q3⟩)
        · exact Or.inl q
        · obtain ⟨j, hj⟩ := List.getElem?_of_mem ((hl x).mpr q1)
          exact Or.inr ⟨j, x, (List.getElem?_eq_some_iff.mp hj).1, hj, q3⟩
/-- the class lays a page -/
theorem s_X0_lay {Q : Mm → Prop} (hP : Pl M p A) (hO : Ok A) (h : ∀ (M' : Mm) (L : Nat → Nat → Int) (R : Nat → Int), Laid M' p A L R → sx (pgc p) M M' → Q M') : w_X0_lay p M Q := by
  have ob := hO.b
  unfold w_X0_lay
  refine s_X0_cutWeeks hP hO (fun M1 hW1 hs1 h15 => ?_)
  have hP1 : Pl M1 p A := hP.sx hs1 ⟨by unfold wkc; omega, by unfold wkc; omega, by unfold wkc; omega, by unfold wkc; omega, by unfold wkc; omega⟩
  refine s_X0_wipe (fun M2 a1 a2 a3 hs2 => ?_)
  have hP2 : Pl M2 p A := hP1.sx hs2 ⟨by omega, by omega, by omega, by omega, by omega⟩
  have hW2 : Wk M2 p A := hW1.sx hs2 (by rw [hs2 5 p (by omega)]) (by omega)
  refine s_bars hP2 hO hW2 a1 a3 (fun x M3 L l1 l2 l3 l4 hW3 hs3 => ?_)
  have hP3 : Pl M3 p A := hP2.sx hs3 ⟨by omega, by omega, by omega, by omega, by omega⟩
  dsimp only
  refine s_X0_orderShortOnes hP3 hO (fun M4 l q1 q2 q3 q4 q5 q6 q7 => ?_)
  have hP4 : Pl M4 p A := hP3.sx q6 ⟨by omega, by omega, by omega, by omega, by omega⟩
  have hW4 : Wk M4 p A := hW3.sx q6 (q7 1 (by decide)) (by omega)
  refine s_rows hP4 hO q1 q2 q3 q4 q5 (fun e he => by rw [q6 8 p (by omega), hs3 8 p (by omega)]; exact a2 e he) (l4.congr (fun k _ => by rw [q6 9 p (by omega)]) (fun _ _ _ => Iff.rfl)) (fun x M5 R r1 r2 r3 r4 hs5 => ?_)
  refine h M5 L R ⟨hW4.sx hs5 (by rw [hs5 5 p (by omega)]) (by omega), l1, r1, l2, r2, fun e w he hw => ?_, r3, r4.congr (fun _ _ => rfl) (fun d r hd => ?_)⟩ (fun c i hn => ?_)
  · rw [hs5 12 _ (by omega), q6 12 _ (by omega)]
    exact l3 e w he hw
  · constructor
    · rintro (⟨w, x, b1, b2, b3, b4, b5⟩ | ⟨x, b1, b2, b3⟩)
      · have hb := bs_bt hO b1 b2
        have hwb := wS_b hO (w := w) (by omega) (by omega)
        have hwb2 := wS_b hO (w := w + 1) (by omega) (by omega)
        have hwl : wL A w = wS A (w + 1) - 1 := rfl
        have hwk : wk A (A 0 0 + d) = w := (wk_in hO (by omega) (by omega) (by omega) b1).mpr (by omega)
        have h1 := (day_bar hO (o := x) (D := A 0 0 + d) (by omega) (by omega)).mpr ⟨w, b1, by rw [hwk, Int.toNat_natCast], b2, by omega, by omega⟩
        exact ⟨x, h1.1, by omega, Or.inl ⟨h1.2.1, h1.2.2.1, h1.2.2.2, by rw [hwk, Int.toNat_natCast]; exact b5⟩⟩
      · have := dk_eq b1
        have := b1.2.2
        exact ⟨x, b1.1, by omega, Or.inr ⟨b1.2.1, by omega, b3⟩⟩
    · rintro ⟨x, x1, x2, ⟨y1, y2, y3, y4⟩ | ⟨y1, y2, y3⟩⟩
      · obtain ⟨w, w1, w2, w3, w4, w5⟩ := (day_bar hO (o := x) (D := A 0 0 + d) (by omega) (by omega)).mp ⟨x1, y1, y2, y3⟩
        exact Or.inl ⟨w, x, w1, w3, by omega, by omega, by rw [w2]; exact y4⟩
      · have hs : sh A x := ⟨x1, y1, by omega, by omega⟩
        have := dk_eq hs
        exact Or.inr ⟨x, hs, by omega, y3⟩
  · unfold pgc at hn
    rw [hs5 c i (by omega), q6 c i (by omega), hs3 c i (by omega), hs2 c i (by omega), hs1 c i (by unfold wkc; omega)]
end ROWS
