theorem kb_congr {A : Ab} {L L' : Nat → Nat → Int} {w : Nat} (h : ∀ x, w ≠ 0 → L' x (w - 1) = L x (w - 1)) (o : Nat) : kb A L' w o = kb A L w o := by
  unfold kb
  by_cases hw : w = 0
  · rw [if_pos hw, if_pos hw]
  · rw [if_neg hw, if_neg hw, h o hw]
theorem prv_congr {L L' : Nat → Nat → Int} {w : Nat} (h : ∀ x, w ≠ 0 → L' x (w - 1) = L x (w - 1)) (o : Nat) : prv L' w o = prv L w o := by
  unfold prv
  by_cases hw : w = 0
  · rw [if_pos hw, if_pos hw]
  · rw [if_neg hw, if_neg hw, h o hw]
theorem clash_congr {A : Ab} {L L' : Nat → Nat → Int} {w e : Nat} (h : ∀ x, w ≠ 0 → L' x (w - 1) = L x (w - 1)) (h2 : ∀ o, bar A w o → kb A L w o < kb A L w e → L' o w = L o w) (r : Int) : clash A L' w e r ↔ clash A L w e r := by
  unfold clash
  constructor
  · rintro ⟨o, h3, h4, h5, h6⟩
    rw [kb_congr h, kb_congr h] at h4
    exact ⟨o, h3, h4, by rw [← h2 o h3 h4]; exact h5, h6⟩
  · rintro ⟨o, h3, h4, h5, h6⟩
    exact ⟨o, h3, by rw [kb_congr h, kb_congr h]; exact h4, by rw [h2 o h3 h4]; exact h5, h6⟩
theorem LaneAt_congr {A : Ab} {L L' : Nat → Nat → Int} {w e : Nat} (h : ∀ x, w ≠ 0 → L' x (w - 1) = L x (w - 1)) (h2 : ∀ o, bar A w o → kb A L w o < kb A L w e → L' o w = L o w) (h3 : L' e w = L e w) : LaneAt A L' w e ↔ LaneAt A L w e := by
  unfold LaneAt
  rw [prv_congr h, h3, clash_congr h h2, clash_congr h h2]
  have : (∀ r, 0 ≤ r → r < L e w → clash A L' w e r) ↔ (∀ r, 0 ≤ r → r < L e w → clash A L w e r) := ⟨fun q r a b => (clash_congr h h2 r).mp (q r a b), fun q r a b => (clash_congr h h2 r).mpr (q r a b)⟩
  rw [this]
/-- lanes that are lanes -/
def Lbd (L : Nat → Nat → Int) : Prop := ∀ e w, (L e w = -9 ∨ 0 ≤ L e w) ∧ L e w < 24
/-- the lanes in the memory of page p -/
def Lmem (M : Mm) (p : Nat) (L : Nat → Nat → Int) : Prop := ∀ e w, e < 24 → w < 7 → M 12 (24 * p + e) w = iI (L e w)
section WEEK
variable {M : Mm} {p : Nat} {A : Ab} {L : Nat → Nat → Int} {B0 : Nat → Nat → Prop} {w : Nat} {l : List Nat}
theorem ovl_iff (hO : Ok A) (hw : (w : Int) < nW A) {x e : Nat} (hx : bar A w x) (he : bar A w e) : (∃ d, (bs A w e ≤ d ∧ d ≤ bt A w e) ∧ bs A w x ≤ d ∧ d ≤ bt A w x) ↔ A 1 x ≤ A 2 e ∧ A 1 e ≤ A 2 x := by
  obtain ⟨a1, a2, a3, a4⟩ := bs_bt hO hw hx
  obtain ⟨b1, b2, b3, b4⟩ := bs_bt hO hw he
  have h1 := hx.2.2
  have h2 := he.2.2
  constructor
  · rintro ⟨d, q1, q2⟩
    omega
  · intro q
    refine ⟨max (bs A w x) (bs A w e), ?_⟩
    omega
set_option maxHeartbeats 2000000 in
theorem s_week (hP : Pl M p A) (hO : Ok A) (hW : Wk M p A) (hw : (w : Int) < nW A) (hmem : Lmem M p L) (hbd : Lbd L) (hz : ∀ e, L e w = -9) (hord : Ord (kb A L w) l) (hl : ∀ x, x ∈ l ↔ bar A w x) (hlen : l.length ≤ 24) (h57 : M 5 p 7 = iI l.length) (harr : ∀ j x : Nat, l[j]? = some x → M 10 p j = iI x) (hT : TK M p B0) (hB0 : ∀ d r x, bar A w x → bs A w x ≤ d → d ≤ bt A w x → ¬ B0 d r) {K : Int32 × Mm → Prop}
    (hK : ∀ (M' : Mm) (L' : Nat → Nat → Int), Lmem M' p L' → Lbd L' → (∀ e w', w' ≠ w → L' e w' = L e w') → (∀ e, bar A w e → LaneAt A L' w e) → (∀ e, ¬ bar A w e → L' e w = -9) → TK M' p (fun d r => B0 d r ∨ ∃ x, bar A w x ∧ bs A w x ≤ d ∧ d ≤ bt A w x ∧ L' x w = r) → sx (fun c i => c = 9 ∧ i = p ∨ c = 12 ∧ 24 * p ≤ i ∧ i < 24 * p + 24) M M' → K (iI l.length, M')) : ∃ n, loop (w_X0_lay_L25 p (iI w) K) n ((0 : Int32), M) := by
  have hn := nW_b hO
  have ob := hO.b
  refine loop_up (fun k x => ∃ (M' : Mm) (L' : Nat → Nat → Int), x = (iI k, M') ∧ Lmem M' p L' ∧ Lbd L' ∧ (∀ e w', w' ≠ w → L' e w' = L e w') ∧ (∀ j x : Nat, j < k → l[j]? = some x → LaneAt A L' w x) ∧ (∀ x : Nat, (∀ j, j < k → ¬ l[j]? = some x) → L' x w = -9) ∧ TK M' p (fun d r => B0 d r ∨ ∃ j x : Nat, j < k ∧ l[j]? = some x ∧ bs A w x ≤ d ∧ d ≤ bt A w x ∧ L' x w = r) ∧ sx (fun c i => c = 9 ∧ i = p ∨ c = 12 ∧ 24 * p ≤ i ∧ i < 24 * p + 24) M M') l.length ?_ ?_ (Nat.zero_le _) ⟨M, L, rfl, hmem, hbd, fun _ _ _ => rfl, fun j x hj => absurd hj (Nat.not_lt_zero _), fun x _ => hz x, hT.congr (fun _ _ => rfl) (fun d r _ => ⟨Or.inl, fun q => q.elim id (fun ⟨j, _, hj, _⟩ => absurd hj (Nat.not_lt_zero _))⟩), sx_rf⟩
  · rintro R k x hk ⟨M', L', rfl, g1, g2, g3, g4, g5, g6, g7⟩ hR
    obtain ⟨e, hke⟩ : ∃ e, l[k]? = some e := ⟨l[k], List.getElem?_eq_getElem hk⟩
    have heb : bar A w e := (hl e).mp (List.mem_of_getElem? hke)
    have he1 := heb.1
    have hP' : Pl M' p A := hP.sx g7 ⟨by omega, by omega, by omega, by omega, by omega⟩
    have hW' : Wk M' p A := hW.sx g7 (by rw [g7 5 p (by omega)]) (by omega)
    have g3w : ∀ x, w ≠ 0 → L' x (w - 1) = L x (w - 1) := fun x h0 => g3 x (w - 1) (by omega)
    unfold w_X0_lay_L25
    dsimp only
    rw [g7 5 p (by omega), h57]
    simp (disch := omega) only [lm1_, lm2_, lm3_, lm9_, lm10_, lm999_, lm1000_, l0_, l1_, l2_, l3_, l4_, l5_, l6_, l7_, l8_, l9_, l10_, l11_, l12_, l13_, l23_, l24_, l30_, l31_, l33_, l35_, l41_, l42_, l45_, l48_, l57_, l58_, l59_, l60_, l64_, l96_, l99_, l100_, l101_, l126_, l168_, l808_, l909_, l900_, l20_, l1440_, l2003_, l15486209_, l2147483647_, l999_, l1439_, iI_add, iI_sub, iI_mul, iI_neg, iI_rem, iI_lt, iI_le, iI_eq, vp_iI, cl_iI, Int.toNat_natCast]
    rw [if_neg (by omega)]
    refine s_ldN (by omega) (by decide) ?_
    rw [g7 10 p (by omega), harr k e hke]
    have hlk : ∀ j x : Nat, j < k → l[j]? = some x → bar A w x ∧ kb A L w x < kb A L w e ∧ x ≠ e := by
      intro j x hj hx
      have h1 := hord.lt hj hx hke
      refine ⟨(hl x).mp (List.mem_of_getElem? hx), h1, fun q => ?_⟩
      rw [q] at h1
      omega
    have hM' : Lw M' p A L' w := fun o ho h0 => ⟨g1 o (w - 1) (by omega) (by omega), g2 o (w - 1)⟩
    -- the rows that are taken are those of the bars before it
    have hU : ∀ (L2 : Nat → Nat → Int), (∀ x, x ≠ e → L2 x w = L' x w) → (∀ x, w ≠ 0 → L2 x (w - 1) = L' x (w - 1)) → ∀ q : Nat, (∃ d, bs A w e ≤ d ∧ d ≤ bt A w e ∧ (B0 d q ∨ ∃ j x : Nat, j < k ∧ l[j]? = some x ∧ bs A w x ≤ d ∧ d ≤ bt A w x ∧ L' x w = q)) ↔ clash A L2 w e q := by
      intro L2 hL2 hL2w q
      have hkb : ∀ o, kb A L2 w o = kb A L w o := fun o => (kb_congr hL2w o).trans (kb_congr g3w o)
      constructor
      · rintro ⟨d, q1, q2, q3 | ⟨j, x, q3, q4, q5, q6, q7⟩⟩
        · exact absurd q3 (hB0 d q e heb q1 q2)
        · obtain ⟨h1, h2, h3⟩ := hlk j x q3 q4
          have h4 := (ovl_iff hO hw h1 heb).mp ⟨d, ⟨q1, q2⟩, q5, q6⟩
          exact ⟨x, h1, by rw [hkb, hkb]; exact h2, by rw [hL2 x h3]; exact q7, h4⟩
      · rintro ⟨o, h1, h2, h3, h4⟩
        rw [hkb, hkb] at h2
        obtain ⟨j, hj⟩ := List.getElem?_of_mem ((hl o).mpr h1)
        have hjk : j < k := (hord.at hj hke).mp h2
        obtain ⟨d, q1, q2, q3⟩ := (ovl_iff hO hw h1 heb).mpr h4
        have h5 := (hlk j o hjk hj).2.2
        exact ⟨d, q1.1, q1.2, Or.inr ⟨j, o, hjk, hj, q2, q3, by rw [← hL2 o h5]; exact h3⟩⟩
    have hfree : ∃ r, r < 24 ∧ ¬ ∃ d, bs A w e ≤ d ∧ d ≤ bt A w e ∧ (B0 d r ∨ ∃ j x : Nat, j < k ∧ l[j]? = some x ∧ bs A w x ≤ d ∧ d ≤ bt A w x ∧ L' x w = r) := by
      refine Classical.byContradiction fun hno => ?_
      have hall : ∀ r : Nat, r < 24 → ∃ x : Nat, x < 24 ∧ x ≠ e ∧ L' x w = (r : Int) := by
        intro r hr
        have h1 : ∃ d, bs A w e ≤ d ∧ d ≤ bt A w e ∧ (B0 d r ∨ ∃ j x : Nat, j < k ∧ l[j]? = some x ∧ bs A w x ≤ d ∧ d ≤ bt A w x ∧ L' x w = r) := Classical.byContradiction fun z => hno ⟨r, hr, z⟩
        obtain ⟨o, o1, o2, o3, o4⟩ := (hU L' (fun _ _ => rfl) (fun _ _ => rfl) r).mp h1
        refine ⟨o, by have := o1.1; omega, fun z => ?_, o3⟩
        rw [z] at o2
        omega
      have hp := pig 24 25 (fun r => if h : r < 24 then Classical.choose (hall r h) else e) (fun i hi => by
        split
        · rename_i h
          exact (Classical.choose_spec (hall i h)).1
        · omega) (fun i j hi hj hij => by
        by_cases h1 : i < 24
        · rw [dif_pos h1] at hij
          have c1 := Classical.choose_spec (hall i h1)
          by_cases h2 : j < 24
          · rw [dif_pos h2] at hij
            have c2 := Classical.choose_spec (hall j h2)
            rw [← hij] at c2
            have := c1.2.2.symm.trans c2.2.2
            omega
          · rw [dif_neg h2] at hij
            exact absurd hij c1.2.1
        · rw [dif_neg h1] at hij
          by_cases h2 : j < 24
          · rw [dif_pos h2] at hij
            have c2 := Classical.choose_spec (hall j h2)
            exact absurd hij.symm c2.2.1
          · omega)
      omega
    refine s_X0_layBar hP' hO hW' hw hM' g6 heb hfree (fun M2 r hr hplace m1 m2 m3 m4 => ?_)
    obtain ⟨L2, hL2⟩ : ∃ L2 : Nat → Nat → Int, L2 = fun x w' => if x = e ∧ w' = w then (r : Int) else L' x w' := ⟨_, rfl⟩
    have z1 : L2 e w = r := by rw [hL2]; exact if_pos ⟨rfl, rfl⟩
    have z2 : ∀ x w', ¬ (x = e ∧ w' = w) → L2 x w' = L' x w' := fun x w' hn => by rw [hL2]; exact if_neg hn
    have z3 : ∀ x, w ≠ 0 → L2 x (w - 1) = L' x (w - 1) := fun x h0 => z2 x (w - 1) (by omega)
    have hU2 := hU L2 (fun x hx => z2 x w (by omega)) z3
    refine hR _ ⟨M2, L2, rfl, fun x w' hx hw' => ?_, fun x w' => ?_, fun x w' hw' => ?_, fun j x hj hx => ?_, fun x hx => ?_, m3.congr (fun _ _ => rfl) (fun d q _ => ?_), fun c i hci => ?_⟩
    · by_cases hxe : x = e
      · rw [hxe]
        by_cases hww : w' = w
        · rw [hww, m1, z1]
        · rw [m2 w' hww, z2 e w' (fun q => hww q.2)]
          exact g1 e w' (by omega) hw'
      · rw [m4 12 _ (by omega), z2 x w' (fun q => hxe q.1)]
        exact g1 x w' hx hw'
    · by_cases hxe : x = e ∧ w' = w
      · rw [hxe.1, hxe.2, z1]
        omega
      · rw [z2 x w' hxe]
        exact g2 x w'
    · rw [z2 x w' (by omega)]
      exact g3 x w' hw'
    · by_cases hjk : j = k
      · rw [hjk, hke] at hx
        cases hx
        unfold LaneAt
        rw [prv_congr z3, z1]
        rcases hplace with ⟨p1, p2, p3⟩ | ⟨p1, p2, p3⟩
        · refine Or.inl ⟨p1, fun q => p2 ?_, p3⟩
          rw [← p3] at q ⊢
          exact (hU2 r).mpr q
        · refine Or.inr ⟨?_, by omega, fun q => p2 ((hU2 r).mpr q), fun r' h0 h1 => ?_⟩
          · by_cases hp9 : prv L' w e = -9
            · exact Or.inl hp9
            · refine Or.inr ?_
              have hp0 : ((prv L' w e).toNat : Int) = prv L' w e := by
                refine Int.toNat_of_nonneg ?_
                unfold prv at hp9 ⊢
                by_cases hw0 : w = 0
                · rw [if_pos hw0] at hp9; omega
                · rw [if_neg hw0] at hp9 ⊢
                  exact (g2 e (w - 1)).1.resolve_left hp9
              have := (hU2 (prv L' w e).toNat).mp (p1.resolve_left hp9)
              rwa [hp0] at this
          · have h2 := p3 r'.toNat (by omega)
            have := (hU2 r'.toNat).mp h2
            rwa [Int.toNat_of_nonneg h0] at this
      · have hjk2 : j < k := by omega
        obtain ⟨h1, h2, h3⟩ := hlk j x hjk2 hx
        refine (LaneAt_congr z3 (fun o ho hko => z2 o w (fun q => ?_)) (z2 x w (fun q => h3 q.1))).mpr (g4 j x hjk2 hx)
        rw [kb_congr g3w, kb_congr g3w, q.1] at hko
        omega
    · have h1 : x ≠ e := fun q => hx k (by omega) (by rw [q]; exact hke)
      rw [z2 x w (fun q => h1 q.1)]
      exact g5 x (fun j hj => hx j (by omega))
    · constructor
      · rintro ((q | ⟨j, x, q1, q2, q3, q4, q5⟩) | ⟨q1, q2, q3⟩)
        · exact Or.inl q
        · exact Or.inr ⟨j, x, by omega, q2, q3, q4, by rw [z2 x w (fun q => (hlk j x q1 q2).2.2 q.1)]; exact q5⟩
        · exact Or.inr ⟨k, e, by omega, hke, q1, q2, by rw [z1, q3]⟩
      · rintro (q | ⟨j, x, q1, q2, q3, q4, q5⟩)
        · exact Or.inl (Or.inl q)
        · by_cases hjk : j = k
          · rw [hjk, hke] at q2
            cases q2
            rw [z1] at q5
            exact Or.inr ⟨q3, q4, by omega⟩
          · have hjk2 : j < k := by omega
            rw [z2 x w (fun q => (hlk j x hjk2 q2).2.2 q.1)] at q5
            exact Or.inl (Or.inr ⟨j, x, hjk2, q2, q3, q4, q5⟩)
    · rw [m4 c i (by omega)]
      exact g7 c i hci
  · rintro R x ⟨M', L', rfl, g1, g2, g3, g4, g5, g6, g7⟩
    unfold w_X0_lay_L25
    dsimp only
    rw [g7 5 p (by omega), h57]
    simp (disch := omega) only [lm1_, lm2_, lm3_, lm9_, lm10_, lm999_, lm1000_, l0_, l1_, l2_, l3_, l4_, l5_, l6_, l7_, l8_, l9_, l10_, l11_, l12_, l13_, l23_, l24_, l30_, l31_, l33_, l35_, l41_, l42_, l45_, l48_, l57_, l58_, l59_, l60_, l64_, l96_, l99_, l100_, l101_, l126_, l168_, l808_, l909_, l900_, l20_, l1440_, l2003_, l15486209_, l2147483647_, l999_, l1439_, iI_add, iI_sub, iI_mul, iI_neg, iI_rem, iI_lt, iI_le, iI_eq, vp_iI, cl_iI, Int.toNat_natCast]
    rw [if_pos (by omega)]
    refine hK M' L' g1 g2 g3 (fun e he => ?_) (fun e he => g5 e (fun j hj hx => he ((hl e).mp (List.mem_of_getElem? hx)))) (g6.congr (fun _ _ => rfl) (fun d r _ => ?_)) g7
    · obtain ⟨j, hj⟩ := List.getElem?_of_mem ((hl e).mpr he)
      exact g4 j e (List.getElem?_eq_some_iff.mp hj).1 hj
    · constructor
      · rintro (q | ⟨j, x, q1, q2, q3⟩)
        · exact Or.inl q
        · exact Or.inr ⟨x, (hl x).mp (List.mem_of_getElem? q2), q3⟩
      · rintro (q | ⟨x, q1, q3⟩)
        · exact Or.inl q
        · obtain ⟨j, hj⟩ := List.getElem?_of_mem ((hl x).mpr q1)
          exact Or.inr ⟨j, x, (List.getElem?_eq_some_iff.mp hj).1, hj, q3⟩
end WEEK
