/-! the class reads an entry, and a text -/
def Tx (M : Mm) (x : Nat → Int) (k : Nat) : Sum Nat Nat → Prop
  | .inl f => Tf M x k f ∧ f ≤ 1000
  | .inr q => Ta M x k q ∧ q ≤ k
section CL
variable {M : Mm} {x : Nat → Int} {k p : Nat} {Q : Int32 → Mm → Prop}
theorem s_dayC (hT : Ta M x k p) (hb : Tb x k) (hp : p ≤ k) (h : ∀ (v : Int32) (M' : Mm) (r : Sum Nat Nat), Tx M' x k r → sx tx M M' → ((∃ f, r = .inl f ∧ pDay x k p = .inl f) ∨ ∃ a q, r = .inr q ∧ v = iI a ∧ pDay x k p = .inr (a, q)) → Q v M') : w_X3_readDay M Q := by
  have gk := hT.1.1
  refine s_X3_readDay hT hb hp (fun a q e M' a1 a2 => ?_) (fun f e v M' a1 a2 => ?_)
  · exact h _ M' (.inr q) ⟨a1, (pDay_b e).2.2⟩ a2 (Or.inr ⟨a, q, rfl, rfl, e⟩)
  · have := pDay_fb e
    exact h _ M' (.inl f) ⟨a1, by omega⟩ a2 (Or.inl ⟨f, rfl, e⟩)
theorem s_timeC (hT : Ta M x k p) (hb : Tb x k) (hp : p ≤ k) (h : ∀ (v : Int32) (M' : Mm) (r : Sum Nat Nat), Tx M' x k r → sx tx M M' → ((∃ f, r = .inl f ∧ pTime x k p = .inl f) ∨ ∃ a q, r = .inr q ∧ v = iI a ∧ pTime x k p = .inr (a, q)) → Q v M') : w_X3_readTime M Q := by
  have gk := hT.1.1
  refine s_X3_readTime hT hb hp (fun a q e M' a1 a2 => ?_) (fun f e v M' a1 a2 => ?_)
  · exact h _ M' (.inr q) ⟨a1, (pTime_b e).2.2⟩ a2 (Or.inr ⟨a, q, rfl, rfl, e⟩)
  · have := pTime_fb hp e
    exact h _ M' (.inl f) ⟨a1, by omega⟩ a2 (Or.inl ⟨f, rfl, e⟩)
theorem s_digC (hT : Ta M x k p) (hb : Tb x k) (hp : p ≤ k) (h : ∀ (v : Int32) (M' : Mm) (r : Sum Nat Nat), Tx M' x k r → sx tx M M' → ((r = .inl p ∧ ¬ dgt x k p) ∨ (r = .inr (p + 1) ∧ v = iI (x p - 48) ∧ dgt x k p)) → Q v M') : w_X3_readDigit M Q := by
  have gk := hT.1.1
  refine s_X3_readDigit hT hb hp (fun c M' a1 a2 => ?_) (fun c M' a1 a2 => ?_)
  · exact h _ M' (.inr (p + 1)) ⟨a1, by omega⟩ a2 (Or.inr ⟨rfl, rfl, c⟩)
  · exact h _ M' (.inl p) ⟨a1, by omega⟩ a2 (Or.inl ⟨rfl, c⟩)
theorem s_passJ {S : Type} {K : S → Prop} {F : Int32 → Mm → (S → Prop) → Prop} (P : S → Prop) {r : Sum Nat Nat} (hT : Tx M x k r) (hb : Tb x k) {c : Int} (hc : 0 ≤ c ∧ c ≤ 1000) (h1 : ∀ q, r = .inr q → chr x k q c → ∀ M', Ta M' x k (q + 1) → sx tx M M' → ∀ J : S → Prop, (∀ y, P y → J y) → F (iI 1) M' J) (h0 : (∀ q, r = .inr q → ¬ chr x k q c) → ∀ J : S → Prop, (∀ y, P y → J y) → F (iI 0) M J) (hK : ∀ y, P y → K y) : w_X3_passes M (iI c) (fun v M' => letJ K (F v M')) := by
  cases r with
  | inl f => exact s_X3_passes_f hT.1 hT.2 (s_letJ P (fun J hJ => h0 (fun q hq => by cases hq) J hJ) hK)
  | inr q => exact s_X3_passes hT.1 hb hT.2 hc (fun c1 M' a1 a2 => s_letJ P (fun J hJ => h1 q rfl c1 M' a1 a2 J hJ) hK) (fun c1 => s_letJ P (fun J hJ => h0 (fun q' hq => by cases hq; exact c1) J hJ) hK)
/-- what reading changes -/
abbrev rd : Nat → Nat → Prop := fun c i => c = 3 ∧ i = 0 ∨ plc 1 c i
set_option maxHeartbeats 1000000 in
theorem s_X3_readEntry {A : Ab} {Q : Mm → Prop} (hT : Ta M x k p) (hb : Tb x k) (hp : p ≤ k) (hP : Pl M 1 A) (hO : Ok A) (hc : A 0 4 < 24) (h1 : ∀ a b t r q, pEntry x k p = .inr (a, b, t, r, q) → ∀ M', Ta M' x k q → Pl M' 1 (addE A a b t r) → sx rd M M' → Q M') (h0 : ∀ f, pEntry x k p = .inl f → ∀ M', Tf M' x k f → sx rd M M' → Q M') : w_X3_readEntry 1 M Q := by
  have gk := hT.1.1
  unfold w_X3_readEntry
  simp only [lm1_, lm2_, lm3_, lm9_, lm10_, lm999_, lm1000_, l0_, l1_, l2_, l3_, l4_, l5_, l6_, l7_, l8_, l9_, l10_, l11_, l12_, l13_, l23_, l24_, l30_, l31_, l33_, l35_, l41_, l42_, l45_, l48_, l57_, l58_, l59_, l60_, l64_, l96_, l99_, l100_, l101_, l126_, l168_, l808_, l909_, l999_, l1439_, iI_add, iI_sub, iI_mul, iI_neg]
  refine s_dayC hT hb hp (fun v2 M1 r1 t1 s1 o1 => ?_)
  refine s_passJ (P := fun y : Int32 × Mm => ∃ r, Tx y.2 x k r ∧ sx tx M y.2 ∧ ((∃ f, r = .inl f ∧ pEntry x k p = .inl f) ∨ ∃ a b q, r = .inr q ∧ v2 = iI a ∧ y.1 = iI b ∧ pEntry x k p = pB x k a b q)) t1 hb (by omega) (fun q hr c M2 a1 a2 J hJ => ?_) (fun hr J hJ => ?_) ?_
  · rcases o1 with ⟨f, e1, -⟩ | ⟨a, q', e1, e2, e3⟩
    · rw [hr] at e1
      cases e1
    rw [hr] at e1
    cases e1
    have b1 := pDay_b e3
    refine z1 (s_dayC a1 hb (by omega) (fun v25 M3 r3 t3 s3 o3 => ?_))
    rcases o3 with ⟨f, g1, g2⟩ | ⟨b, q3, g1, g2, g3⟩
    · subst g1
      refine s_letJ (fun _ => True) (fun J2 hJ2 => s_if (fun _ => hJ2 _ trivial) (fun _ => hJ2 _ trivial)) (fun v _ => s_X3_refuse_f t3.1 t3.2 (hJ _ ⟨.inl f, t3, tx_tr s1 (tx_tr a2 s3), Or.inl ⟨f, rfl, ?_⟩⟩))
      unfold pEntry
      rw [e3]
      dsimp only
      rw [if_pos c, g2]
    · subst g1
      have b3 := pDay_b g3
      rw [e2, g2]
      by_cases cc : a ≤ b
      · refine s_letV (iI 0) (fun J2 hJ2 => ?_) (s_X3_refuse0 (hJ _ ⟨.inr q3, t3, tx_tr s1 (tx_tr a2 s3), Or.inr ⟨a, b, q3, rfl, e2, rfl, ?_⟩⟩))
        · rw [if_pos ((iI_le (by omega) (by omega) (by omega) (by omega)).mpr cc)]
          exact hJ2
        · unfold pEntry
          rw [e3]
          dsimp only
          rw [if_pos c, g3]
          dsimp only
          rw [if_neg (by omega)]
      · refine s_letV (iI 1) (fun J2 hJ2 => ?_) (s_X3_refuse1 t3.1 (by omega) (fun M4 d1 d2 => hJ _ ⟨.inl (q3 - 1), ⟨d1, by omega⟩, tx_tr s1 (tx_tr a2 (tx_tr s3 d2)), Or.inl ⟨_, rfl, ?_⟩⟩))
        · rw [if_neg (fun z => cc ((iI_le (by omega) (by omega) (by omega) (by omega)).mp z))]
          exact hJ2
        · unfold pEntry
          rw [e3]
          dsimp only
          rw [if_pos c, g3]
          dsimp only
          rw [if_pos (by omega)]
  · refine z0 (hJ _ ⟨r1, t1, s1, ?_⟩)
    rcases o1 with ⟨f, e1, e2⟩ | ⟨a, q', e1, e2, e3⟩
    · refine Or.inl ⟨f, e1, ?_⟩
      unfold pEntry
      rw [e2]
    · refine Or.inr ⟨a, a, q', e1, e2, e2, ?_⟩
      unfold pEntry
      rw [e3]
      dsimp only
      rw [if_neg (hr q' e1)]
  rintro ⟨v5, M7⟩ ⟨r7, t7, s7, o7⟩
  dsimp only at t7 s7 o7 ⊢
  refine s_passJ (P := fun y : Int32 × Mm => ∃ r, Tx y.2 x k r ∧ sx tx M y.2 ∧ ((∃ f, r = .inl f ∧ pEntry x k p = .inl f) ∨ ∃ a b t q, r = .inr q ∧ v2 = iI a ∧ v5 = iI b ∧ y.1 = iI t ∧ pEntry x k p = pC x k a b t q)) t7 hb (by omega) (fun q hr c M2 a1 a2 J hJ => ?_) (fun hr J hJ => ?_) ?_
  · rcases o7 with ⟨f, e1, -⟩ | ⟨a, b, q', e1, e2, e3, e4⟩
    · rw [hr] at e1
      cases e1
    rw [hr] at e1
    cases e1
    rw [pB, if_pos c] at e4
    refine z1 (s_timeC a1 hb (by omega) (fun v25 M3 r3 t3 s3 o3 => hJ _ ⟨r3, t3, tx_tr s7 (tx_tr a2 s3), ?_⟩))
    rcases o3 with ⟨f, g1, g2⟩ | ⟨t, q3, g1, g2, g3⟩
    · rw [g2] at e4
      exact Or.inl ⟨f, g1, e4⟩
    · rw [g3] at e4
      exact Or.inr ⟨a, b, t, q3, g1, e2, e3, g2, e4⟩
  · refine z0 (hJ _ ⟨r7, t7, s7, ?_⟩)
    rcases o7 with ⟨f, e1, e2⟩ | ⟨a, b, q', e1, e2, e3, e4⟩
    · exact Or.inl ⟨f, e1, e2⟩
    · rw [pB, if_neg (hr q' e1)] at e4
      exact Or.inr ⟨a, b, -9, q', e1, e2, e3, rfl, e4⟩
  rintro ⟨v10, M12⟩ ⟨r12, t12, s12, o12⟩
  dsimp only at t12 s12 o12 ⊢
  refine s_passJ (P := fun y : Int32 × Mm => ∃ r, Tx y.2 x k r ∧ sx tx M y.2 ∧ ((∃ f, r = .inl f ∧ pEntry x k p = .inl f) ∨ ∃ a b t u q, r = .inr q ∧ v2 = iI a ∧ v5 = iI b ∧ v10 = iI t ∧ y.1 = iI u ∧ pEntry x k p = pD x k a b t u q)) t12 hb (by omega) (fun q hr c M2 a1 a2 J hJ => ?_) (fun hr J hJ => ?_) ?_
  · rcases o12 with ⟨f, e1, -⟩ | ⟨a, b, t, q', e1, e2, e3, e4, e5⟩
    · rw [hr] at e1
      cases e1
    rw [hr] at e1
    cases e1
    rw [pC, if_pos c] at e5
    refine z1 (s_digC a1 hb (by omega) (fun v25 M3 r3 t3 s3 o3 => hJ _ ⟨r3, t3, tx_tr s12 (tx_tr a2 s3), ?_⟩))
    rcases o3 with ⟨g1, g2⟩ | ⟨g1, g2, g3⟩
    · rw [if_neg g2] at e5
      exact Or.inl ⟨_, g1, e5⟩
    · rw [if_pos g3] at e5
      exact Or.inr ⟨a, b, t, _, _, g1, e2, e3, e4, g2, e5⟩
  · refine z0 (hJ _ ⟨r12, t12, s12, ?_⟩)
    rcases o12 with ⟨f, e1, e2⟩ | ⟨a, b, t, q', e1, e2, e3, e4, e5⟩
    · exact Or.inl ⟨f, e1, e2⟩
    · rw [pC, if_neg (hr q' e1)] at e5
      exact Or.inr ⟨a, b, t, 0, q', e1, e2, e3, e4, rfl, e5⟩
  rintro ⟨v15, M17⟩ ⟨r17, t17, s17, o17⟩
  dsimp only at t17 s17 o17 ⊢
  rcases o17 with ⟨f, e1, e2⟩ | ⟨a, b, t, u, q', e1, e2, e3, e4, e5, e6⟩
  · subst e1
    refine s_X3_require_f t17.1 t17.2 ?_
    rw [if_neg (t17.1.ne t17.2)]
    exact h0 f e2 M17 t17.1 (sx_mono s17 (fun c i q => Or.inl q))
  · subst e1 e2 e3 e4 e5
    refine s_X3_require t17.1 hb t17.2 (by omega) (fun c M18 a1 a2 => ?_) (fun c M18 a1 a2 => ?_)
    · rw [pD, if_pos c] at e6
      have s18 := tx_tr s17 a2
      rw [a1.2.2, if_pos rfl]
      have hP18 : Pl M18 1 A := hP.sx s18 ⟨by omega, by omega, by omega, by omega, by omega⟩
      refine s_X2_append hP18 hO hc (fun M19 d1 d2 => h1 _ _ _ _ _ e6 M19 ⟨⟨a1.1.1, ?_, fun j hj => ?_⟩, ?_, ?_⟩ d1 (fun c i hci => (d2 c i (fun z => hci (Or.inr z))).trans (s18 c i (fun z => hci (Or.inl z)))))
      · rw [d2 3 0 (by unfold plc; omega)]; exact a1.1.2.1
      · rw [d2 4 0 (by unfold plc; omega)]; exact a1.1.2.2 j hj
      · rw [d2 3 0 (by unfold plc; omega)]; exact a1.2.1
      · rw [d2 3 0 (by unfold plc; omega)]; exact a1.2.2
    · rw [pD, if_neg c] at e6
      have hq := t17.2
      rw [if_neg (a1.ne (by omega))]
      exact h0 _ e6 M18 a1 (sx_mono (tx_tr s17 a2) (fun c i q => Or.inl q))
theorem s_X3_read {A : Ab} {N : Nat} (hN : stopE x k N) (hno : ∀ i, i < N → ¬ stopE x k i) (hN24 : N ≤ 24) (hT : Tc M x k) (hb : Tb x k) (hP : Pl M 1 A) (hO : Ok A) (h1 : k ≤ posE x k N → ∀ M', Tc M' x k → Pl M' 1 (ldE A x k N) → sx rd M M' → Q (iI (-1)) M') (h0 : ¬ k ≤ posE x k N → 0 ≤ fltE x k N → ∀ M', Tc M' x k → sx rd M M' → Q (iI (fltE x k N)) M') : w_X3_read 1 M Q := by
  have gk := hT.1
  have hfb := flt_b hno
  unfold w_X3_read
  simp only [lm1_, lm2_, lm3_, lm9_, lm10_, lm999_, lm1000_, l0_, l1_, l2_, l3_, l4_, l5_, l6_, l7_, l8_, l9_, l10_, l11_, l12_, l13_, l23_, l24_, l30_, l31_, l33_, l35_, l41_, l42_, l45_, l48_, l57_, l58_, l59_, l60_, l64_, l96_, l99_, l100_, l101_, l126_, l168_, l808_, l909_, l999_, l1439_, iI_add, iI_sub, iI_mul, iI_neg]
  refine s_stF (s_stF (s_stF ?_))
  have i1 : Ta (st (st (st M 3 0 2 (iI 0)) 3 0 3 (iI (-1))) 11 1 4 (iI 0)) x k 0 := ⟨⟨hT.1, by rw [st_ne _ _ (by omega), st_d (by omega), st_d (by omega)]; exact hT.2.1, fun j hj => by rw [st_ne _ _ (by omega), st_ne _ _ (by omega), st_ne _ _ (by omega)]; exact hT.2.2 j hj⟩, by rw [st_ne _ _ (by omega), st_d (by omega), st_s]; rfl, by rw [st_ne _ _ (by omega), st_s]⟩
  have i2 : Pl (st (st (st M 3 0 2 (iI 0)) 3 0 3 (iI (-1))) 11 1 4 (iI 0)) 1 (ldE A x k 0) := by
    refine ⟨fun j hj => ?_, fun e he => ?_⟩
    · by_cases h4 : j = 4
      · rw [h4, st_s]
        rfl
      · rw [st_d h4, st_ne _ _ (by omega), st_ne _ _ (by omega), hP.1 j hj]
        simp [ldE, h4]
    · have : ldE A x k 0 0 4 = 0 := rfl
      omega
  have i3 : sx rd M (st (st (st M 3 0 2 (iI 0)) 3 0 3 (iI (-1))) 11 1 4 (iI 0)) := sx_st (sx_st (sx_st sx_rf (Or.inl ⟨rfl, rfl⟩)) (Or.inl ⟨rfl, rfl⟩)) (Or.inr ⟨Or.inl rfl, rfl⟩)
  revert i1 i2 i3
  generalize st (st (st M 3 0 2 (iI 0)) 3 0 3 (iI (-1))) 11 1 4 (iI 0) = M0
  intro i1 i2 i3
  refine loop_I (fun m s => (∃ (e : Nat) (M' : Mm), m = 30 - e ∧ e ≤ N ∧ s = (iI e, M') ∧ Ta M' x k (posE x k e) ∧ Pl M' 1 (ldE A x k e) ∧ sx rd M M') ∨ m = 0 ∧ ¬ k ≤ posE x k N ∧ ∃ (v : Nat) (M' : Mm) (f : Nat), v ≤ 30 ∧ s = (iI v, M') ∧ Tf M' x k f ∧ f ≤ 1000 ∧ fltE x k N = f ∧ sx rd M M') ?_ (k := 30) (Or.inl ⟨0, M0, rfl, Nat.zero_le _, rfl, i1, i2, i3⟩)
  rintro R m s (⟨e, M', rfl, he, rfl, g1, g2, g3⟩ | ⟨rfl, hpos, v, M', f, hv, rfl, g1, g2, g3, g4⟩) hR
  · have hpk := pos_le e (fun i hi => hno i (by omega))
    unfold w_X3_read_L17
    dsimp only
    simp only [lm1_, lm2_, lm3_, lm9_, lm10_, lm999_, lm1000_, l0_, l1_, l2_, l3_, l4_, l5_, l6_, l7_, l8_, l9_, l10_, l11_, l12_, l13_, l23_, l24_, l30_, l31_, l33_, l35_, l41_, l42_, l45_, l48_, l57_, l58_, l59_, l60_, l64_, l96_, l99_, l100_, l101_, l126_, l168_, l808_, l909_, l999_, l1439_, iI_add, iI_sub, iI_mul, iI_neg]
    rw [if_neg (fun z => by have := (iI_lt (by omega) (by omega) (by omega) (by omega)).mp z; omega)]
    rw [g1.1.2.1, g1.2.1]
    refine s_if (fun q => ?_) (fun q => ?_)
    · have q := (iI_le (by omega) (by omega) (by omega) (by omega)).mp q
      have heN : e = N := Classical.byContradiction (fun z => hno e (by omega) (Or.inl (by omega)))
      subst heN
      rw [g1.2.2]
      exact h1 (by omega) M' g1.1 g2 g3
    · have q : ¬ (k : Int) ≤ posE x k e := fun z => q ((iI_le (by omega) (by omega) (by omega) (by omega)).mpr z)
      rw [g1.2.2, if_pos rfl]
      refine s_if (fun q2 => ?_) (fun q2 => ?_)
      · have q2 := (iI_eq (by omega) (by omega) (by omega) (by omega)).mp q2
        have heN : e = N := by omega
        subst heN
        refine s_stF (s_bI (hR 0 _ (by omega) (Or.inr ⟨rfl, by omega, e + 1, _, posE x k e, by omega, rfl, g1.flt, by omega, ?_, sx_st g3 (Or.inl ⟨rfl, rfl⟩)⟩)))
        unfold fltE
        rw [if_neg (by omega), if_pos (by omega)]
      · have q2 : ¬ e = 24 := fun z => q2 (by rw [z]; rfl)
        have hOe := ldE_ok (A := A) (n := e) hO (fun i hi => hno i (by omega)) (by omega)
        refine s_X3_readEntry g1 hb hpk g2 hOe (by show (e : Int) < 24; omega) (fun a b t r q' e1 M2 d1 d2 d3 => ?_) (fun f e1 M2 d1 d3 => ?_)
        · have heN : e ≠ N := fun z => by
            rw [← z] at hN
            rcases hN with hN | hN | ⟨f, hN⟩
            · omega
            · omega
            · rw [e1] at hN
              cases hN
          obtain ⟨n1, n2, a', b', t', r', q'', n3, n4, n5⟩ := stop_no (hno e (by omega))
          rw [e1] at n3
          cases n3
          rw [ldE_add n5] at d2
          refine s_bI (hR (30 - (e + 1)) _ (by omega) (Or.inl ⟨e + 1, M2, rfl, by omega, rfl, by rw [n4]; exact d1, d2, fun c i hci => (d3 c i hci).trans (g3 c i hci)⟩))
        · have heN : e = N := Classical.byContradiction (fun z => hno e (by omega) (Or.inr (Or.inr ⟨f, e1⟩)))
          subst heN
          have hfk := pEntry_fb hpk e1
          refine s_bI (hR 0 _ (by omega) (Or.inr ⟨rfl, by omega, e + 1, M2, f, by omega, rfl, d1, by omega, ?_, fun c i hci => (d3 c i hci).trans (g3 c i hci)⟩))
          unfold fltE
          rw [if_neg (by omega), if_neg q2, e1]
  · have hout : Q (M' 3 0 3) M' := by
      rw [g1.2, ← g3]
      exact h0 hpos (by omega) M' g1.1 g4
    unfold w_X3_read_L17
    dsimp only
    simp only [lm1_, lm2_, lm3_, lm9_, lm10_, lm999_, lm1000_, l0_, l1_, l2_, l3_, l4_, l5_, l6_, l7_, l8_, l9_, l10_, l11_, l12_, l13_, l23_, l24_, l30_, l31_, l33_, l35_, l41_, l42_, l45_, l48_, l57_, l58_, l59_, l60_, l64_, l96_, l99_, l100_, l101_, l126_, l168_, l808_, l909_, l999_, l1439_, iI_add, iI_sub, iI_mul, iI_neg]
    refine s_if (fun _ => hout) (fun _ => s_if (fun _ => hout) (fun _ => ?_))
    rw [if_neg (g1.ne g2)]
    exact hout
end CL
