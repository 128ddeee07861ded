def mvE (A : Ab) (e : Nat) (d : Int) : Ab := upA (upA A 1 e (A 1 e + d)) 2 e (A 2 e + d)
abbrev tmo (t : Int) : Prop := t = -9 ∨ 0 ≤ t ∧ t ≤ 1439
theorem Ok.mv {A : Ab} (hO : Ok A) {e : Nat} {d : Int} (h1 : 0 ≤ A 1 e + d) (h2 : A 2 e + d ≤ 999) : Ok (mvE A e d) := by
  refine hO.ents (fun k => rfl) (fun o ho => ?_)
  have oo := hO.e ho
  have e1 : mvE A e d 1 o = if o = e then A 1 e + d else A 1 o := by
    by_cases q : o = e
    · rw [if_pos q, q]; simp [mvE, upA]
    · rw [if_neg q]; simp [mvE, upA, q]
  have e2 : mvE A e d 2 o = if o = e then A 2 e + d else A 2 o := by
    by_cases q : o = e
    · rw [if_pos q, q]; simp [mvE, upA]
    · rw [if_neg q]; simp [mvE, upA, q]
  have e3 : mvE A e d 3 o = A 3 o := by simp [mvE, upA]
  have e4 : mvE A e d 4 o = A 4 o := by simp [mvE, upA]
  rw [e1, e2, e3, e4]
  by_cases q : o = e
  · rw [if_pos q, if_pos q]
    rw [q] at oo ⊢
    omega
  · rw [if_neg q, if_neg q]
    exact oo
theorem Ok.str {A : Ab} (hO : Ok A) {e : Nat} {d : Int} (h1 : A 1 e ≤ d) (h2 : d ≤ 999) : Ok (upA A 2 e d) := by
  refine hO.ents (fun k => rfl) (fun o ho => ?_)
  have oo := hO.e ho
  by_cases q : o = e
  · rw [q] at oo ⊢
    rw [upA_d (by omega), upA_s, upA_d (by omega), upA_d (by omega)]
    omega
  · rw [upA_d (by omega), upA_d (by omega), upA_d (by omega), upA_d (by omega)]
    exact oo
theorem Ok.stl {A : Ab} (hO : Ok A) {e : Nat} {t r : Int} (h1 : tmo t) (h2 : 0 ≤ r ∧ r ≤ 9) : Ok (upA (upA A 3 e t) 4 e r) := by
  refine hO.ents (fun k => rfl) (fun o ho => ?_)
  have oo := hO.e ho
  by_cases q : o = e
  · rw [q] at oo ⊢
    rw [upA_d (by omega), upA_d (by omega), upA_d (by omega), upA_d (by omega), upA_d (by omega), upA_s, upA_s]
    omega
  · rw [upA_d (by omega), upA_d (by omega), upA_d (by omega), upA_d (by omega), upA_d (by omega), upA_d (by omega), upA_d (by omega), upA_d (by omega)]
    exact oo
section MMV
variable {M : Mm} {A : Ab} {h : Nat → Ab} {n : Nat} {Q : Int32 → Mm → Prop}
theorem s_X5_moves {Q : Mm → Prop} (hP : Pm M 0 A) (hO : Ok A) {e : Nat} (he : (e : Int) < A 0 4) {d : Int} (hQ : Q (st (st M 18 0 (5 + 4 * e) (iI (A 1 e + d))) 18 0 (5 + 4 * e + 1) (iI (A 2 e + d)))) : w_X5_moves M (iI e) (iI d) Q := by
  have ob := hO.b
  unfold w_X5_moves
  simp only [lm1_, lm2_, lm3_, lm9_, lm10_, lm999_, lm1000_, l0_, l1_, l2_, l3_, l4_, l5_, l6_, l7_, l8_, l9_, l10_, l11_, l12_, l13_, l23_, l24_, l30_, l31_, l33_, l35_, l41_, l42_, l45_, l48_, l57_, l58_, l59_, l60_, l64_, l96_, l99_, l100_, l101_, l126_, l168_, l808_, l909_, l999_, l1439_, iI_add, iI_sub, iI_mul, iI_neg]
  refine s_ldA (by omega) (by omega) (by decide) ?_
  rw [show (5 + 4 * (e : Int)).toNat = 5 + 4 * e by omega, (hP.y he).1]
  simp only [lm1_, lm2_, lm3_, lm9_, lm10_, lm999_, lm1000_, l0_, l1_, l2_, l3_, l4_, l5_, l6_, l7_, l8_, l9_, l10_, l11_, l12_, l13_, l23_, l24_, l30_, l31_, l33_, l35_, l41_, l42_, l45_, l48_, l57_, l58_, l59_, l60_, l64_, l96_, l99_, l100_, l101_, l126_, l168_, l808_, l909_, l999_, l1439_, iI_add, iI_sub, iI_mul, iI_neg]
  refine s_stA (by omega) (by omega) (by decide) ?_
  rw [show (5 + 4 * (e : Int)).toNat = 5 + 4 * e by omega]
  refine s_ldA (by omega) (by omega) (by decide) ?_
  rw [show (5 + 4 * (e : Int) + 1).toNat = 5 + 4 * e + 1 by omega, st_d (by omega), (hP.y he).2.1]
  simp only [lm1_, lm2_, lm3_, lm9_, lm10_, lm999_, lm1000_, l0_, l1_, l2_, l3_, l4_, l5_, l6_, l7_, l8_, l9_, l10_, l11_, l12_, l13_, l23_, l24_, l30_, l31_, l33_, l35_, l41_, l42_, l45_, l48_, l57_, l58_, l59_, l60_, l64_, l96_, l99_, l100_, l101_, l126_, l168_, l808_, l909_, l999_, l1439_, iI_add, iI_sub, iI_mul, iI_neg]
  refine s_stA (by omega) (by omega) (by decide) ?_
  rw [show (5 + 4 * (e : Int) + 1).toNat = 5 + 4 * e + 1 by omega]
  exact hQ
theorem Pm.mv (hP : Pm M 0 A) {e : Nat} {d : Int} : Pm (st (st M 18 0 (5 + 4 * e) (iI (A 1 e + d))) 18 0 (5 + 4 * e + 1) (iI (A 2 e + d))) 0 (mvE A e d) := (hP.ue (c := 1) (by omega) (by omega)).ue (c := 2) (by omega) (by omega)
theorem s_X5_isTime {t : Int} (ht : i32 t) (h1 : tmo t → Q (iI 1) M) (h0 : ¬ tmo t → Q (iI 0) M) : w_X5_isTime M (iI t) Q := by
  unfold w_X5_isTime
  simp (disch := omega) only [lm1_, lm2_, lm3_, lm9_, lm10_, lm999_, lm1000_, l0_, l1_, l2_, l3_, l4_, l5_, l6_, l7_, l8_, l9_, l10_, l11_, l12_, l13_, l23_, l24_, l30_, l31_, l33_, l35_, l41_, l42_, l45_, l48_, l57_, l58_, l59_, l60_, l64_, l96_, l99_, l100_, l101_, l126_, l168_, l808_, l909_, l999_, l1439_, iI_add, iI_sub, iI_mul, iI_neg, iI_rem, iI_lt, iI_le, iI_eq, vp_iI, cl_iI, Int.toNat_natCast]
  refine s_if (fun q => h1 (Or.inl q)) (fun q => s_X5_in ht (by omega) (by omega) (fun c => z1 (h1 (Or.inr c))) (fun c => z0 (h0 (fun z => z.elim q c))))
theorem s_X5_move (hP : Pm M 0 A) (hO : Ok A) (hh : Hm M h n) {a d : Int} (ha : i32 a) (hd : i32 d) (h1 : ∀ e : Nat, a = e → (e : Int) < A 0 4 → -999 ≤ d ∧ d ≤ 999 → 0 ≤ A 1 e + d → A 2 e + d ≤ 999 → ∀ M', Rs M M' A (mvE A e d) h n → Q (iI (A 1 e + d)) M') (h2 : ∀ e : Nat, a = e → (e : Int) < A 0 4 → -999 ≤ d ∧ d ≤ 999 → ¬ (0 ≤ A 1 e + d ∧ A 2 e + d ≤ 999) → Q (iI (-2)) M) (h0 : ¬ ((0 ≤ a ∧ a < A 0 4) ∧ -999 ≤ d ∧ d ≤ 999) → Q (iI (-1)) M) : w_X5_move M (iI a) (iI d) Q := by
  have ob := hO.b
  unfold w_X5_move
  simp only [lm1_, lm2_, lm3_, lm9_, lm10_, lm999_, lm1000_, l0_, l1_, l2_, l3_, l4_, l5_, l6_, l7_, l8_, l9_, l10_, l11_, l12_, l13_, l23_, l24_, l30_, l31_, l33_, l35_, l41_, l42_, l45_, l48_, l57_, l58_, l59_, l60_, l64_, l96_, l99_, l100_, l101_, l126_, l168_, l808_, l909_, l999_, l1439_, iI_add, iI_sub, iI_mul, iI_neg]
  refine s_X5_isEntry hP hO ha (fun c1 => z1 (s_X5_in hd (by omega) (by omega) (fun c2 => z1 ?_) (fun c2 => z0 (h0 (fun z => c2 z.2))))) (fun c1 => z0 (h0 (fun z => c1 z.1)))
  obtain ⟨e, rfl⟩ : ∃ e : Nat, a = e := ⟨a.toNat, by omega⟩
  have he := c1.2
  have oe := hO.e he
  refine s_X5_begins hP hO he ?_
  simp (disch := omega) only [lm1_, lm2_, lm3_, lm9_, lm10_, lm999_, lm1000_, l0_, l1_, l2_, l3_, l4_, l5_, l6_, l7_, l8_, l9_, l10_, l11_, l12_, l13_, l23_, l24_, l30_, l31_, l33_, l35_, l41_, l42_, l45_, l48_, l57_, l58_, l59_, l60_, l64_, l96_, l99_, l100_, l101_, l126_, l168_, l808_, l909_, l999_, l1439_, iI_add, iI_sub, iI_mul, iI_neg, iI_rem, iI_lt, iI_le, iI_eq, vp_iI, cl_iI, Int.toNat_natCast]
  refine s_if (fun q => h2 e rfl he c2 (by omega)) (fun q => s_X5_ends hP hO he ?_)
  simp (disch := omega) only [lm1_, lm2_, lm3_, lm9_, lm10_, lm999_, lm1000_, l0_, l1_, l2_, l3_, l4_, l5_, l6_, l7_, l8_, l9_, l10_, l11_, l12_, l13_, l23_, l24_, l30_, l31_, l33_, l35_, l41_, l42_, l45_, l48_, l57_, l58_, l59_, l60_, l64_, l96_, l99_, l100_, l101_, l126_, l168_, l808_, l909_, l999_, l1439_, iI_add, iI_sub, iI_mul, iI_neg, iI_rem, iI_lt, iI_le, iI_eq, vp_iI, cl_iI, Int.toNat_natCast]
  refine s_if (fun q2 => ?_) (fun q2 => h2 e rfl he c2 (by omega))
  refine s_X5_records hP hO hh (fun M1 k1 k2 k3 k4 => s_X5_moves k1 hO he ?_)
  refine s_X5_begins k1.mv (hO.mv (by omega) (by omega)) he ?_
  rw [show mvE A e d 1 e = A 1 e + d by simp [mvE, upA]]
  refine h1 e rfl he c2 (by omega) q2 _ ⟨k1.mv, (k2.st (by omega)).st (by omega), sx_st (sx_st k3 ⟨Or.inr rfl, rfl⟩) ⟨Or.inr rfl, rfl⟩, fun j hj => ?_⟩
  rw [st_ne _ _ (by omega), st_ne _ _ (by omega), k4 j hj]
theorem s_X5_stretch (hP : Pm M 0 A) (hO : Ok A) (hh : Hm M h n) {a d : Int} (ha : i32 a) (hd : i32 d) (h1 : ∀ e : Nat, a = e → (e : Int) < A 0 4 → 0 ≤ d ∧ d ≤ 999 → A 1 e ≤ d → ∀ M', Rs M M' A (upA A 2 e d) h n → Q (iI (d - A 1 e + 1)) M') (h2 : ∀ e : Nat, a = e → (e : Int) < A 0 4 → 0 ≤ d ∧ d ≤ 999 → ¬ (A 1 e ≤ d) → Q (iI (-2)) M) (h0 : ¬ ((0 ≤ a ∧ a < A 0 4) ∧ 0 ≤ d ∧ d ≤ 999) → Q (iI (-1)) M) : w_X5_stretch M (iI a) (iI d) Q := by
  have ob := hO.b
  unfold w_X5_stretch
  simp only [lm1_, lm2_, lm3_, lm9_, lm10_, lm999_, lm1000_, l0_, l1_, l2_, l3_, l4_, l5_, l6_, l7_, l8_, l9_, l10_, l11_, l12_, l13_, l23_, l24_, l30_, l31_, l33_, l35_, l41_, l42_, l45_, l48_, l57_, l58_, l59_, l60_, l64_, l96_, l99_, l100_, l101_, l126_, l168_, l808_, l909_, l999_, l1439_, iI_add, iI_sub, iI_mul, iI_neg]
  refine s_X5_isEntry hP hO ha (fun c1 => z1 (s_X5_isDay hd (fun c2 => z1 ?_) (fun c2 => z0 (h0 (fun z => c2 z.2))))) (fun c1 => z0 (h0 (fun z => c1 z.1)))
  obtain ⟨e, rfl⟩ : ∃ e : Nat, a = e := ⟨a.toNat, by omega⟩
  have he := c1.2
  have oe := hO.e he
  refine s_X5_begins hP hO he ?_
  simp (disch := omega) only [lm1_, lm2_, lm3_, lm9_, lm10_, lm999_, lm1000_, l0_, l1_, l2_, l3_, l4_, l5_, l6_, l7_, l8_, l9_, l10_, l11_, l12_, l13_, l23_, l24_, l30_, l31_, l33_, l35_, l41_, l42_, l45_, l48_, l57_, l58_, l59_, l60_, l64_, l96_, l99_, l100_, l101_, l126_, l168_, l808_, l909_, l999_, l1439_, iI_add, iI_sub, iI_mul, iI_neg, iI_rem, iI_lt, iI_le, iI_eq, vp_iI, cl_iI, Int.toNat_natCast]
  refine s_if (fun q => ?_) (fun q => h2 e rfl he c2 (by omega))
  refine s_X5_records hP hO hh (fun M1 k1 k2 k3 k4 => s_stA (by omega) (by omega) (by decide) ?_)
  rw [show (5 + 4 * (e : Int) + 1).toNat = 5 + 4 * e + 1 by omega]
  have e1 : Pm (st M1 18 0 (5 + 4 * e + 1) (iI d)) 0 (upA A 2 e d) := k1.ue (c := 2) (by omega) (by omega)
  refine s_X5_begins e1 (hO.str q (by omega)) he ?_
  rw [show upA A 2 e d 1 e = A 1 e from upA_d (by omega)]
  simp only [lm1_, lm2_, lm3_, lm9_, lm10_, lm999_, lm1000_, l0_, l1_, l2_, l3_, l4_, l5_, l6_, l7_, l8_, l9_, l10_, l11_, l12_, l13_, l23_, l24_, l30_, l31_, l33_, l35_, l41_, l42_, l45_, l48_, l57_, l58_, l59_, l60_, l64_, l96_, l99_, l100_, l101_, l126_, l168_, l808_, l909_, l999_, l1439_, iI_add, iI_sub, iI_mul, iI_neg]
  refine h1 e rfl he c2 q _ ⟨e1, k2.st (by omega), sx_st k3 ⟨Or.inr rfl, rfl⟩, fun j hj => ?_⟩
  rw [st_ne _ _ (by omega), k4 j hj]
theorem s_X5_settle (hP : Pm M 0 A) (hO : Ok A) (hh : Hm M h n) {a t r : Int} (ha : i32 a) (ht : i32 t) (hr : i32 r) (h1 : ∀ e : Nat, a = e → (e : Int) < A 0 4 → tmo t → 0 ≤ r ∧ r ≤ 9 → ∀ (M' : Mm) (z : Int), Rs M M' A (upA (upA A 3 e t) 4 e r) h n → (lng (upA (upA A 3 e t) 4 e r) e ∧ z = 1 ∨ ¬ lng (upA (upA A 3 e t) 4 e r) e ∧ z = 0) → Q (iI z) M') (h0 : ¬ ((0 ≤ a ∧ a < A 0 4) ∧ tmo t ∧ 0 ≤ r ∧ r ≤ 9) → Q (iI (-1)) M) : w_X5_settle M (iI a) (iI t) (iI r) Q := by
  have ob := hO.b
  unfold w_X5_settle
  simp only [lm1_, lm2_, lm3_, lm9_, lm10_, lm999_, lm1000_, l0_, l1_, l2_, l3_, l4_, l5_, l6_, l7_, l8_, l9_, l10_, l11_, l12_, l13_, l23_, l24_, l30_, l31_, l33_, l35_, l41_, l42_, l45_, l48_, l57_, l58_, l59_, l60_, l64_, l96_, l99_, l100_, l101_, l126_, l168_, l808_, l909_, l999_, l1439_, iI_add, iI_sub, iI_mul, iI_neg]
  refine s_X5_isEntry hP hO ha (fun c1 => z1 (s_X5_isTime ht (fun c2 => z1 (s_X5_in hr (by omega) (by omega) (fun c3 => z1 ?_) (fun c3 => z0 (h0 (fun z => c3 z.2.2))))) (fun c2 => z0 (h0 (fun z => c2 z.2.1))))) (fun c1 => z0 (h0 (fun z => c1 z.1)))
  obtain ⟨e, rfl⟩ : ∃ e : Nat, a = e := ⟨a.toNat, by omega⟩
  have he := c1.2
  have oe := hO.e he
  refine s_X5_records hP hO hh (fun M1 k1 k2 k3 k4 => s_stA (by omega) (by omega) (by decide) (s_stA (by omega) (by omega) (by decide) ?_))
  rw [show (5 + 4 * (e : Int) + 2).toNat = 5 + 4 * e + 2 by omega, show (5 + 4 * (e : Int) + 3).toNat = 5 + 4 * e + 3 by omega]
  have e1 : Pm (st (st M1 18 0 (5 + 4 * e + 2) (iI t)) 18 0 (5 + 4 * e + 3) (iI r)) 0 (upA (upA A 3 e t) 4 e r) := (k1.ue (c := 3) (by omega) (by omega)).ue (c := 4) (by omega) (by omega)
  have e2 : Rs M (st (st M1 18 0 (5 + 4 * e + 2) (iI t)) 18 0 (5 + 4 * e + 3) (iI r)) A (upA (upA A 3 e t) 4 e r) h n := ⟨e1, (k2.st (by omega)).st (by omega), sx_st (sx_st k3 ⟨Or.inr rfl, rfl⟩) ⟨Or.inr rfl, rfl⟩, fun j hj => by rw [st_ne _ _ (by omega), st_ne _ _ (by omega), k4 j hj]⟩
  exact s_X5_isLong e1 (hO.stl c2 c3) he (fun c => z1 (h1 e rfl he c2 c3 _ 1 e2 (Or.inl ⟨c, rfl⟩))) (fun c => z0 (h1 e rfl he c2 c3 _ 0 e2 (Or.inr ⟨c, rfl⟩)))
end MMV
