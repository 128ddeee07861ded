/-- what is hidden on k days from a on, with r rows -/
def hidS (A : Ab) (L : Nat → Nat → Int) (R : Nat → Int) (r a : Int) : Nat → Nat
  | 0 => 0
  | k + 1 => hidS A L R r a k + hidN A L R (a + k) (mrk (ned A L R (a + k) (A 0 4).toNat) r) (A 0 4).toNat
section MHS
variable {M : Mm} {A : Ab} {L : Nat → Nat → Int} {R : Nat → Int} {Q : Int32 → Mm → Prop}
theorem s_X5_hidden (hP : Pm M 0 A) (hW : Wm M A) (hO : Ok A) (hM : Lmm M L) (hR : Rm M R) (hLb : Lbd L) (hRb : Rbd R) {a b : Int} (d0 : a ≤ b + 1) (d1 : A 0 0 ≤ a) (d2 : b ≤ A 0 1) {r : Int} (hr : -2000000000 ≤ r ∧ r ≤ 2000000000) (h : Q (iI (hidS A L R r a (b + 1 - a).toNat)) M) : w_X5_hidden M (iI a) (iI b) (iI r) Q := by
  have ob := hO.b
  unfold w_X5_hidden
  refine loop_up (fun k x => x = (iI (hidS A L R r a k), iI (a + k), M)) (b + 1 - a).toNat ?_ ?_ (Nat.zero_le _) (by rw [show a + ((0 : Nat) : Int) = a by omega]; rfl)
  · rintro Rr k x hk rfl hRr
    unfold w_X5_hidden_L6
    dsimp only
    rw [if_neg (fun z => by have := (iI_lt (by omega) (by omega) (by omega) (by omega)).mp z; omega)]
    refine s_X5_hiddenOn hP hW hO hM hR hLb hRb (by omega) (by omega) hr ?_
    simp only [lm1_, lm2_, lm3_, lm9_, lm10_, lm999_, lm1000_, l0_, l1_, l2_, l3_, l4_, l5_, l6_, l7_, l8_, l9_, l10_, l11_, l12_, l13_, l23_, l24_, l30_, l31_, l33_, l35_, l41_, l42_, l45_, l48_, l57_, l58_, l59_, l60_, l64_, l96_, l99_, l100_, l101_, l126_, l168_, l808_, l909_, l999_, l1439_, iI_add, iI_sub, iI_mul, iI_neg]
    refine s_bI (s_bI (hRr _ ?_))
    rw [show a + ((k + 1 : Nat) : Int) = a + k + 1 by omega]
    rfl
  · rintro Rr x rfl
    unfold w_X5_hidden_L6
    dsimp only
    rw [if_pos ((iI_lt (by omega) (by omega) (by omega) (by omega)).mpr (by omega))]
    exact h
end MHS
