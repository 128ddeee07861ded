/-! the class loads -/
section CLD
variable {M : Mm} {A : Ab} {h : Nat → Ab} {n : Nat} {x : Nat → Int} {k : Nat} {Q : Int32 → Mm → Prop}
/-- what a load changes -/
abbrev lc : Nat → Nat → Prop := fun c i => kc c i ∨ c = 3 ∧ i = 0
theorem s_X4_load {N : Nat} (hN : stopE x k N) (hno : ∀ i, i < N → ¬ stopE x k i) (hN24 : N ≤ 24) (hT : Tc M x k) (hb : Tb x k) (hP : Pl M 0 A) (hO : Ok A) (hp : Ps M h n) (h1 : k ≤ posE x k N → ∀ M', Pl M' 0 (ldE A x k N) → Ps M' (recH h n A) (recN n) → (∃ L R, Laid M' 0 (ldE A x k N) L R) → Tc M' x k → sx (fun c _ => c < 17) M M' → Q (iI N) M') (h0 : ¬ k ≤ posE x k N → 0 ≤ fltE x k N → ∀ M', Tc M' x k → sx rd M M' → Q (iI (-10 - fltE x k N)) M') : w_X4_load M Q := by
  unfold w_X4_load
  simp only [lm1_, lm2_, lm3_, lm9_, lm10_, lm999_, lm1000_, l0_, l1_, l2_, l3_, l4_, l5_, l6_, l7_, l8_, l9_, l10_, l11_, l12_, l13_, l23_, l24_, l30_, l31_, l33_, l35_, l41_, l42_, l45_, l48_, l57_, l58_, l59_, l60_, l64_, l96_, l99_, l100_, l101_, l126_, l168_, l808_, l909_, l999_, l1439_, iI_add, iI_sub, iI_mul, iI_neg]
  refine s_X2_copy hP hO (by decide) (fun M1 q1 q2 => ?_)
  have t1 : Tc M1 x k := ⟨hT.1, by rw [q2 3 0 (by unfold plc; omega)]; exact hT.2.1, fun j hj => by rw [q2 4 0 (by unfold plc; omega)]; exact hT.2.2 j hj⟩
  have hfb := flt_b hno
  refine s_X3_read hN hno hN24 t1 hb q1 hO (fun c M2 a1 a2 a3 => ?_) (fun c c2 M2 a1 a3 => ?_)
  · have s2 : sx rd M M2 := fun c i hci => (a3 c i hci).trans (q2 c i (fun z => hci (Or.inr z)))
    have hP2 : Pl M2 0 A := hP.sx s2 ⟨by unfold rd plc; omega, by unfold rd plc; omega, by unfold rd plc; omega, by unfold rd plc; omega, by unfold rd plc; omega⟩
    have hp2 : Ps M2 h n := hp.sx s2 (by unfold rd plc; omega) (fun i hi => ⟨by unfold rd plc; omega, by unfold rd plc; omega, by unfold rd plc; omega, by unfold rd plc; omega, by unfold rd plc; omega⟩)
    have hOk := ldE_ok (A := A) hO hno hN24
    rw [if_pos rfl]
    refine s_X1_record hp2 hP2 hO (by decide) (fun M4 k1 k2 => ?_)
    have p4 : Pl M4 1 (ldE A x k N) := a2.sx k2 ⟨by unfold psc; omega, by unfold psc; omega, by unfold psc; omega, by unfold psc; omega, by unfold psc; omega⟩
    refine s_X2_copy p4 hOk (by decide) (fun M5 d1 d2 => s_X0_lay d1 hOk (fun M6 L R l1 l2 => ?_))
    have p6 : Pl M6 0 (ldE A x k N) := d1.sx l2 ⟨by unfold pgc; omega, by unfold pgc; omega, by unfold pgc; omega, by unfold pgc; omega, by unfold pgc; omega⟩
    rw [p6.1 4 (by decide), show ldE A x k N 0 4 = (N : Int) from rfl]
    refine h1 c M6 p6 ?_ ⟨L, R, l1⟩ ⟨a1.1, ?_, fun j hj => ?_⟩ (fun c i hci => ?_)
    · have k5 : Ps M5 (recH h n A) (recN n) := k1.sx d2 (by unfold plc; omega) (fun i hi => ⟨by unfold plc; omega, by unfold plc; omega, by unfold plc; omega, by unfold plc; omega, by unfold plc; omega⟩)
      exact k5.sx l2 (by unfold pgc; omega) (fun i hi => ⟨by unfold pgc; omega, by unfold pgc; omega, by unfold pgc; omega, by unfold pgc; omega, by unfold pgc; omega⟩)
    · rw [l2 3 0 (by unfold pgc; omega), d2 3 0 (by unfold plc; omega), k2 3 0 (by unfold psc; omega)]
      exact a1.2.1
    · rw [l2 4 0 (by unfold pgc; omega), d2 4 0 (by unfold plc; omega), k2 4 0 (by unfold psc; omega)]
      exact a1.2.2 j hj
    · rw [l2 c i (by unfold pgc; omega), d2 c i (by unfold plc; omega), k2 c i (by unfold psc; omega)]
      exact s2 c i (by unfold rd plc; omega)
  · have s2 : sx rd M M2 := fun c i hci => (a3 c i hci).trans (q2 c i (fun z => hci (Or.inr z)))
    have hk := hT.1
    rw [if_neg (fun z => by have := (iI_eq (by omega) (by omega) (by omega) (by omega)).mp z; omega), iI_sub]
    exact h0 c c2 M2 a1 s2
end CLD
