/-! both together -/
def IC (M : Mm) (A : Ab) (h : Nat → Ab) (n : Nat) (x : Nat → Int) (k : Nat) : Prop := Pl M 0 A ∧ Ps M h n ∧ (∃ L R, Laid M 0 A L R) ∧ Tc M x k
def IR (M : Mm) (A : Ab) (h : Nat → Ab) (n : Nat) (x : Nat → Int) (k : Nat) : Prop := Pm M 0 A ∧ Hm M h n ∧ Tr M x k
def LI (M : Mm) : Prop := ∃ (A : Ab) (h : Nat → Ab) (n : Nat) (x : Nat → Int) (k : Nat), Ok A ∧ Tb x k ∧ IC M A h n x k ∧ IR M A h n x k
abbrev c17 : Nat → Nat → Prop := fun c _ => c < 17
abbrev r17 : Nat → Nat → Prop := fun c _ => 17 ≤ c
section INV
variable {M M' : Mm} {A A' : Ab} {h : Nat → Ab} {n : Nat} {x : Nat → Int} {k : Nat} {P : Nat → Nat → Prop}
theorem Tc.sx (hT : Tc M x k) (hs : sx P M M') (h3 : ¬ P 3 0) (h4 : ¬ P 4 0) : Tc M' x k := ⟨hT.1, by rw [hs 3 0 h3]; exact hT.2.1, fun j hj => by rw [hs 4 0 h4]; exact hT.2.2 j hj⟩
theorem Tr.sx (hT : Tr M x k) (hs : sx P M M') (h3 : ¬ P 17 0) (h4 : ¬ P 19 0) : Tr M' x k := ⟨hT.1, by rw [hs 17 0 h3]; exact hT.2.1, fun j hj => by rw [hs 19 0 h4]; exact hT.2.2 j hj⟩
theorem IC.r (hI : IC M A h n x k) (hs : sx r17 M M') : IC M' A h n x k := by
  obtain ⟨g1, g2, ⟨L, R, g3⟩, g4⟩ := hI
  refine ⟨g1.sx hs ⟨by unfold r17; omega, by unfold r17; omega, by unfold r17; omega, by unfold r17; omega, by unfold r17; omega⟩, g2.sx hs (by unfold r17; omega) (fun i hi => ⟨by unfold r17; omega, by unfold r17; omega, by unfold r17; omega, by unfold r17; omega, by unfold r17; omega⟩), ⟨L, R, g3.sx hs (fun c i q => ?_)⟩, g4.sx hs (by unfold r17; omega) (by unfold r17; omega)⟩
  unfold pgc at q
  unfold r17
  omega
theorem IR.c (hI : IR M A h n x k) (hs : sx c17 M M') : IR M' A h n x k := by
  obtain ⟨g1, g2, g3⟩ := hI
  exact ⟨g1.sx hs (by unfold c17; omega), g2.sx hs (by unfold c17; omega) (by unfold c17; omega), g3.sx hs (by unfold c17; omega) (by unfold c17; omega)⟩
theorem Cs.ic (hC : Cs M M' A A' h n) (hT : Tc M x k) : IC M' A' (recH h n A) (recN n) x k := by
  obtain ⟨g1, g2, g3, g4⟩ := hC
  exact ⟨g1, g2, g3, hT.sx g4 (by unfold kc pgc; omega) (by unfold kc pgc; omega)⟩
theorem Cs.c (hC : Cs M M' A A' h n) : sx c17 M M' := sx_mono hC.2.2.2 (fun c i q => by unfold kc pgc at q; show c < 17; omega)
theorem kr_r (hs : sx kr M M') : sx r17 M M' := sx_mono hs (fun c i q => by show 17 ≤ c; omega)
theorem kl_r (hs : sx kl M M') : sx r17 M M' := sx_mono hs (fun c i q => by show 17 ≤ c; omega)
theorem Rs.ir (hR : Rs M M' A A' h n) (hT : Tr M x k) : IR M' A' (recH h n A) (recN n) x k := by
  obtain ⟨g1, g2, g3, g4⟩ := hR
  exact ⟨g1, g2, hT.1, by rw [g4 3 (by decide)]; exact hT.2.1, fun j hj => by rw [g3 19 0 (by omega)]; exact hT.2.2 j hj⟩
/-- a change on both sides -/
theorem LI.both {M1 M2 : Mm} (hO : Ok A') (hb : Tb x k) (h1 : Cs M M1 A A' h n) (hT : Tc M x k) (h2 : Rs M1 M2 A A' h n) (hT2 : Tr M1 x k) : LI M2 := ⟨A', _, _, x, k, hO, hb, (h1.ic hT).r (kr_r h2.2.2.1), h2.ir hT2⟩
/-- a query: the reference has laid -/
theorem LI.ask (hO : Ok A) (hb : Tb x k) (h1 : IC M A h n x k) (h2 : IR M A h n x k) (hP : Pm M' 0 A) (hs : sx kl M M') : LI M' := ⟨A, h, n, x, k, hO, hb, h1.r (kl_r hs), hP, h2.2.1.sx hs (by omega) (by omega), h2.2.2.sx hs (by omega) (by omega)⟩
theorem Ps.cnt (hp : Ps M h n) : M 1 0 2 = iI n := by
  obtain ⟨o, g1, g2, g3, g4, g5⟩ := hp
  exact g4
theorem IC.trial (hI : IC M A h n x k) (hs : sx tr1 M M') : IC M' A h n x k ∧ sx c17 M M' := by
  obtain ⟨g1, g2, ⟨L, R, g3⟩, g4⟩ := hI
  refine ⟨⟨g1.sx hs ⟨by unfold tr1 pgc; omega, by unfold tr1 pgc; omega, by unfold tr1 pgc; omega, by unfold tr1 pgc; omega, by unfold tr1 pgc; omega⟩, g2.sx hs (by unfold tr1 pgc; omega) (fun i hi => ⟨by unfold tr1 pgc; omega, by unfold tr1 pgc; omega, by unfold tr1 pgc; omega, by unfold tr1 pgc; omega, by unfold tr1 pgc; omega⟩), ⟨L, R, g3.sx hs (fun c i q => ?_)⟩, g4.sx hs (by unfold tr1 pgc; omega) (by unfold tr1 pgc; omega)⟩, sx_mono hs (fun c i q => ?_)⟩
  · unfold pgc at q
    unfold tr1 pgc
    omega
  · unfold tr1 pgc at q
    show c < 17
    omega
theorem IC.read (hI : IC M A h n x k) (hT : Tc M' x k) (hs : sx rd M M') : IC M' A h n x k ∧ sx c17 M M' := by
  obtain ⟨g1, g2, ⟨L, R, g3⟩, g4⟩ := hI
  refine ⟨⟨g1.sx hs ⟨by unfold rd plc; omega, by unfold rd plc; omega, by unfold rd plc; omega, by unfold rd plc; omega, by unfold rd plc; omega⟩, g2.sx hs (by unfold rd plc; omega) (fun i hi => ⟨by unfold rd plc; omega, by unfold rd plc; omega, by unfold rd plc; omega, by unfold rd plc; omega, by unfold rd plc; omega⟩), ⟨L, R, g3.sx hs (fun c i q => ?_)⟩, hT⟩, sx_mono hs (fun c i q => ?_)⟩
  · unfold pgc at q
    unfold rd plc
    omega
  · unfold rd plc at q
    show c < 17
    omega
end INV
def Az : Ab := fun c k => if c = 0 then (if k = 1 then 30 else if k = 3 then 4 else 0) else 0
theorem Az_ok : Ok Az := ⟨by decide, by decide, by decide, by decide, by decide, by decide, by decide, by decide, by decide, by decide, fun e he => absurd he (by show ¬ (e : Int) < 0; omega)⟩
def pureQ (M : Mm) : Prop := IC M Az (fun _ => Az) 0 (fun _ => 0) 0
theorem mm0_11 (i j : Nat) : mm0 11 i j = if j = 1 then 30 else if j = 3 then 4 else 0 := rfl
theorem pure_lay : w_X0_lay 0 mm0 pureQ := by
  have hP : Pl mm0 0 Az := by
    refine ⟨fun j hj => ?_, fun e he => absurd he (by show ¬ (e : Int) < 0; omega)⟩
    rcases (show j = 0 ∨ j = 1 ∨ j = 2 ∨ j = 3 ∨ j = 4 by omega) with rfl | rfl | rfl | rfl | rfl <;> rfl
  refine s_X0_lay hP Az_ok (fun M' L R hL hs => ⟨hP.sx hs ⟨by unfold pgc; omega, by unfold pgc; omega, by unfold pgc; omega, by unfold pgc; omega, by unfold pgc; omega⟩, ⟨0, by decide, by decide, ?_, ?_, fun j hj => absurd hj (Nat.not_lt_zero _)⟩, ⟨L, R, hL⟩, by decide, ?_, fun j hj => absurd hj (Nat.not_lt_zero _)⟩)
  · rw [hs 1 0 (by unfold pgc; omega)]
    rfl
  · rw [hs 1 0 (by unfold pgc; omega)]
    rfl
  · rw [hs 3 0 (by unfold pgc; omega)]
    rfl
theorem pure_start {M : Mm} (h : pureQ M) : LI (mmJ M) := by
  have hs : sx r17 M (mmJ M) := fun c i hci => by
    show (if c < 17 then M c else mm0 c) i = M c i
    rw [if_pos (Nat.lt_of_not_le hci)]
  have e18 : mmJ M 18 = mm0 18 := by
    show (if 18 < 17 then M 18 else mm0 18) = _
    exact if_neg (by decide)
  refine ⟨Az, fun _ => Az, 0, fun _ => 0, 0, Az_ok, fun j hj => absurd hj (Nat.not_lt_zero _), h.r hs, ⟨fun j hj => ?_, fun e he => absurd he (by show ¬ (e : Int) < 0; omega)⟩, ⟨by decide, rfl, fun j hj => absurd hj (Nat.not_lt_zero _)⟩, by decide, rfl, fun j hj => absurd hj (Nat.not_lt_zero _)⟩
  rw [e18]
  rcases (show j = 0 ∨ j = 1 ∨ j = 2 ∨ j = 3 ∨ j = 4 by omega) with rfl | rfl | rfl | rfl | rfl <;> decide
