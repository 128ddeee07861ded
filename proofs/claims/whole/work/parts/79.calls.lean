/-! call by call: both answer alike, and what holds of both holds on -/
section CALLS
variable {M : Mm} {F : Int32 → Int32 → Mm → Prop} {G : Int32 → Mm → Prop}
theorem law_setPage (hI : LI M) (hgo : ∀ v M', LI M' → F v v M') {a b : Int32} (hG : ∀ v M1, w_X5_setPage M1 a b (F v) → G v M1) : w_X4_setPage M a b G := by
  obtain ⟨A, h, n, x, k, hO, hT, hC, hR⟩ := id hI
  obtain ⟨a, rfl, ha⟩ := i32_iI a
  obtain ⟨b, rfl, hb⟩ := i32_iI b
  refine s_X4_setPage hC.1 hO hC.2.1 ha hb (fun c M1 k1 => hG _ M1 ?_) (fun c => hG _ M ?_)
  · have r1 := hR.c k1.c
    exact s_X5_setPage r1.1 hO r1.2.1 ha hb (fun _ M2 k2 => hgo _ M2 (LI.both (hO.pg c) hT k1 hC.2.2.2 k2 r1.2.2)) (fun z => absurd c z)
  · exact s_X5_setPage hR.1 hO hR.2.1 ha hb (fun z => absurd z c) (fun _ => hgo _ M hI)
theorem law_setWeek (hI : LI M) (hgo : ∀ v M', LI M' → F v v M') {a : Int32} (hG : ∀ v M1, w_X5_setWeek M1 a (F v) → G v M1) : w_X4_setWeek M a G := by
  obtain ⟨A, h, n, x, k, hO, hT, hC, hR⟩ := id hI
  obtain ⟨a, rfl, ha⟩ := i32_iI a
  refine s_X4_setWeek hC.1 hO hC.2.1 ha (fun c M1 k1 => hG _ M1 ?_) (fun c => hG _ M ?_)
  · have r1 := hR.c k1.c
    exact s_X5_setWeek r1.1 hO r1.2.1 ha (fun _ M2 k2 => hgo _ M2 (LI.both (hO.wd c) hT k1 hC.2.2.2 k2 r1.2.2)) (fun z => absurd c z)
  · exact s_X5_setWeek hR.1 hO hR.2.1 ha (fun z => absurd z c) (fun _ => hgo _ M hI)
theorem law_setRows (hI : LI M) (hgo : ∀ v M', LI M' → F v v M') {a : Int32} (hG : ∀ v M1, w_X5_setRows M1 a (F v) → G v M1) : w_X4_setRows M a G := by
  obtain ⟨A, h, n, x, k, hO, hT, hC, hR⟩ := id hI
  obtain ⟨a, rfl, ha⟩ := i32_iI a
  refine s_X4_setRows hC.1 hO hC.2.1 hC.2.2.1 ha (fun c M1 k1 => hG _ M1 ?_) (fun c => hG _ M ?_)
  · have r1 := hR.c k1.c
    exact s_X5_setRows r1.1 hO r1.2.1 ha (fun _ M2 k2 => hgo _ M2 (LI.both (hO.rws c) hT k1 hC.2.2.2 k2 r1.2.2)) (fun z => absurd c z)
  · exact s_X5_setRows hR.1 hO hR.2.1 ha (fun z => absurd z c) (fun _ => hgo _ M hI)
theorem law_week (hI : LI M) (hgo : ∀ v M', LI M' → F v v M') {a b : Int32} (hG : ∀ v M1, w_X5_week M1 a b (F v) → G v M1) : w_X4_week M a b G := by
  obtain ⟨A, h, n, x, k, hO, hT, hC, hR⟩ := id hI
  obtain ⟨L, R, hL⟩ := hC.2.2.1
  obtain ⟨a, rfl, ha⟩ := i32_iI a
  obtain ⟨b, rfl, hb⟩ := i32_iI b
  have hn := nW_b hO
  refine s_X4_week hC.1 hO hL ha hb (fun c1 c2 => hG _ M ?_) (fun c1 c2 => hG _ M ?_) (fun c => hG _ M ?_)
  · exact s_X5_week hR.1 hO hL ha hb (fun _ _ M' k1 k2 => hgo _ M' (LI.ask hO hT hC hR k1 k2)) (fun z _ => absurd z (by omega)) (fun z => absurd ⟨c1.1, c2⟩ z)
  · exact s_X5_week hR.1 hO hL ha hb (fun z _ => absurd c1 (by omega)) (fun _ _ M' k1 k2 => hgo _ M' (LI.ask hO hT hC hR k1 k2)) (fun z => absurd ⟨by omega, c2⟩ z)
  · exact s_X5_week hR.1 hO hL ha hb (fun z1 z2 => absurd ⟨z1.1, z2⟩ c) (fun z1 z2 => absurd ⟨by omega, z2⟩ c) (fun _ => hgo _ M hI)
theorem law_type (hI : LI M) (hgo : ∀ v M', LI M' → F v v M') {a : Int32} (hG : ∀ v M1, w_X5_type M1 a (F v) → G v M1) : w_X4_type M a G := by
  obtain ⟨A, h, n, x, k, hO, hT, hC, hR⟩ := id hI
  obtain ⟨a, rfl, ha⟩ := i32_iI a
  obtain ⟨g1, g2, ⟨L, R, g3⟩, g4⟩ := hC
  refine s_X4_type g4 ha (fun c1 c2 M1 k1 k2 => hG _ M1 ?_) (fun c1 c2 => hG _ M ?_) (fun c => hG _ M ?_)
  · have s1 : sx c17 M M1 := sx_mono k2 (fun c i q => by show c < 17; omega)
    have r1 := hR.c s1
    have hC1 : IC M1 A h n (tyx x k a) (k + 1) := ⟨g1.sx k2 ⟨by omega, by omega, by omega, by omega, by omega⟩, g2.sx k2 (by omega) (fun i hi => ⟨by omega, by omega, by omega, by omega, by omega⟩), ⟨L, R, g3.sx k2 (fun c i q => by unfold pgc at q; omega)⟩, k1⟩
    refine s_X5_type r1.2.2 ha (fun _ _ M2 d1 d2 d3 => hgo _ M2 ⟨A, h, n, tyx x k a, k + 1, hO, hT.ty c1, hC1.r (sx_mono d2 (fun c i q => by show 17 ≤ c; omega)), r1.1.sx d2 (by omega), ⟨r1.2.1.1, by rw [d3 1 (by decide)]; exact r1.2.1.2.1, fun j hj => ⟨(r1.2.1.2.2 j hj).1.sx d2 (by omega), (r1.2.1.2.2 j hj).2⟩⟩, d1⟩) (fun _ z => absurd z (by omega)) (fun z => absurd c1 z)
  · exact s_X5_type hR.2.2 ha (fun _ z => absurd z (by omega)) (fun _ _ => hgo _ M hI) (fun z => absurd c1 z)
  · exact s_X5_type hR.2.2 ha (fun z => absurd z c) (fun z => absurd z c) (fun _ => hgo _ M hI)
theorem law_clear (hI : LI M) (hgo : ∀ v M', LI M' → F v v M') (hG : ∀ v M1, w_X5_clear M1 (F v) → G v M1) : w_X4_clear M G := by
  obtain ⟨A, h, n, x, k, hO, hT, hC, hR⟩ := id hI
  obtain ⟨g1, g2, ⟨L, R, g3⟩, g4⟩ := hC
  refine s_X4_clear g4 (fun M1 k1 k2 => hG _ M1 ?_)
  have s1 : sx c17 M M1 := sx_mono k2 (fun c i q => by show c < 17; omega)
  have r1 := hR.c s1
  have hC1 : IC M1 A h n x 0 := ⟨g1.sx k2 ⟨by omega, by omega, by omega, by omega, by omega⟩, g2.sx k2 (by omega) (fun i hi => ⟨by omega, by omega, by omega, by omega, by omega⟩), ⟨L, R, g3.sx k2 (fun c i q => by unfold pgc at q; omega)⟩, k1⟩
  exact s_X5_clear r1.2.2 (fun M2 d1 d2 d3 => hgo _ M2 ⟨A, h, n, x, 0, hO, fun j hj => absurd hj (Nat.not_lt_zero _), hC1.r (sx_mono d2 (fun c i q => by show 17 ≤ c; omega)), r1.1.sx d2 (by omega), ⟨r1.2.1.1, by rw [d3 1 (by decide)]; exact r1.2.1.2.1, fun j hj => ⟨(r1.2.1.2.2 j hj).1.sx d2 (by omega), (r1.2.1.2.2 j hj).2⟩⟩, d1⟩)
theorem law_load (hI : LI M) (hgo : ∀ v M', LI M' → F v v M') (hG : ∀ v M1, w_X5_load M1 (F v) → G v M1) : w_X4_load M G := by
  obtain ⟨A, h, n, x, k, hO, hT, hC, hR⟩ := id hI
  obtain ⟨N, hN, hno, hN24⟩ := stop_some x k
  refine s_X4_load hN hno hN24 hC.2.2.2 hT hC.1 hO hC.2.1 (fun c M1 k1 k2 k3 k4 k5 => hG _ M1 ?_) (fun c c2 M1 k1 k2 => hG _ M1 ?_)
  · have r1 := hR.c k5
    have hC1 : IC M1 (ldE A x k N) (recH h n A) (recN n) x k := ⟨k1, k2, k3, k4⟩
    exact s_X5_load hN hno hN24 r1.2.2 hT r1.1 hO r1.2.1 (fun _ M2 d1 d2 d3 d4 => hgo _ M2 ⟨_, _, _, x, k, ldE_ok hO hno hN24, hT, hC1.r d4, d1, d2, d3⟩) (fun z => absurd c z)
  · obtain ⟨hC1, s1⟩ := hC.read k1 k2
    have r1 := hR.c s1
    exact s_X5_load hN hno hN24 r1.2.2 hT r1.1 hO r1.2.1 (fun z => absurd z c) (fun _ _ M2 d1 d2 d3 d4 => hgo _ M2 ⟨A, h, n, x, k, hO, hT, hC1.r d4, d1, d2, d3⟩)
theorem law_add (hI : LI M) (hgo : ∀ v M', LI M' → F v v M') {a b t r : Int32} (hG : ∀ v M1, w_X5_add M1 a b t r (F v) → G v M1) : w_X4_add M a b t r G := by
  obtain ⟨A, h, n, x, k, hO, hT, hC, hR⟩ := id hI
  obtain ⟨a, rfl, ha⟩ := i32_iI a
  obtain ⟨b, rfl, hb⟩ := i32_iI b
  obtain ⟨t, rfl, ht⟩ := i32_iI t
  obtain ⟨r, rfl, hr⟩ := i32_iI r
  refine s_X4_add hC.1 hO hC.2.1 ha hb ht hr (fun c c2 M1 k1 => hG _ M1 ?_) (fun c c2 => hG _ M ?_) (fun c => hG _ M ?_)
  · have r1 := hR.c k1.c
    exact s_X5_add r1.1 hO r1.2.1 ha hb ht hr (fun _ _ M2 k2 => hgo _ M2 (LI.both (hO.add c2 c.1.1 c.1.2.1 c.1.2.2 (c.2.1.elim Or.inl (fun z => Or.inr z.1)) (by have := c.2.1; omega) c.2.2.1 c.2.2.2) hT k1 hC.2.2.2 k2 r1.2.2)) (fun _ z => absurd z (by omega)) (fun z => absurd c z)
  · exact s_X5_add hR.1 hO hR.2.1 ha hb ht hr (fun _ z => absurd z (by omega)) (fun _ _ => hgo _ M hI) (fun z => absurd c z)
  · exact s_X5_add hR.1 hO hR.2.1 ha hb ht hr (fun z => absurd z c) (fun z => absurd z c) (fun _ => hgo _ M hI)
theorem law_drop (hI : LI M) (hgo : ∀ v M', LI M' → F v v M') {a : Int32} (hG : ∀ v M1, w_X5_drop M1 a (F v) → G v M1) : w_X4_drop M a G := by
  obtain ⟨A, h, n, x, k, hO, hT, hC, hR⟩ := id hI
  obtain ⟨a, rfl, ha⟩ := i32_iI a
  refine s_X4_drop hC.1 hO hC.2.1 ha (fun e he c M1 k1 => hG _ M1 ?_) (fun c => hG _ M ?_)
  · have r1 := hR.c k1.c
    refine s_X5_drop r1.1 hO r1.2.1 ha (fun e' he' _ M2 k2 => ?_) (fun z => absurd (by omega) z)
    obtain rfl : e = e' := by omega
    exact hgo _ M2 (LI.both (hO.drop c) hT k1 hC.2.2.2 k2 r1.2.2)
  · exact s_X5_drop hR.1 hO hR.2.1 ha (fun e' he' z => absurd (by omega) c) (fun _ => hgo _ M hI)
theorem law_move (hI : LI M) (hgo : ∀ v M', LI M' → F v v M') {a d : Int32} (hG : ∀ v M1, w_X5_move M1 a d (F v) → G v M1) : w_X4_move M a d G := by
  obtain ⟨A, h, n, x, k, hO, hT, hC, hR⟩ := id hI
  obtain ⟨a, rfl, ha⟩ := i32_iI a
  obtain ⟨d, rfl, hd⟩ := i32_iI d
  refine s_X4_move hC.1 hO hC.2.1 ha hd (fun e he c1 c2 c3 c4 M1 k1 => hG _ M1 ?_) (fun e he c1 c2 c3 => hG _ M ?_) (fun c => hG _ M ?_)
  · have r1 := hR.c k1.c
    refine s_X5_move r1.1 hO r1.2.1 ha hd (fun e' he' _ _ _ _ M2 k2 => ?_) (fun e' he' _ _ z => ?_) (fun z => absurd ⟨⟨by omega, by omega⟩, c2⟩ z)
    · obtain rfl : e = e' := by omega
      exact hgo _ M2 (LI.both (hO.mv c3 c4) hT k1 hC.2.2.2 k2 r1.2.2)
    · obtain rfl : e = e' := by omega
      exact absurd ⟨c3, c4⟩ z
  · refine s_X5_move hR.1 hO hR.2.1 ha hd (fun e' he' _ _ z1 z2 => ?_) (fun e' he' _ _ z => hgo _ M hI) (fun z => absurd ⟨⟨by omega, by omega⟩, c2⟩ z)
    obtain rfl : e = e' := by omega
    exact absurd ⟨z1, z2⟩ c3
  · exact s_X5_move hR.1 hO hR.2.1 ha hd (fun e' he' z1 z2 => absurd ⟨⟨by omega, by omega⟩, z2⟩ c) (fun e' he' z1 z2 => absurd ⟨⟨by omega, by omega⟩, z2⟩ c) (fun _ => hgo _ M hI)
theorem law_stretch (hI : LI M) (hgo : ∀ v M', LI M' → F v v M') {a d : Int32} (hG : ∀ v M1, w_X5_stretch M1 a d (F v) → G v M1) : w_X4_stretch M a d G := by
  obtain ⟨A, h, n, x, k, hO, hT, hC, hR⟩ := id hI
  obtain ⟨a, rfl, ha⟩ := i32_iI a
  obtain ⟨d, rfl, hd⟩ := i32_iI d
  refine s_X4_stretch hC.1 hO hC.2.1 ha hd (fun e he c1 c2 c3 M1 k1 => hG _ M1 ?_) (fun e he c1 c2 c3 => hG _ M ?_) (fun c => hG _ M ?_)
  · have r1 := hR.c k1.c
    refine s_X5_stretch r1.1 hO r1.2.1 ha hd (fun e' he' _ _ _ M2 k2 => ?_) (fun e' he' _ _ z => ?_) (fun z => absurd ⟨⟨by omega, by omega⟩, c2⟩ z)
    · obtain rfl : e = e' := by omega
      exact hgo _ M2 (LI.both (hO.str c3 c2.2) hT k1 hC.2.2.2 k2 r1.2.2)
    · obtain rfl : e = e' := by omega
      exact absurd c3 z
  · refine s_X5_stretch hR.1 hO hR.2.1 ha hd (fun e' he' _ _ z1 => ?_) (fun e' he' _ _ z => hgo _ M hI) (fun z => absurd ⟨⟨by omega, by omega⟩, c2⟩ z)
    obtain rfl : e = e' := by omega
    exact absurd z1 c3
  · exact s_X5_stretch hR.1 hO hR.2.1 ha hd (fun e' he' z1 z2 => absurd ⟨⟨by omega, by omega⟩, z2⟩ c) (fun e' he' z1 z2 => absurd ⟨⟨by omega, by omega⟩, z2⟩ c) (fun _ => hgo _ M hI)
theorem law_settle (hI : LI M) (hgo : ∀ v M', LI M' → F v v M') {a t r : Int32} (hG : ∀ v M1, w_X5_settle M1 a t r (F v) → G v M1) : w_X4_settle M a t r G := by
  obtain ⟨A, h, n, x, k, hO, hT, hC, hR⟩ := id hI
  obtain ⟨a, rfl, ha⟩ := i32_iI a
  obtain ⟨t, rfl, ht⟩ := i32_iI t
  obtain ⟨r, rfl, hr⟩ := i32_iI r
  refine s_X4_settle hC.1 hO hC.2.1 ha ht hr (fun e he c1 c2 c3 M1 z k1 hz => hG _ M1 ?_) (fun c => hG _ M ?_)
  · have r1 := hR.c k1.c
    refine s_X5_settle r1.1 hO r1.2.1 ha ht hr (fun e' he' _ _ _ M2 z' k2 hz' => ?_) (fun z => absurd ⟨⟨by omega, by omega⟩, c2, c3⟩ z)
    obtain rfl : e = e' := by omega
    have hzz : z' = z := by
      rcases hz with ⟨q1, q2⟩ | ⟨q1, q2⟩ <;> rcases hz' with ⟨q3, q4⟩ | ⟨q3, q4⟩
      · omega
      · exact absurd q1 q3
      · exact absurd q3 q1
      · omega
    rw [hzz]
    exact hgo _ M2 (LI.both (hO.stl c2 c3) hT k1 hC.2.2.2 k2 r1.2.2)
  · exact s_X5_settle hR.1 hO hR.2.1 ha ht hr (fun e' he' z1 z2 z3 => absurd ⟨⟨by omega, by omega⟩, z2, z3⟩ c) (fun _ => hgo _ M hI)
theorem law_entry (hI : LI M) (hgo : ∀ v M', LI M' → F v v M') {a b : Int32} (hG : ∀ v M1, w_X5_entry M1 a b (F v) → G v M1) : w_X4_entry M a b G := by
  obtain ⟨A, h, n, x, k, hO, hT, hC, hR⟩ := id hI
  obtain ⟨L, R, hL⟩ := hC.2.2.1
  obtain ⟨a, rfl, ha⟩ := i32_iI a
  obtain ⟨b, rfl, hb⟩ := i32_iI b
  refine s_X4_entry hC.1 hO hL ha hb (fun e he c1 c2 => hG _ M ?_) (fun c => hG _ M ?_)
  · refine s_X5_entry hR.1 hO hL ha hb (fun e' he' _ _ M' k1 k2 => ?_) (fun z => absurd ⟨⟨by omega, by omega⟩, c2⟩ z)
    obtain rfl : e = e' := by omega
    exact hgo _ M' (LI.ask hO hT hC hR k1 k2)
  · exact s_X5_entry hR.1 hO hL ha hb (fun e' he' z1 z2 => absurd ⟨⟨by omega, by omega⟩, z2⟩ c) (fun _ => hgo _ M hI)
theorem law_bar (hI : LI M) (hgo : ∀ v M', LI M' → F v v M') {a w b : Int32} (hG : ∀ v M1, w_X5_bar M1 a w b (F v) → G v M1) : w_X4_bar M a w b G := by
  obtain ⟨A, h, n, x, k, hO, hT, hC, hR⟩ := id hI
  obtain ⟨L, R, hL⟩ := hC.2.2.1
  obtain ⟨a, rfl, ha⟩ := i32_iI a
  obtain ⟨w, rfl, hw⟩ := i32_iI w
  obtain ⟨b, rfl, hb⟩ := i32_iI b
  refine s_X4_bar hC.1 hO hL ha hw hb (fun e he c1 c2 c3 => hG _ M ?_) (fun c => hG _ M ?_)
  · refine s_X5_bar hR.1 hO hL ha hw hb (fun e' he' _ _ _ M' k1 k2 => ?_) (fun z => absurd ⟨⟨by omega, by omega⟩, c2, c3⟩ z)
    obtain rfl : e = e' := by omega
    exact hgo _ M' (LI.ask hO hT hC hR k1 k2)
  · exact s_X5_bar hR.1 hO hL ha hw hb (fun e' he' z1 z2 z3 => absurd ⟨⟨by omega, by omega⟩, z2, z3⟩ c) (fun _ => hgo _ M hI)
theorem law_shown (hI : LI M) (hgo : ∀ v M', LI M' → F v v M') {a b : Int32} (hG : ∀ v M1, w_X5_shown M1 a b (F v) → G v M1) : w_X4_shown M a b G := by
  obtain ⟨A, h, n, x, k, hO, hT, hC, hR⟩ := id hI
  obtain ⟨L, R, hL⟩ := hC.2.2.1
  obtain ⟨a, rfl, ha⟩ := i32_iI a
  obtain ⟨b, rfl, hb⟩ := i32_iI b
  refine s_X4_shown hC.1 hO hL ha hb (fun c1 c2 => hG _ M ?_) (fun c => hG _ M ?_)
  · exact s_X5_shown hR.1 hO hL ha hb (fun _ _ M' k1 k2 => hgo _ M' (LI.ask hO hT hC hR k1 k2)) (fun z => absurd ⟨c1, c2⟩ z)
  · exact s_X5_shown hR.1 hO hL ha hb (fun z1 z2 => absurd ⟨z1, z2⟩ c) (fun _ => hgo _ M hI)
theorem law_rowOf (hI : LI M) (hgo : ∀ v M', LI M' → F v v M') {a b : Int32} (hG : ∀ v M1, w_X5_rowOf M1 a b (F v) → G v M1) : w_X4_rowOf M a b G := by
  obtain ⟨A, h, n, x, k, hO, hT, hC, hR⟩ := id hI
  obtain ⟨L, R, hL⟩ := hC.2.2.1
  obtain ⟨a, rfl, ha⟩ := i32_iI a
  obtain ⟨b, rfl, hb⟩ := i32_iI b
  refine s_X4_rowOf hC.1 hO hL ha hb (fun e he c1 c2 => hG _ M ?_) (fun c => hG _ M ?_)
  · refine s_X5_rowOf hR.1 hO hL ha hb (fun e' he' _ _ M' k1 k2 => ?_) (fun z => absurd ⟨⟨by omega, by omega⟩, c2⟩ z)
    obtain rfl : e = e' := by omega
    exact hgo _ M' (LI.ask hO hT hC hR k1 k2)
  · exact s_X5_rowOf hR.1 hO hL ha hb (fun e' he' z1 z2 => absurd ⟨⟨by omega, by omega⟩, z2⟩ c) (fun _ => hgo _ M hI)
theorem law_day (hI : LI M) (hgo : ∀ v M', LI M' → F v v M') {a b : Int32} (hG : ∀ v M1, w_X5_day M1 a b (F v) → G v M1) : w_X4_day M a b G := by
  obtain ⟨A, h, n, x, k, hO, hT, hC, hR⟩ := id hI
  obtain ⟨L, R, hL⟩ := hC.2.2.1
  obtain ⟨a, rfl, ha⟩ := i32_iI a
  obtain ⟨b, rfl, hb⟩ := i32_iI b
  refine s_X4_day hC.1 hO hL ha hb (fun c1 c2 => hG _ M ?_) (fun c => hG _ M ?_)
  · exact s_X5_day hR.1 hO hL ha hb (fun _ _ M' k1 k2 => hgo _ M' (LI.ask hO hT hC hR k1 k2)) (fun z => absurd ⟨c1, c2⟩ z)
  · exact s_X5_day hR.1 hO hL ha hb (fun z1 z2 => absurd ⟨z1, z2⟩ c) (fun _ => hgo _ M hI)
theorem law_enough (hI : LI M) (hgo : ∀ v M', LI M' → F v v M') (hG : ∀ v M1, w_X5_enough M1 (F v) → G v M1) : w_X4_enough M G := by
  obtain ⟨A, h, n, x, k, hO, hT, hC, hR⟩ := id hI
  obtain ⟨L, R, hL⟩ := hC.2.2.1
  exact s_X4_enough hC.1 hO hL (hG _ M (s_X5_enough hR.1 hO hL (fun M' k1 _ k2 => hgo _ M' (LI.ask hO hT hC hR k1 k2))))
theorem law_ifRows (hI : LI M) (hgo : ∀ v M', LI M' → F v v M') {a : Int32} (hG : ∀ v M1, w_X5_ifRows M1 a (F v) → G v M1) : w_X4_ifRows M a G := by
  obtain ⟨A, h, n, x, k, hO, hT, hC, hR⟩ := id hI
  obtain ⟨L, R, hL⟩ := hC.2.2.1
  obtain ⟨a, rfl, ha⟩ := i32_iI a
  refine s_X4_ifRows hC.1 hO hL ha (fun c1 => hG _ M ?_) (fun c => hG _ M ?_)
  · exact s_X5_ifRows hR.1 hO hL ha (fun _ M' k1 k2 => hgo _ M' (LI.ask hO hT hC hR k1 k2)) (fun z => absurd c1 z)
  · exact s_X5_ifRows hR.1 hO hL ha (fun z1 => absurd z1 c) (fun _ => hgo _ M hI)
theorem law_free (hI : LI M) (hgo : ∀ v M', LI M' → F v v M') {a b : Int32} (hG : ∀ v M1, w_X5_free M1 a b (F v) → G v M1) : w_X4_free M a b G := by
  obtain ⟨A, h, n, x, k, hO, hT, hC, hR⟩ := id hI
  obtain ⟨L, R, hL⟩ := hC.2.2.1
  obtain ⟨a, rfl, ha⟩ := i32_iI a
  refine s_X4_free hC.1 hO hL ha (fun c1 => hG _ M ?_) (fun c => hG _ M ?_)
  · exact s_X5_free hR.1 hO ha (fun _ => hgo _ M hI) (fun z => absurd c1 z)
  · exact s_X5_free hR.1 hO ha (fun z1 => absurd z1 c) (fun _ => hgo _ M hI)
theorem law_bestDay (hI : LI M) (hgo : ∀ v M', LI M' → F v v M') {a : Int32} (hG : ∀ v M1, w_X5_bestDay M1 a (F v) → G v M1) : w_X4_bestDay M a G := by
  obtain ⟨A, h, n, x, k, hO, hT, hC, hR⟩ := id hI
  obtain ⟨a, rfl, ha⟩ := i32_iI a
  refine s_X4_bestDay hC.1 hO ha (fun e he c M1 _ k2 => hG _ M1 ?_) (fun c => hG _ M ?_)
  · obtain ⟨hC1, s1⟩ := hC.trial k2
    have r1 := hR.c s1
    refine s_X5_bestDay r1.1 hO r1.2.1 ha (fun e' he' _ M2 d1 d2 d3 => ?_) (fun z => absurd (by omega) z)
    obtain rfl : e = e' := by omega
    exact hgo _ M2 ⟨A, h, n, x, k, hO, hT, hC1.r (sx_mono d3 (fun c i q => by show 17 ≤ c; omega)), d1, d2, r1.2.2.sx d3 (by omega) (by omega)⟩
  · exact s_X5_bestDay hR.1 hO hR.2.1 ha (fun e' he' z => absurd (by omega) c) (fun _ => hgo _ M hI)
theorem law_told (hI : LI M) (hgo : ∀ v M', LI M' → F v v M') {a : Int32} (hG : ∀ v M1, w_X5_told M1 a (F v) → G v M1) : w_X4_told M a G := by
  obtain ⟨A, h, n, x, k, hO, hT, hC, hR⟩ := id hI
  obtain ⟨L, R, hL⟩ := hC.2.2.1
  obtain ⟨a, rfl, ha⟩ := i32_iI a
  exact s_X4_told hC.1 hO hL hC.2.2.2.2.1 hC.2.1.cnt ha (hG _ M (s_X5_told hR.1 hO hL hR.2.2.2.1 hR.2.1.2.1 ha (fun M' k1 k2 => hgo _ M' (LI.ask hO hT hC hR k1 k2))))
theorem law_undo (hI : LI M) (hgo : ∀ v M', LI M' → F v v M') (hG : ∀ v M1, w_X5_undo M1 (F v) → G v M1) : w_X4_undo M G := by
  obtain ⟨A, h, n, x, k, hO, hT, hC, hR⟩ := id hI
  cases n with
  | zero => exact s_X4_undo0 hC.2.1 (hG _ M (s_X5_undo0 hR.2.1 (hgo _ M hI)))
  | succ n =>
    refine s_X4_undo hC.2.1 (fun M1 k1 k2 k3 k4 => hG _ M1 ?_)
    have s1 : sx c17 M M1 := sx_mono k4 (fun c i q => by unfold kc pgc at q; show c < 17; omega)
    have r1 := hR.c s1
    have hC1 : IC M1 (h n) h n x k := ⟨k1, k2, k3, hC.2.2.2.sx k4 (by unfold kc pgc; omega) (by unfold kc pgc; omega)⟩
    exact s_X5_undo r1.1 r1.2.1 (fun M2 d1 d2 d3 d4 => hgo _ M2 ⟨h n, h, n, x, k, (hR.2.1.2.2 n (by omega)).2, hT, hC1.r (kr_r d3), d1, d2, r1.2.2.1, by rw [d4 3 (by decide)]; exact r1.2.2.2.1, fun j hj => by rw [d3 19 0 (by omega)]; exact r1.2.2.2.2 j hj⟩)
theorem law_digest {F : Int64 → Int64 → Mm → Prop} {G : Int64 → Mm → Prop} (hI : LI M) (hgo : ∀ v M', LI M' → F v v M') (hG : ∀ v M1, w_X5_digest M1 (F v) → G v M1) : w_X4_digest M G := by
  obtain ⟨A, h, n, x, k, hO, hT, hC, hR⟩ := id hI
  obtain ⟨L, R, hL⟩ := hC.2.2.1
  exact s_X4_digest hC.1 hO hL hC.2.2.2.2.1 hC.2.1.cnt (hG _ M (s_X5_digest hR.1 hO hL hR.2.2.2.1 hR.2.1.2.1 (fun M' k1 k2 => hgo _ M' (LI.ask hO hT hC hR k1 k2))))
end CALLS
