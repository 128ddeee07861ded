/-- the memory when both objects stand -/
def mmJ (M : Mm) : Mm := fun c => if c < 17 then M c else mm0 c
def q2 (qq : Nat → Nat → Nat) (q : Nat) (u : Nat → Nat) : Nat → Nat → Nat := fun c i => if c < 17 then qq c i else if c = 17 then q else u (c - 18)
theorem kd_17 : ∀ k, k < 115 → kd k < 17 := by decide +kernel
theorem cr_17 {D : va_G} {qq : Nat → Nat → Nat} {t : ClassId × ClassId × ClassId} {q : Nat} {u : Nat → Nat} {n n' c i : Nat} {r : Nat → Int32} (h : c < 17) : cr (D, q2 qq q u, t, n) c i r = cr (D, qq, t, n') c i r := by
  rcases (show c = 0 ∨ c = 1 ∨ c = 2 ∨ c = 3 ∨ c = 4 ∨ c = 5 ∨ c = 6 ∨ c = 7 ∨ c = 8 ∨ c = 9 ∨ c = 10 ∨ c = 11 ∨ c = 12 ∨ c = 13 ∨ c = 14 ∨ c = 15 ∨ c = 16 by omega) with rfl | rfl | rfl | rfl | rfl | rfl | rfl | rfl | rfl | rfl | rfl | rfl | rfl | rfl | rfl | rfl | rfl <;> rfl
theorem wl_len (o : Om) (M : Mm) : (wl o M).length = o.2.2.2 := by
  unfold wl
  rw [List.length_map, List.length_range]
theorem asm2_k {D : va_G} {qq : Nat → Nat → Nat} {t : ClassId × ClassId × ClassId} {q : Nat} {u : Nat → Nat} {M : Mm} : ∀ k, k < 122 → (wl (D, qq, t, 115) M ++ postX5 t q u)[k]? = some (q2 qq q u (kd k) (k - bas (kd k)), cr (D, q2 qq q u, t, 122) (kd k) (k - bas (kd k)) (mmJ M (kd k) (k - bas (kd k)))) := by
  intro k hk
  have hlen : (wl (D, qq, t, 115) M).length = 115 := wl_len _ _
  by_cases h : k < 115
  · rw [List.getElem?_append_left (by rw [hlen]; exact h), wl_k, if_pos h]
    have h17 := kd_17 k h
    rw [cr_17 (n' := 115) h17]
    have e1 : q2 qq q u (kd k) (k - bas (kd k)) = qq (kd k) (k - bas (kd k)) := if_pos h17
    have e2 : mmJ M (kd k) (k - bas (kd k)) = M (kd k) (k - bas (kd k)) := by
      show (if kd k < 17 then M (kd k) else mm0 (kd k)) (k - bas (kd k)) = _
      rw [if_pos h17]
    rw [e1, e2]
  · rw [List.getElem?_append_right (by rw [hlen]; omega), hlen]
    rcases (show k = 115 ∨ k = 116 ∨ k = 117 ∨ k = 118 ∨ k = 119 ∨ k = 120 ∨ k = 121 by omega) with rfl | rfl | rfl | rfl | rfl | rfl | rfl <;> rfl
theorem asm2_P {D : va_G} {qq : Nat → Nat → Nat} {t : ClassId × ClassId × ClassId} {q : Nat} {u : Nat → Nat} {M : Mm} {H : Heap} (hP : va_P D vwCl (wl (D, qq, t, 115) M ++ postX5 t q u) H) : va_P D vwCl (wl (D, q2 qq q u, t, 122) (mmJ M)) H :=
  wl_intro (o := (D, q2 qq q u, t, 122)) (fun k hk => hP k _ (asm2_k k hk))
theorem asm2_D {D : va_G} {qq : Nat → Nat → Nat} {t : ClassId × ClassId × ClassId} {q : Nat} {u : Nat → Nat} {M : Mm} {A : Nat → Prop} (hD : va_D A (wl (D, qq, t, 115) M ++ postX5 t q u)) : va_D A (wl (D, q2 qq q u, t, 122) (mmJ M)) :=
  wl_introD (o := (D, q2 qq q u, t, 122)) hD id (fun k hk => ⟨_, asm2_k k hk⟩) (fun i j _ _ h => h)
set_option maxHeartbeats 8000000 in
set_option maxRecDepth 100000 in
/-- the law from its entry, over what the functional texts owe -/
theorem start_open {p : Program} {e : Env} {s : State} {m : MethodId} {below : List Frame} {meth : Method} {c : Code} (l : Launch) {b L : Nat} {xs : Nat → Int32} (hL : L ≤ 2560) (C0 : lw_At p s m meth c b L xs) {Q : Mm → Prop} (hlay : w_X0_lay 0 mm0 Q) (hlaw : ∀ M, Q M → w_L_law L xs (mmJ M) (fun r _ => r = 1)) : W p l e room_1 s m #[Value.ref b] below meth c s.heap [] 0 0 (lw_Z below #[Value.ref b] s) (entryFrame m ([Value.ref b] : List Value).toArray 4) := by
  obtain ⟨hx, hb, hr, hml, hown, hts0, hX, hbl, hlocks, hgv⟩ := id C0
  have hts : ∀ w ∈ lw_g, w.before #[Value.ref b] s = true := fun w h => hts0 w (lw_g_in w h)
  obtain ⟨A, hAe⟩ : ∃ A : Nat → Prop, A = fun q : Nat => s.heap.size ≤ q := ⟨_, rfl⟩
  have hA : ∀ q, s.heap.size ≤ q → A q := fun q h => by rw [hAe]; exact h
  obtain ⟨c0, iS0, hKn0⟩ := u_known (C := RX0) (T := TX0) (N := 8) (n := 8) hts in_X0 (hts _ ins_X0)
  obtain ⟨c1, iS1, hKn1⟩ := u_known (C := RX1) (T := TX1) (N := 3) (n := 3) hts in_X1 (hts _ ins_X1)
  obtain ⟨c2, iS2, hKn2⟩ := u_known (C := RX2) (T := TX2) (N := 9) (n := 9) hts in_X2 (hts _ ins_X2)
  obtain ⟨c3, iS3, hKn3⟩ := u_known (C := RX3) (T := TX3) (N := 4) (n := 4) hts in_X3 (hts _ ins_X3)
  obtain ⟨c4, iS4, hKn4⟩ := u_known (C := RX4) (T := TX4) (N := 4) (n := 4) hts in_X4 (hts _ ins_X4)
  obtain ⟨c5, iS5, hKn5⟩ := u_known (C := RX5) (T := TX5) (N := 10) (n := 10) hts in_X5 (hts _ ins_X5)
  obtain ⟨D, hKc⟩ : ∃ D : va_G, ∀ (k : Nat) (q : vw_C), vwCl[k]? = some q → u_Kn s q.1 q.2.1 q.2.2 (D.1 k) (D.2 k) := by
    refine ⟨(fun k => if k = 0 then c0 else if k = 1 then c1 else if k = 2 then c2 else if k = 3 then c3 else if k = 4 then c4 else c5, fun k => if k = 0 then iS0 else if k = 1 then iS1 else if k = 2 then iS2 else if k = 3 then iS3 else if k = 4 then iS4 else iS5), ?_⟩
    intro k q hq
    match k, hq with
    | 0, hq => cases hq; exact hKn0
    | 1, hq => cases hq; exact hKn1
    | 2, hq => cases hq; exact hKn2
    | 3, hq => cases hq; exact hKn3
    | 4, hq => cases hq; exact hKn4
    | 5, hq => cases hq; exact hKn5
    | k + 6, hq => simp [vwCl] at hq
  obtain ⟨cI, kI, compI, hI1, hI2, hI3⟩ := Cond.arrayClass_spec (hts _ arr_int)
  obtain ⟨compP, cP, kP, hP1, hP0, hP2, hP3, hP4⟩ := Cond.arrayOver_spec (hts0 _ over_plan)
  obtain ⟨compR, cR, kR, hR1, hR2, hR3, hR4⟩ := Cond.arrayOver_specA (hts0 _ over_int)
  obtain ⟨t, ht⟩ : ∃ t : ClassId × ClassId × ClassId, t = (cI, cP, cR) := ⟨_, rfl⟩
  have hK0 : va_K D vwCl (k_tys t) s := by
    rw [ht]
    refine ⟨hKc, fun k q hk => ?_⟩
    match k, hk with
    | 0, hk => cases hk; exact ⟨fun N z => ⟨(fun k h => by cases h), kI, hI2, compI, hI3⟩, hI1⟩
    | 1, hk => cases hk; exact ⟨fun N z => ⟨(fun k h => by cases h), kP, hP2, compP, hP3⟩, kP, compP, hP2, hP3, hP1, hP4⟩
    | 2, hk => cases hk; exact ⟨fun N z => ⟨(fun k h => by cases h), kR, hR2, compR, hR3⟩, hR4⟩
    | k + 3, hk => simp [k_tys] at hk
  have hK : KB D t s := ⟨hK0, va_Nw.of rfl (hts0 _ kX0_11), va_Nw.of rfl (hts0 _ kX1_24), va_Nw.of rfl (hts0 _ kX4_9), va_Nw.of rfl (hts0 _ kX4_28), (over_vm rfl).trans (hts0 _ over_plan), (over_vm rfl).trans (hts0 _ over_int)⟩
  have hS : va_S A s.heap s.heap [] := va_S.rf
  have hP : va_P D vwCl [] s.heap := fun k q h => by simp at h
  have hD : va_D A [] := ⟨fun i j p q h => by simp at h, fun k q h => by simp at h⟩
  have hl := lv_entry ([.ref b]) (n := 4) (Nat.le_of_ble_eq_true rfl)
  rw [lg_entry_eq]
  generalize (lg_sl ([.ref b]) ++ List.replicate (4 - (lg_sl ([.ref b])).length) Slot.unset).toArray = ls at hl ⊢
  replace hl : lv_has ls 4 [(0, .ref b)] := hl
  refine va_new (D := D) (cl := vwCl) (ci := 4) (fs := [.null, .null, .null, .null]) (C := RX4) (T := TX4) (N := 4) hx hb hts in_X4 tyX4 tyX4_ok hown (hts _ kL_7) (hts _ ins_X4) (hts _ ini_X4) hK.1 hP hD hS hA rfl (fun j hj => by rcases (show j = 0 ∨ j = 1 ∨ j = 2 ∨ j = 3 by omega) with rfl | rfl | rfl | rfl <;> rfl) (Nat.le_of_ble_eq_true rfl) (Nat.le_of_ble_eq_true rfl) dL_law_0 ?_
  clear hP hD hS
  intro q0 H hP hD hS
  refine lv_dup hx hb dL_law_3 rfl ?_
  refine i_after (q := q0) (eb := .inr (4, [.null, .null, .null, .null])) (wr := []) (pw := fun u : (Nat → Nat → Nat) × Mm => wl (D, u.1, t, 115) u.2) hP hD hS hA (i_run hx hb hml hown hts mX4_init rfl vX4_init kL_9 hK (i_X4 D t q0 H.size hlay) rfl hP (hD.weaken (fun _ _ _ _ => trivial)) rfl rfl ⟨Nat.le_of_ble_eq_true rfl, Nat.le_of_ble_eq_true rfl⟩ hl.1 (Nat.le_of_ble_eq_true rfl) dL_law_4 ⟨Nat.le_of_ble_eq_true rfl, Nat.le_of_ble_eq_true rfl⟩) ?_
  clear hP hD hS
  intro u H locs hu hP hD hS
  obtain ⟨qq, M⟩ := u
  obtain ⟨hq, hQ⟩ := hu
  dsimp only at hq hQ hP hD
  rw [List.nil_append] at hP hD
  refine lv_astore_n (lv' := [(1, .ref q0), (0, .ref b)]) hx hb dL_law_7 rfl hl (by decide) rfl ?_
  clear hl; clear ls; intro ls hl
  refine va_new (D := D) (cl := vwCl) (ci := 5) (fs := [.null, .int 0, .null, .int 0, .null, .null, .null, .int 0, .int 0, .null]) (C := RX5) (T := TX5) (N := 10) hx hb hts in_X5 tyX5 tyX5_ok hown (hts _ kL_10) (hts _ ins_X5) (hts _ ini_X5) hK.1 hP hD hS hA rfl (fun j hj => by rcases (show j = 0 ∨ j = 1 ∨ j = 2 ∨ j = 3 ∨ j = 4 ∨ j = 5 ∨ j = 6 ∨ j = 7 ∨ j = 8 ∨ j = 9 by omega) with rfl | rfl | rfl | rfl | rfl | rfl | rfl | rfl | rfl | rfl <;> rfl) (Nat.le_of_ble_eq_true rfl) (Nat.le_of_ble_eq_true rfl) dL_law_8 ?_
  clear hP hD hS
  intro q H hP hD hS
  refine lv_dup hx hb dL_law_11 rfl ?_
  have hix : (wl (D, qq, t, 115) M ++ [(q, (.inr (5, [.null, .int 0, .null, .int 0, .null, .null, .null, .int 0, .int 0, .null]) : va_E))])[115]? = some (q, .inr (5, [.null, .int 0, .null, .int 0, .null, .null, .null, .int 0, .int 0, .null])) := by
    rw [List.getElem?_append_right (by rw [wl_len]; exact Nat.le_refl _), wl_len]
    rfl
  have hPc : va_P D vwCl [(q, .inr (5, [.null, .int 0, .null, .int 0, .null, .null, .null, .int 0, .int 0, .null]))] H := hP.sub [115] (by rw [List.filterMap_cons, hix]; rfl)
  have hDc : va_D A [(q, .inr (5, [.null, .int 0, .null, .int 0, .null, .null, .null, .int 0, .int 0, .null]))] := hD.sub [115] (by decide) (by rw [List.map_cons, hix]; rfl)
  refine i_after (q := q) (eb := .inr (5, [.null, .int 0, .null, .int 0, .null, .null, .null, .int 0, .int 0, .null])) (wr := wl (D, qq, t, 115) M) (pw := postX5 t q) hP hD hS hA (i_run hx hb hml hown hts mX5_init rfl vX5_init kL_12 hK (i_X5 D t q H.size) rfl hPc (hDc.weaken (fun _ _ _ _ => trivial)) rfl rfl ⟨Nat.le_of_ble_eq_true rfl, Nat.le_of_ble_eq_true rfl⟩ hl.1 (Nat.le_of_ble_eq_true rfl) dL_law_12 ⟨Nat.le_of_ble_eq_true rfl, Nat.le_of_ble_eq_true rfl⟩) ?_
  clear hP hD hS hPc hDc hix
  intro u H locs _ hP hD hS
  refine lv_astore_n (lv' := [(2, .ref q), (1, .ref q0), (0, .ref b)]) hx hb dL_law_15 rfl hl (by decide) rfl ?_
  clear hl; clear ls; intro ls hl
  have hP2 := asm2_P hP
  have hD2 := asm2_D hD
  clear hP hD
  rw [hAe] at hD2 hS
  have hw : WO (D, q2 qq q u, t, 122) (fun q : Nat => s.heap.size ≤ q) s s.heap H locs (mmJ M) := ⟨hK.1, hP2, hD2, hS⟩
  have hl2 : lv_has ls 4 [(2, .ref (q2 qq q u 17 0)), (1, .ref (q2 qq q u 0 0)), (0, .ref b)] := by
    have e1 : q2 qq q u 0 0 = q0 := hq
    have e2 : q2 qq q u 17 0 = q := rfl
    rw [e1, e2]
    exact hl
  exact c_L_law (o := (D, q2 qq q u, t, 122)) (Nat.le_refl 122) C0 (Nat.le_of_ble_eq_true rfl) (Nat.le_of_ble_eq_true rfl) (fun r _ h => h) hw (hlaw M hQ) hl2
