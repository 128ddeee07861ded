/-- the memory when both objects stand -/
def mmJ (M : Mm) : Mm := fun c => if c < 17 then M c else mm0 c
def q2 (qq : Nat → Nat → Nat) (q : Nat) : Nat → Nat → Nat := fun c i => if c < 17 then qq c i else q
/-- the law's row of numbers -/
def postN (t : ClassId × ClassId × ClassId) (q : Nat) : va_W := [(q, .inl (t.1, 13, .inl (fun _ => 0)))]
theorem kd_17 : ∀ k, k < 115 → kd k < 17 := by decide +kernel
theorem cr_17 {D : va_G} {qq : Nat → Nat → Nat} {t : ClassId × ClassId × ClassId} {q : Nat} {n n' c i : Nat} {r : Nat → Int32} (h : c < 17) : cr (D, q2 qq q, t, n) c i r = cr (D, qq, t, n') c i r := by
  rcases (show c = 0 ∨ c = 1 ∨ c = 2 ∨ c = 3 ∨ c = 4 ∨ c = 5 ∨ c = 6 ∨ c = 7 ∨ c = 8 ∨ c = 9 ∨ c = 10 ∨ c = 11 ∨ c = 12 ∨ c = 13 ∨ c = 14 ∨ c = 15 ∨ c = 16 by omega) with rfl | rfl | rfl | rfl | rfl | rfl | rfl | rfl | rfl | rfl | rfl | rfl | rfl | rfl | rfl | rfl | rfl <;> rfl
theorem wl_len (o : Om) (M : Mm) : (wl o M).length = o.2.2.2 := by
  unfold wl
  rw [List.length_map, List.length_range]
theorem asm2_k {D : va_G} {qq : Nat → Nat → Nat} {t : ClassId × ClassId × ClassId} {q : Nat} {M : Mm} : ∀ k, k < 116 → (wl (D, qq, t, 115) M ++ postN t q)[k]? = some (q2 qq q (kd k) (k - bas (kd k)), cr (D, q2 qq q, t, 116) (kd k) (k - bas (kd k)) (mmJ M (kd k) (k - bas (kd k)))) := by
  intro k hk
  have hlen : (wl (D, qq, t, 115) M).length = 115 := wl_len _ _
  by_cases h : k < 115
  · rw [List.getElem?_append_left (by rw [hlen]; exact h), wl_k, if_pos h]
    have h17 := kd_17 k h
    rw [cr_17 (n' := 115) h17]
    have e1 : q2 qq q (kd k) (k - bas (kd k)) = qq (kd k) (k - bas (kd k)) := if_pos h17
    have e2 : mmJ M (kd k) (k - bas (kd k)) = M (kd k) (k - bas (kd k)) := by
      show (if kd k < 17 then M (kd k) else mm0 (kd k)) (k - bas (kd k)) = _
      rw [if_pos h17]
    rw [e1, e2]
  · rw [List.getElem?_append_right (by rw [hlen]; omega), hlen]
    rcases (show k = 115 by omega) with rfl
    rfl
theorem asm2_P {D : va_G} {qq : Nat → Nat → Nat} {t : ClassId × ClassId × ClassId} {q : Nat} {M : Mm} {H : Heap} (hP : va_P D vwCl (wl (D, qq, t, 115) M ++ postN t q) H) : va_P D vwCl (wl (D, q2 qq q, t, 116) (mmJ M)) H :=
  wl_intro (o := (D, q2 qq q, t, 116)) (fun k hk => hP k _ (asm2_k k hk))
theorem asm2_D {D : va_G} {qq : Nat → Nat → Nat} {t : ClassId × ClassId × ClassId} {q : Nat} {M : Mm} {A : Nat → Prop} (hD : va_D A (wl (D, qq, t, 115) M ++ postN t q)) : va_D A (wl (D, q2 qq q, t, 116) (mmJ M)) :=
  wl_introD (o := (D, q2 qq q, t, 116)) hD id (fun k hk => ⟨_, asm2_k k hk⟩) (fun i j _ _ h => h)
set_option maxHeartbeats 8000000 in
set_option maxRecDepth 100000 in
/-- the law from its entry, over what the functional texts owe -/
theorem start_open {p : Program} {e : Env} {s : State} {m : MethodId} {below : List Frame} {meth : Method} {c : Code} (l : Launch) {b L : Nat} {xs : Nat → Int32} (C0 : lw_At p s m meth c b L xs) {Q Q1 : Mm → Prop} (hlay : w_X0_lay 0 mm0 Q) (hlaw1 : ∀ M, Q M → w_L_law1 L xs M Q1 (fun r _ => r = 1)) (hlaw2 : ∀ M, Q1 M → w_L_law2 L xs (mmJ M) (fun r _ => r = 1)) : W p l e room_1 s m #[Value.ref b] below meth c s.heap [] 0 0 (lw_Z below #[Value.ref b] s) (entryFrame m ([Value.ref b] : List Value).toArray 10) := by
  obtain ⟨hx, hb, hr, hml, hown, hts0, hX, hbl, hlocks, hgv⟩ := id C0
  have hts : ∀ w ∈ lw_g, w.before #[Value.ref b] s = true := fun w h => hts0 w (lw_g_in w h)
  obtain ⟨A, hAe⟩ : ∃ A : Nat → Prop, A = fun q : Nat => s.heap.size ≤ q := ⟨_, rfl⟩
  have hA : ∀ q, s.heap.size ≤ q → A q := fun q h => by rw [hAe]; exact h
  obtain ⟨c0, iS0, hKn0⟩ := u_known (C := RX0) (T := TX0) (N := 8) (n := 8) hts in_X0 (hts _ ins_X0)
  obtain ⟨c1, iS1, hKn1⟩ := u_known (C := RX1) (T := TX1) (N := 3) (n := 3) hts in_X1 (hts _ ins_X1)
  obtain ⟨c2, iS2, hKn2⟩ := u_known (C := RX2) (T := TX2) (N := 9) (n := 9) hts in_X2 (hts _ ins_X2)
  obtain ⟨c3, iS3, hKn3⟩ := u_known (C := RX3) (T := TX3) (N := 4) (n := 4) hts in_X3 (hts _ ins_X3)
  obtain ⟨c4, iS4, hKn4⟩ := u_known (C := RX4) (T := TX4) (N := 4) (n := 4) hts in_X4 (hts _ ins_X4)
  obtain ⟨D, hKc⟩ : ∃ D : va_G, ∀ (k : Nat) (q : vw_C), vwCl[k]? = some q → u_Kn s q.1 q.2.1 q.2.2 (D.1 k) (D.2 k) := by
    refine ⟨(fun k => if k = 0 then c0 else if k = 1 then c1 else if k = 2 then c2 else if k = 3 then c3 else c4, fun k => if k = 0 then iS0 else if k = 1 then iS1 else if k = 2 then iS2 else if k = 3 then iS3 else iS4), ?_⟩
    intro k q hq
    match k, hq with
    | 0, hq => cases hq; exact hKn0
    | 1, hq => cases hq; exact hKn1
    | 2, hq => cases hq; exact hKn2
    | 3, hq => cases hq; exact hKn3
    | 4, hq => cases hq; exact hKn4
    | k + 5, hq => simp [vwCl] at hq
  obtain ⟨cI, kI, compI, hI1, hI2, hI3⟩ := Cond.arrayClass_spec (hts _ arr_int)
  obtain ⟨compP, cP, kP, hP1, hP0, hP2, hP3, hP4⟩ := Cond.arrayOver_spec (hts0 _ over_plan)
  obtain ⟨compR, cR, kR, hR1, hR2, hR3, hR4⟩ := Cond.arrayOver_specA (hts0 _ over_int)
  obtain ⟨t, ht⟩ : ∃ t : ClassId × ClassId × ClassId, t = (cI, cP, cR) := ⟨_, rfl⟩
  have hK0 : va_K D vwCl (k_tys t) s := by
    rw [ht]
    refine ⟨hKc, fun k q hk => ?_⟩
    match k, hk with
    | 0, hk => cases hk; exact ⟨fun N z => ⟨(fun k h => by cases h), kI, hI2, compI, hI3⟩, hI1⟩
    | 1, hk => cases hk; exact ⟨fun N z => ⟨(fun k h => by cases h), kP, hP2, compP, hP3⟩, kP, compP, hP2, hP3, hP1, hP4⟩
    | 2, hk => cases hk; exact ⟨fun N z => ⟨(fun k h => by cases h), kR, hR2, compR, hR3⟩, hR4⟩
    | k + 3, hk => simp [k_tys] at hk
  have hK : KB D t s := ⟨hK0, va_Nw.of rfl (hts0 _ kX0_11), va_Nw.of rfl (hts0 _ kX1_24), va_Nw.of rfl (hts0 _ kX4_9), va_Nw.of rfl (hts0 _ kX4_28), (over_vm rfl).trans (hts0 _ over_plan), (over_vm rfl).trans (hts0 _ over_int)⟩
  have hS : va_S A s.heap s.heap [] := va_S.rf
  have hP : va_P D vwCl [] s.heap := fun k q h => by simp at h
  have hD : va_D A [] := ⟨fun i j p q h => by simp at h, fun k q h => by simp at h⟩
  have hl := lv_entry ([.ref b]) (n := 10) (Nat.le_of_ble_eq_true rfl)
  rw [lg_entry_eq]
  generalize (lg_sl ([.ref b]) ++ List.replicate (10 - (lg_sl ([.ref b])).length) Slot.unset).toArray = ls at hl ⊢
  replace hl : lv_has ls 10 [(0, .ref b)] := hl
  refine va_new (D := D) (cl := vwCl) (ci := 4) (fs := [.null, .null, .null, .null]) (C := RX4) (T := TX4) (N := 4) hx hb hts in_X4 tyX4 tyX4_ok hown (hts _ kL_16) (hts _ ins_X4) (hts _ ini_X4) hK.1 hP hD hS hA rfl (fun j hj => by rcases (show j = 0 ∨ j = 1 ∨ j = 2 ∨ j = 3 by omega) with rfl | rfl | rfl | rfl <;> rfl) (Nat.le_of_ble_eq_true rfl) (Nat.le_of_ble_eq_true rfl) dL_law_0 ?_
  clear hP hD hS
  intro q0 H hP hD hS
  refine lv_dup hx hb dL_law_3 rfl ?_
  refine i_after (q := q0) (eb := .inr (4, [.null, .null, .null, .null])) (wr := []) (pw := fun u : (Nat → Nat → Nat) × Mm => wl (D, u.1, t, 115) u.2) hP hD hS hA (i_run hx hb hml hown hts mX4_init rfl vX4_init kL_58 hK (i_X4 D t q0 H.size hlay) rfl hP (hD.weaken (fun _ _ _ _ => trivial)) rfl rfl ⟨Nat.le_of_ble_eq_true rfl, Nat.le_of_ble_eq_true rfl⟩ hl.1 (Nat.le_of_ble_eq_true rfl) dL_law_4 ⟨Nat.le_of_ble_eq_true rfl, Nat.le_of_ble_eq_true rfl⟩) ?_
  clear hP hD hS
  intro u H locs hu hP hD hS
  obtain ⟨qq, M⟩ := u
  obtain ⟨hq, hQ⟩ := hu
  dsimp only at hq hQ hP hD
  rw [List.nil_append] at hP hD
  refine lv_astore_n (lv' := [(1, .ref q0), (0, .ref b)]) hx hb dL_law_7 rfl hl (by decide) rfl ?_
  clear hl; clear ls; intro ls hl
  have hw : WO (D, qq, t, 115) (fun q : Nat => s.heap.size ≤ q) s s.heap H locs M := by
    rw [hAe] at hD hS
    exact ⟨hK.1, hP, hD, hS⟩
  clear hP hD hS
  have hl1 : lv_has ls 10 [(1, .ref (qq 0 0)), (0, .ref b)] := by
    rw [hq]
    exact hl
  clear hl
  refine c_L_law1 (o := (D, qq, t, 115)) (Nat.le_refl 115) C0 (Nat.le_of_ble_eq_true rfl) (Nat.le_of_ble_eq_true rfl) (fun r _ h => h) (fun M1 H1 locs1 ls1 hw1 hk1 hl => ?_) hw (hlaw1 M hQ) hl1
  clear hw hl1
  obtain ⟨_, hP, hD, hS⟩ := hw1
  dsimp only at hP hD hl
  refine i_newi (N' := 13) hx hb hts hK hP hD hS (fun q h => h) (by decide) (by decide) (by decide) (Nat.le_of_ble_eq_true rfl) (Nat.le_of_ble_eq_true rfl) dL_law_34 ?_
  clear hP hD hS
  intro q H hP hD hS
  have hw : WO (D, q2 qq q, t, 116) (fun q : Nat => s.heap.size ≤ q) s s.heap H locs1 (mmJ M1) := ⟨hK.1, asm2_P hP, asm2_D hD, hS⟩
  have hl2 : lv_has ls1 10 [(1, .ref (q2 qq q 0 0)), (0, .ref b)] := lv_sub hl [1, 0] rfl
  exact c_L_law2 (o := (D, q2 qq q, t, 116)) (Nat.le_refl 116) C0 (Nat.le_of_ble_eq_true rfl) (Nat.le_of_ble_eq_true rfl) (fun r _ h => h) hw (hlaw2 M1 hk1) hl2
