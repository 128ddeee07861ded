/-! the law -/
theorem lg_cmp_s (v : Int64) : lg_cmp v v = 0 := by
  unfold lg_cmp
  rw [if_neg (show ¬ v > v from Int64.lt_irrefl), if_pos rfl]
set_option maxHeartbeats 8000000 in
set_option maxRecDepth 100000 in
theorem pure_law {L : Nat} {xs : Nat → Int32} (hL : L ≤ 2560) (M : Mm) (h : pureQ M) : w_L_law L xs (mmJ M) (fun r _ => r = 1) := by
  unfold w_L_law
  refine loop_I (fun m s => ∃ (i : Nat) (M' : Mm), s = (iI (i : Int), M') ∧ m = L + 5 - i ∧ i ≤ L + 4 ∧ LI M') ?_ (k := L + 5) ⟨0, mmJ M, rfl, rfl, by omega, pure_start h⟩
  rintro R m s ⟨i, M1, rfl, hm, hi, hI⟩ hR
  unfold w_L_law_L18
  dsimp only
  have eL : Int32.ofNat L - (5 : Int32) = iI ((L : Int) - 5) := by
    rw [show Int32.ofNat L = iI (L : Int) from (iI_nI L).symm, l5_, iI_sub]
  rw [eL]
  refine s_if (fun q => rfl) (fun q => ?_)
  have q : ¬ (L : Int) - 5 < i := fun z => q ((iI_lt (by omega) (by omega) (by omega) (by omega)).mpr z)
  have hx : ∀ (j : Nat), j < 5 → ∀ (v : Int32), v = iI ((i + j : Nat) : Int) → ∀ K : Int32 → Prop, K (xs (i + j)) → ldA xs L v K := by
    intro j hj v hv K hK
    rw [hv]
    exact s_ldN (by omega) (by omega) hK
  have hx1 := hx 1 (by omega) (iI (i : Int) + (1 : Int32)) (by rw [l1_, iI_add]; rfl)
  have hx2 := hx 2 (by omega) (iI (i : Int) + (2 : Int32)) (by rw [l2_, iI_add]; rfl)
  have hx3 := hx 3 (by omega) (iI (i : Int) + (3 : Int32)) (by rw [l3_, iI_add]; rfl)
  have hx4 := hx 4 (by omega) (iI (i : Int) + (4 : Int32)) (by rw [l4_, iI_add]; rfl)
  refine hx 0 (by omega) (iI (i : Int)) (by rw [Nat.add_zero]) _ ?_
  have hgo0 : ∀ M', LI M' → bI (iI (i : Int) + (5 : Int32)) fun w => R (w, M') := fun M' hI' => s_bI (hR (L + 5 - (i + 5)) _ (by omega) ⟨i + 5, M', by rw [l5_, iI_add]; rfl, rfl, by omega, hI'⟩)
  have hgo : ∀ (v : Int32) (M' : Mm), LI M' → (fun (v v' : Int32) (M' : Mm) => if v = v' then (bI (iI (i : Int) + (5 : Int32)) fun w => R (w, M')) else ((0 : Int32) = 1)) v v M' := fun v M' hI' => by
    dsimp only
    rw [if_pos rfl]
    exact hgo0 M' hI'
  have hgoL : ∀ (v : Int64) (M' : Mm), LI M' → (fun (v v' : Int64) (M' : Mm) => if (lg_cmp v v') = 0 then (bI (iI (i : Int) + (5 : Int32)) fun w => R (w, M')) else ((0 : Int32) = 1)) v v M' := fun v M' hI' => by
    dsimp only
    rw [lg_cmp_s, if_pos rfl]
    exact hgo0 M' hI'
  refine s_if (fun _ => hx1 _ (hx2 _ (law_setPage hI hgo (fun v M2 z => hx1 _ (hx2 _ z))))) (fun _ => ?_)
  refine s_if (fun _ => hx1 _ (law_setWeek hI hgo (fun v M2 z => hx1 _ z))) (fun _ => ?_)
  refine s_if (fun _ => hx1 _ (law_setRows hI hgo (fun v M2 z => hx1 _ z))) (fun _ => ?_)
  refine s_if (fun _ => hx1 _ (hx2 _ (law_week hI hgo (fun v M2 z => hx1 _ (hx2 _ z))))) (fun _ => ?_)
  refine s_if (fun _ => hx1 _ (law_type hI hgo (fun v M2 z => hx1 _ z))) (fun _ => ?_)
  refine s_if (fun _ => law_clear hI hgo (fun v M2 z => z)) (fun _ => ?_)
  refine s_if (fun _ => law_load hI hgo (fun v M2 z => z)) (fun _ => ?_)
  refine s_if (fun _ => hx1 _ (hx2 _ (hx3 _ (hx4 _ (law_add hI hgo (fun v M2 z => hx1 _ (hx2 _ (hx3 _ (hx4 _ z))))))))) (fun _ => ?_)
  refine s_if (fun _ => hx1 _ (law_drop hI hgo (fun v M2 z => hx1 _ z))) (fun _ => ?_)
  refine s_if (fun _ => hx1 _ (hx2 _ (law_move hI hgo (fun v M2 z => hx1 _ (hx2 _ z))))) (fun _ => ?_)
  refine s_if (fun _ => hx1 _ (hx2 _ (law_stretch hI hgo (fun v M2 z => hx1 _ (hx2 _ z))))) (fun _ => ?_)
  refine s_if (fun _ => hx1 _ (hx2 _ (hx3 _ (law_settle hI hgo (fun v M2 z => hx1 _ (hx2 _ (hx3 _ z))))))) (fun _ => ?_)
  refine s_if (fun _ => hx1 _ (hx2 _ (law_entry hI hgo (fun v M2 z => hx1 _ (hx2 _ z))))) (fun _ => ?_)
  refine s_if (fun _ => hx1 _ (hx2 _ (hx3 _ (law_bar hI hgo (fun v M2 z => hx1 _ (hx2 _ (hx3 _ z))))))) (fun _ => ?_)
  refine s_if (fun _ => hx1 _ (hx2 _ (law_shown hI hgo (fun v M2 z => hx1 _ (hx2 _ z))))) (fun _ => ?_)
  refine s_if (fun _ => hx1 _ (hx2 _ (law_rowOf hI hgo (fun v M2 z => hx1 _ (hx2 _ z))))) (fun _ => ?_)
  refine s_if (fun _ => hx1 _ (hx2 _ (law_day hI hgo (fun v M2 z => hx1 _ (hx2 _ z))))) (fun _ => ?_)
  refine s_if (fun _ => law_enough hI hgo (fun v M2 z => z)) (fun _ => ?_)
  refine s_if (fun _ => hx1 _ (law_ifRows hI hgo (fun v M2 z => hx1 _ z))) (fun _ => ?_)
  refine s_if (fun _ => hx1 _ (hx2 _ ?_)) (fun _ => ?_)
  · obtain ⟨X, hX⟩ : ∃ X : Int32, ∀ J : Int32 → Prop, J X → if xs (i + 2) = 0 then J (0 : Int32) else J (1 : Int32) := by
      by_cases c : xs (i + 2) = 0
      · exact ⟨0, fun J hJ => by rw [if_pos c]; exact hJ⟩
      · exact ⟨1, fun J hJ => by rw [if_neg c]; exact hJ⟩
    refine s_letV X (fun J hJ => hX J hJ) ?_
    exact law_free hI hgo (fun v M2 z => hx1 _ (hx2 _ (s_letV X (fun J hJ => hX J hJ) z)))
  refine s_if (fun _ => hx1 _ (law_bestDay hI hgo (fun v M2 z => hx1 _ z))) (fun _ => ?_)
  refine s_if (fun _ => hx1 _ (law_told hI hgo (fun v M2 z => hx1 _ z))) (fun _ => ?_)
  refine s_if (fun _ => law_undo hI hgo (fun v M2 z => z)) (fun _ => ?_)
  refine s_if (fun _ => law_digest hI hgoL (fun v M2 z => z)) (fun _ => ?_)
  exact hgo0 M1 hI
