/-! the bars -/
theorem lns_ge {L : Nat → Nat → Int} {w e k : Nat} (h : e < k) : L e w + 1 ≤ lns L w k := by
  induction k with
  | zero => omega
  | succ k ih =>
    show L e w + 1 ≤ max (lns L w k) (L k w + 1)
    by_cases q : e = k
    · rw [q]; omega
    · have := ih (by omega)
      omega
theorem no_bar {A : Ab} {L : Nat → Nat → Int} (hL : LayL A L) {e w : Nat} (h : ¬ bar A w e) : L e w = -9 := (hL w e).2 (fun z => h z.2)
theorem is_bar {A : Ab} {L : Nat → Nat → Int} (hL : LayL A L) (hLb : Lbd L) {e w : Nat} (hw : (w : Int) < nW A) (h : bar A w e) : 0 ≤ L e w := LaneAt_nn hLb ((hL w e).1 ⟨hw, h⟩)
theorem bar_row {A : Ab} {L : Nat → Nat → Int} {R : Nat → Int} (hO : Ok A) {e w : Nat} (hw : (w : Int) < nW A) (h : bar A w e) {D : Int} (h1 : max (A 1 e) (wS A w) ≤ D) (h2 : D ≤ min (A 2 e) (wL A w)) : A 0 0 ≤ D ∧ D ≤ A 0 1 ∧ rowD A L R e D = L e w := by
  have b1 := wS_b hO (w := w) (by omega) (by omega)
  have b2 := wS_b hO (w := w + 1) (by omega) (by omega)
  have eL : wL A w = wS A (w + 1) - 1 := rfl
  have d1 : A 0 0 ≤ D := by omega
  have d2 : D ≤ A 0 1 := by omega
  have hin := (wk_in hO (w := w) d1 d2 (by omega) hw).mpr ⟨by omega, by omega⟩
  refine ⟨d1, d2, ?_⟩
  unfold rowD rowv
  rw [if_pos ⟨by omega, by omega⟩, if_pos h.2.1, hin, Int.toNat_natCast]
theorem rowD_nn {A : Ab} {L : Nat → Nat → Int} {R : Nat → Int} {D : Int} (hO : Ok A) (hL : LayL A L) (hR : LayR A L R) (hLb : Lbd L) (d1 : A 0 0 ≤ D) (d2 : D ≤ A 0 1) {e : Nat} (he : (e : Int) < A 0 4) : 0 ≤ rowD A L R e D ↔ onD A D e := by
  unfold rowD
  by_cases c : onD A D e
  · rw [if_pos c]
    exact ⟨fun _ => c, fun _ => rowv_nn hO hL hR hLb d1 d2 he c⟩
  · rw [if_neg c]
    exact ⟨fun z => absurd z (by decide), fun z => absurd z c⟩
theorem mx_if {a b : Int} (ha : i32 a) (hb : i32 b) {P : Int32 → Prop} (h : P (iI (max a b))) : (iI a ≤ iI b → P (iI b)) ∧ (¬ iI a ≤ iI b → P (iI a)) := by
  constructor
  · intro z
    have z := (iI_le ha.1 ha.2 hb.1 hb.2).mp z
    rwa [show max a b = b by omega] at h
  · intro z
    have z : ¬ a ≤ b := fun q => z ((iI_le ha.1 ha.2 hb.1 hb.2).mpr q)
    rwa [show max a b = a by omega] at h
theorem mn_if {a b : Int} (ha : i32 a) (hb : i32 b) {P : Int32 → Prop} (h : P (iI (min a b))) : (iI b ≤ iI a → P (iI b)) ∧ (¬ iI b ≤ iI a → P (iI a)) := by
  constructor
  · intro z
    have z := (iI_le hb.1 hb.2 ha.1 ha.2).mp z
    rwa [show min a b = b by omega] at h
  · intro z
    have z : ¬ b ≤ a := fun q => z ((iI_le hb.1 hb.2 ha.1 ha.2).mpr q)
    rwa [show min a b = a by omega] at h
section BARS
variable {M : Mm} {A : Ab} {L : Nat → Nat → Int} {R : Nat → Int} {n : Nat} {Q : Int32 → Mm → Prop}
/-- one week of one entry's bars -/
theorem p_bars_week (hW : Wd M A L R n) {e w its : Nat} (he : (e : Int) < A 0 4) (hw : (w : Int) < nW A) (hi : its ≤ 100) {z : Int} (hz : z = if lng A e then 1 else 0) {a b c : Int32} {K : Int32 × Int32 × Mm → Prop} {Rr : Int32 × Int32 × Mm → Prop} (hR : Rr (iI ((its + (if decide (L e w ≠ -9) then 1 else 0) : Nat)), iI ((w : Int) + 1), M)) : w_L_bars_L64 a b c (iI e) (iI z) Q K Rr (iI its, iI w, M) := by
  have hO := hW.2.1
  have ob := hO.b
  have oe := hO.e he
  have hn := nW_b hO
  have hL := hW.2.2.1.2.1
  have hLb := hW.2.2.1.2.2.2.1
  have hlb := hLb e w
  have hls := lns_b hLb w (A 0 4).toNat
  have hlg := lns_ge (L := L) (w := w) (e := e) (k := (A 0 4).toNat) (by omega)
  have b1 := wS_b hO (w := w) (by omega) (by omega)
  have b2 := wS_b hO (w := w + 1) (by omega) (by omega)
  have b3 := wS_lt hO (w := w) (by omega) hw
  have eL : wL A w = wS A (w + 1) - 1 := rfl
  unfold w_L_bars_L64
  try dsimp only
  refine k_told4 hW ?_
  rw [if_neg (fun z => by have := (iI_le (by omega) (by omega) (by omega) (by omega)).mp z; omega)]
  refine k_entry0 hW he (k_week0 hW hw ?_)
  refine s_letV (iI (max (A 1 e) (wS A w)), M) (fun J hJ => ?_) ?_
  · have hm := mx_if (a := A 1 e) (b := wS A w) (by omega) (by omega) (P := fun v => J (v, M)) hJ
    exact s_if (fun q => k_week0 hW hw (hm.1 q)) (fun q => k_entry0 hW he (hm.2 q))
  try dsimp only
  refine k_entry1 hW he (k_week1 hW hw ?_)
  refine s_letV (iI (min (A 2 e) (wL A w)), M) (fun J hJ => ?_) ?_
  · have hm := mn_if (a := A 2 e) (b := wL A w) (by omega) (by omega) (P := fun v => J (v, M)) hJ
    exact s_if (fun q => k_week1 hW hw (hm.1 q)) (fun q => k_entry1 hW he (hm.2 q))
  try dsimp only
  by_cases hb : bar A w e
  · have hnn := is_bar hL hLb hw hb
    have hb2 := hb.2
    have hne : L e w ≠ -9 := by omega
    rw [decide_eq_true hne, if_pos rfl] at hR
    rw [if_pos hb2.1] at hz
    subst hz
    refine s_letJ (fun _ => False) (fun J hJ => ?_) (fun x hx => hx.elim)
    refine z1 ?_
    rw [if_pos ((iI_le (by omega) (by omega) (by omega) (by omega)).mpr (by omega)), l1_, iI_add]
    refine s_bI ?_
    rw [← l1_]
    refine k_bar1 hW he hw hne ?_
    refine s_letV (iI 1, M) (fun J2 hJ2 => ?_) ?_
    · refine s_letJ (fun _ => False) (fun J3 hJ3 => ?_) (fun x hx => hx.elim)
      rw [if_pos rfl]
      refine k_bar2 hW he hw hne ?_
      rw [if_pos rfl]
      refine k_bar3 hW he hw hne (k_entry0 hW he ?_)
      refine s_letV (iI (if A 1 e < wS A w then 1 else 0)) (fun J4 hJ4 => ?_) ?_
      · refine s_if (fun q => ?_) (fun q => ?_)
        · have q := (iI_le (by omega) (by omega) (by omega) (by omega)).mp q
          rw [if_neg (by omega)] at hJ4
          exact hJ4
        · have q : ¬ max (A 1 e) (wS A w) ≤ A 1 e := fun z => q ((iI_le (by omega) (by omega) (by omega) (by omega)).mpr z)
          rw [if_pos (by omega)] at hJ4
          exact hJ4
      try dsimp only
      rw [if_pos rfl]
      refine k_bar4 hW he hw hne (k_entry1 hW he ?_)
      refine s_letV (iI (if wL A w < A 2 e then 1 else 0)) (fun J5 hJ5 => ?_) ?_
      · refine s_if (fun q => ?_) (fun q => ?_)
        · have q := (iI_le (by omega) (by omega) (by omega) (by omega)).mp q
          rw [if_neg (by omega)] at hJ5
          exact hJ5
        · have q : ¬ A 2 e ≤ min (A 2 e) (wL A w) := fun z => q ((iI_le (by omega) (by omega) (by omega) (by omega)).mpr z)
          rw [if_pos (by omega)] at hJ5
          exact hJ5
      try dsimp only
      rw [if_pos rfl]
      refine k_bar0 hW he hw ?_
      rw [l0_, if_neg (fun z => by have := (iI_lt (by omega) (by omega) (by omega) (by omega)).mp z; omega), ← l0_]
      refine k_bar0 hW he hw (k_week3 hW hw ?_)
      rw [if_neg (fun z => by have := (iI_le (by omega) (by omega) (by omega) (by omega)).mp z; omega)]
      exact hJ2
    try dsimp only
    refine loop_up (fun j x => x = (iI 1, iI (max (A 1 e) (wS A w) + j), M)) (min (A 2 e) (wL A w) - max (A 1 e) (wS A w) + 1).toNat ?_ ?_ (Nat.zero_le _) (by rw [show max (A 1 e) (wS A w) + ((0 : Nat) : Int) = max (A 1 e) (wS A w) by omega] <;> rfl)
    · rintro Rj j x hj rfl hRj
      obtain ⟨d1, d2, d3⟩ := bar_row (L := L) (R := R) hO hw hb (D := max (A 1 e) (wS A w) + j) (by omega) (by omega)
      unfold w_L_bars_L305
      try dsimp only
      rw [if_neg (fun z => by have := (iI_lt (by omega) (by omega) (by omega) (by omega)).mp z; omega)]
      refine z1 (k_rowOf hW he d1 d2 (k_bar0 hW he hw ?_))
      rw [d3, if_pos rfl, l1_, iI_add]
      exact s_bI (hRj _ (by rw [show max (A 1 e) (wS A w) + ((j + 1 : Nat) : Int) = max (A 1 e) (wS A w) + j + 1 by omega] <;> rfl))
    · rintro Rj x rfl
      unfold w_L_bars_L305
      try dsimp only
      rw [if_pos ((iI_lt (by omega) (by omega) (by omega) (by omega)).mpr (by omega))]
      refine z1 ?_
      rw [l1_, iI_add]
      exact s_bI hR
  · have h9 := no_bar hL hb
    rw [decide_eq_false (by rw [h9]; decide), if_neg (by decide)] at hR
    refine s_letV () (fun J hJ => ?_) ?_
    · by_cases hl : lng A e
      · rw [if_pos hl] at hz
        subst hz
        refine z1 ?_
        rw [if_neg (fun z => by have := (iI_le (by omega) (by omega) (by omega) (by omega)).mp z; exact hb ⟨he, hl, by omega, by omega⟩)]
        exact hJ
      · rw [if_neg hl] at hz
        subst hz
        exact z0 hJ
    try dsimp only
    refine k_bar0 hW he hw ?_
    rw [h9, lm9_, if_pos rfl, l1_, iI_add]
    exact s_bI hR
theorem p_bars (hW : Wd M A L R n) (h : Q (iI 1) M) : w_L_bars M Q := by
  have hO := hW.2.1
  have ob := hO.b
  have hn := nW_b hO
  have hL := hW.2.2.1.2.1
  have hLR := hW.2.2.1.2.2.1
  have hLb := hW.2.2.1.2.2.2.1
  have brb : ∀ e, bre L e ≤ 7 := fun e => cntP_le _ _
  have smb : ∀ k, sumN (fun e => bre L e) k ≤ 7 * k := by
    intro k
    induction k with
    | zero => exact Nat.le_refl _
    | succ k ih =>
      show sumN (fun e => bre L e) k + bre L k ≤ 7 * (k + 1)
      have := brb k
      omega
  unfold w_L_bars
  refine loop_up (fun k x => x = (iI (sumN (fun e => bre L e) k : Nat), iI (prn A k : Nat), iI (lgn A k : Nat), iI k, M)) (A 0 4).toNat ?_ ?_ (Nat.zero_le _) rfl
  · rintro Rr k x hk rfl hRr
    have hk1 : (k : Int) < A 0 4 := by omega
    have ok := hO.e hk1
    have hp : prn A k ≤ k := cntP_le _ _
    have hlgk : lgn A k ≤ k := cntP_le _ _
    have hsk := smb k
    have hbk := brb k
    unfold w_L_bars_L9
    try dsimp only
    refine k_told5 hW ?_
    rw [if_neg (fun z => by have := (iI_le (by omega) (by omega) (by omega) (by omega)).mp z; omega)]
    refine k_entry1 hW hk1 (k_entry0 hW hk1 ?_)
    refine s_letV (iI (if lng A k then 1 else 0), M) (fun J hJ => ?_) ?_
    · have j1 : lng A k → J (iI 1, M) := fun hl => by rw [if_pos hl] at hJ; exact hJ
      refine s_letJ (fun x => x = M ∧ lng A k) (fun J2 hJ2 => ?_) (fun x hx => by obtain ⟨rfl, hl⟩ := hx; exact j1 hl)
      refine s_if (fun q => ?_) (fun q => k_entry2 hW hk1 ?_)
      · exact hJ2 _ ⟨rfl, Or.inl ((iI_lt (by omega) (by omega) (by omega) (by omega)).mp q)⟩
      · have q : ¬ A 1 k < A 2 k := fun z => q ((iI_lt (by omega) (by omega) (by omega) (by omega)).mpr z)
        rw [lm9_]
        refine s_if (fun q2 => ?_) (fun q2 => ?_)
        · exact hJ2 _ ⟨rfl, Or.inr ((iI_eq (by omega) (by omega) (by omega) (by omega)).mp q2)⟩
        · rw [if_neg (fun hl => hl.elim q (fun z => q2 (by rw [z])))] at hJ
          exact hJ
    try dsimp only
    refine loop_up (fun w x => x = (iI (cntP (fun w => decide (L k w ≠ -9)) w : Nat), iI w, M)) (nW A).toNat ?_ ?_ (Nat.zero_le _) rfl
    · rintro Rw w x hw rfl hRw
      have hc : cntP (fun w => decide (L k w ≠ -9)) w ≤ w := cntP_le _ _
      exact p_bars_week hW hk1 (by omega) (by omega) rfl (hRw _ rfl)
    · rintro Rw x rfl
      unfold w_L_bars_L64
      try dsimp only
      refine k_told4 hW ?_
      rw [if_pos ((iI_le (by omega) (by omega) (by omega) (by omega)).mpr (by omega)), bre_n hO hL k]
      refine k_told0 hW ?_
      refine loop_up (fun j x => x = (iI (odn A k j : Nat), iI (A 0 0 + j), M)) (A 0 1 - A 0 0 + 1).toNat ?_ ?_ (Nat.zero_le _) (by rw [show A 0 0 + ((0 : Nat) : Int) = A 0 0 by omega] <;> rfl)
      · rintro Rj j x hj rfl hRj
        have d1 : A 0 0 ≤ A 0 0 + (j : Int) := by omega
        have d2 : A 0 0 + (j : Int) ≤ A 0 1 := by omega
        have hoj : odn A k j ≤ j := cntP_le _ _
        have hrb := rowD_b (A := A) (D := A 0 0 + j) hLb hW.2.2.1.2.2.2.2.1 (e := k)
        have hrn := rowD_nn (D := A 0 0 + j) hO hL hLR hLb d1 d2 hk1
        unfold w_L_bars_L370
        try dsimp only
        refine k_told1 hW ?_
        rw [if_neg (fun z => by have := (iI_lt (by omega) (by omega) (by omega) (by omega)).mp z; omega)]
        refine k_entry0 hW hk1 ?_
        by_cases c : onD A (A 0 0 + j) k
        · refine s_letV (iI 1, M) (fun J hJ => ?_) ?_
          · refine s_letJ (fun _ => False) (fun J2 hJ2 => ?_) (fun x hx => hx.elim)
            rw [if_neg (fun z => by have := (iI_lt (by omega) (by omega) (by omega) (by omega)).mp z; omega)]
            refine k_entry1 hW hk1 ?_
            rw [if_neg (fun z => by have := (iI_lt (by omega) (by omega) (by omega) (by omega)).mp z; omega)]
            exact hJ
          try dsimp only
          refine s_letV (iI 1) (fun J hJ => z1 hJ) ?_
          try dsimp only
          rw [iI_add]
          refine s_bI (k_rowOf hW hk1 d1 d2 ?_)
          have hc2 := hrn.mpr c
          refine s_letV (iI 1) (fun J hJ => ?_) ?_
          · rw [l0_, if_neg (fun z => by have := (iI_lt (by omega) (by omega) (by omega) (by omega)).mp z; omega)]
            exact hJ
          try dsimp only
          rw [if_pos rfl, l1_, iI_add]
          refine s_bI (hRj _ ?_)
          rw [show odn A k (j + 1) = odn A k j + 1 from cntP_t (decide_eq_true c), show A 0 0 + ((j + 1 : Nat) : Int) = A 0 0 + j + 1 by omega] <;> rfl
        · refine s_letV (iI 0, M) (fun J hJ => ?_) ?_
          · refine s_letV M (fun J2 hJ2 => ?_) ?_
            · refine s_if (fun q => hJ2) (fun q => k_entry1 hW hk1 (s_if (fun q2 => hJ2) (fun q2 => ?_)))
              have q : ¬ A 0 0 + (j : Int) < A 1 k := fun z => q ((iI_lt (by omega) (by omega) (by omega) (by omega)).mpr z)
              have q2 : ¬ A 2 k < A 0 0 + (j : Int) := fun z => q2 ((iI_lt (by omega) (by omega) (by omega) (by omega)).mpr z)
              exact absurd ⟨by omega, by omega⟩ c
            exact hJ
          try dsimp only
          refine s_letV (iI 0) (fun J hJ => z0 hJ) ?_
          try dsimp only
          rw [iI_add]
          refine s_bI (k_rowOf hW hk1 d1 d2 ?_)
          have hc2 : ¬ 0 ≤ rowD A L R k (A 0 0 + j) := fun z => c (hrn.mp z)
          refine s_letV (iI 0) (fun J hJ => ?_) ?_
          · rw [l0_, if_pos ((iI_lt (by omega) (by omega) (by omega) (by omega)).mpr (by omega))]
            exact hJ
          try dsimp only
          rw [if_pos rfl, l1_, iI_add]
          refine s_bI (hRj _ ?_)
          rw [show odn A k (j + 1) = odn A k j from cntP_f (fun z => c (of_decide_eq_true z)), show A 0 0 + ((j + 1 : Nat) : Int) = A 0 0 + j + 1 by omega, Int.add_zero] <;> rfl
      · rintro Rj x rfl
        have hcd := cnt_days (a := A 1 k) (b := A 2 k) (c := A 0 0) (by omega) (A 0 1 - A 0 0 + 1).toNat
        have hdn : ((odn A k (A 0 1 - A 0 0 + 1).toNat : Nat) : Int) = max 0 (min (A 2 k) (A 0 1) - max (A 1 k) (A 0 0) + 1) := by
          show ((cntP (fun j => decide (A 1 k ≤ A 0 0 + j ∧ A 0 0 + j ≤ A 2 k)) (A 0 1 - A 0 0 + 1).toNat : Nat) : Int) = _
          rw [hcd]
          omega
        unfold w_L_bars_L370
        try dsimp only
        refine k_told1 hW ?_
        rw [if_pos ((iI_lt (by omega) (by omega) (by omega) (by omega)).mpr (by omega))]
        refine k_entry4 hW hk1 ?_
        refine s_letV (iI (if lng A k then 1 else 0)) (fun J hJ => ?_) ?_
        · by_cases hl : lng A k
          · rw [if_pos hl] at hJ ⊢
            exact z1 hJ
          · rw [if_neg hl] at hJ ⊢
            exact z0 hJ
        try dsimp only
        rw [if_pos rfl]
        refine k_entry5 hW hk1 ?_
        rw [hdn, if_pos rfl]
        refine k_entry7 hW hk1 ?_
        rw [if_pos rfl, iI_add]
        refine s_bI ?_
        refine s_letV (iI (if A 1 k ≤ A 0 1 ∧ A 0 0 ≤ A 2 k then 1 else 0)) (fun J hJ => ?_) ?_
        · rw [l0_]
          refine s_if (fun q => ?_) (fun q => ?_)
          · have q := (iI_le (by omega) (by omega) (by omega) (by omega)).mp q
            rw [if_neg (by omega)] at hJ
            exact hJ
          · have q : ¬ max 0 (min (A 2 k) (A 0 1) - max (A 1 k) (A 0 0) + 1) ≤ 0 := fun z => q ((iI_le (by omega) (by omega) (by omega) (by omega)).mpr z)
            rw [if_pos (by omega)] at hJ
            exact hJ
        try dsimp only
        rw [iI_add]
        refine s_bI ?_
        have e1 : ((sumN (fun e => bre L e) k : Nat) : Int) + (bre L k : Nat) = ((sumN (fun e => bre L e) (k + 1) : Nat) : Int) := by
          show _ = ((sumN (fun e => bre L e) k + bre L k : Nat) : Int)
          omega
        have e2 : ((prn A k : Nat) : Int) + (if A 1 k ≤ A 0 1 ∧ A 0 0 ≤ A 2 k then 1 else 0) = ((prn A (k + 1) : Nat) : Int) := by
          by_cases c : A 1 k ≤ A 0 1 ∧ A 0 0 ≤ A 2 k
          · rw [if_pos c, show prn A (k + 1) = prn A k + 1 from cntP_t (decide_eq_true c)]
            rfl
          · rw [if_neg c, show prn A (k + 1) = prn A k from cntP_f (fun z => c (of_decide_eq_true z))]
            omega
        rw [e1, e2]
        by_cases hl : lng A k
        · rw [if_pos hl]
          refine z1 ?_
          rw [l1_, iI_add, iI_add]
          refine s_bI (s_bI (hRr _ ?_))
          rw [show lgn A (k + 1) = lgn A k + 1 from cntP_t (decide_eq_true hl)] <;> rfl
        · rw [if_neg hl]
          refine z0 ?_
          rw [l1_, l0_, iI_add, iI_add, Int.add_zero]
          refine s_bI (s_bI (hRr _ ?_))
          rw [show lgn A (k + 1) = lgn A k from cntP_f (fun z => hl (of_decide_eq_true z))] <;> rfl
  · rintro Rr x rfl
    unfold w_L_bars_L9
    try dsimp only
    refine k_told5 hW ?_
    rw [if_pos ((iI_le (by omega) (by omega) (by omega) (by omega)).mpr (by omega))]
    refine k_told8 hW ?_
    rw [if_pos rfl]
    refine k_told7 hW ?_
    rw [if_pos rfl]
    refine k_told6 hW ?_
    rw [if_pos rfl, l1_]
    exact h
end BARS
