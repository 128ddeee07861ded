/-! the law's questions, in a world that is laid -/
def Wd (M : Mm) (A : Ab) (L : Nat → Nat → Int) (R : Nat → Int) (n : Nat) : Prop := Pl M 0 A ∧ Ok A ∧ Laid M 0 A L R ∧ M 3 0 1 = iI 0 ∧ M 1 0 2 = iI n
theorem Wd.k17 {M M' : Mm} {A : Ab} {L : Nat → Nat → Int} {R : Nat → Int} {n : Nat} (h : Wd M A L R n) (hs : sx (fun c _ => c = 17) M M') : Wd M' A L R n := by
  obtain ⟨h1, h2, h3, h4, h5⟩ := h
  refine ⟨h1.sx hs ⟨by omega, by omega, by omega, by omega, by omega⟩, h2, h3.sx hs (fun c i q => by unfold pgc at q; omega), by rw [hs 3 0 (by omega)]; exact h4, by rw [hs 1 0 (by omega)]; exact h5⟩
section ASK
variable {M : Mm} {A : Ab} {L : Nat → Nat → Int} {R : Nat → Int} {n : Nat} {Q : Int32 → Mm → Prop}
theorem k_told (h : Wd M A L R n) {b : Int} (hb : 0 ≤ b ∧ b ≤ 9) {v : Int} (hv : vTold A L R 0 n b = v) (hq : Q (iI v) M) : w_X4_told M (iI b) Q := by
  obtain ⟨h1, h2, h3, h4, h5⟩ := h
  subst hv
  exact s_X4_told h1 h2 h3 h4 h5 (by omega) hq
theorem k_told0 (h : Wd M A L R n) (hq : Q (iI (A 0 0)) M) : w_X4_told M (0 : Int32) Q := k_told h (b := 0) (by omega) rfl hq
theorem k_told1 (h : Wd M A L R n) (hq : Q (iI (A 0 1)) M) : w_X4_told M (1 : Int32) Q := k_told h (b := 1) (by omega) rfl hq
theorem k_told2 (h : Wd M A L R n) (hq : Q (iI (A 0 2)) M) : w_X4_told M (2 : Int32) Q := k_told h (b := 2) (by omega) rfl hq
theorem k_told3 (h : Wd M A L R n) (hq : Q (iI (A 0 3)) M) : w_X4_told M (3 : Int32) Q := k_told h (b := 3) (by omega) rfl hq
theorem k_told4 (h : Wd M A L R n) (hq : Q (iI (nW A)) M) : w_X4_told M (4 : Int32) Q := k_told h (b := 4) (by omega) rfl hq
theorem k_told5 (h : Wd M A L R n) (hq : Q (iI (A 0 4)) M) : w_X4_told M (5 : Int32) Q := k_told h (b := 5) (by omega) rfl hq
theorem k_told6 (h : Wd M A L R n) (hq : Q (iI (lgn A (A 0 4).toNat : Nat)) M) : w_X4_told M (6 : Int32) Q := k_told h (b := 6) (by omega) rfl hq
theorem k_told7 (h : Wd M A L R n) (hq : Q (iI (prn A (A 0 4).toNat : Nat)) M) : w_X4_told M (7 : Int32) Q := k_told h (b := 7) (by omega) rfl hq
theorem k_told8 (h : Wd M A L R n) (hq : Q (iI (brp A L : Nat)) M) : w_X4_told M (8 : Int32) Q := k_told h (b := 8) (by omega) rfl hq
theorem k_told9 (h : Wd M A L R n) (hq : Q (iI (hidP A L R (A 0 3) : Nat)) M) : w_X4_told M (9 : Int32) Q := k_told h (b := 9) (by omega) rfl hq
theorem k_week (h : Wd M A L R n) {w : Nat} (hw : (w : Int) < nW A) {b : Int} (hb : 0 ≤ b ∧ b ≤ 5) {v : Int} (hv : vWeek A L R w b = v) (hq : Q (iI v) M) : w_X4_week M (iI w) (iI b) Q := by
  obtain ⟨h1, h2, h3, h4, h5⟩ := h
  have hn := nW_b h2
  subst hv
  exact s_X4_week h1 h2 h3 (by omega) (by omega) (fun _ _ => hq) (fun z => absurd z (by omega)) (fun z => absurd ⟨by omega, hb⟩ z)
theorem k_week0 (h : Wd M A L R n) {w : Nat} (hw : (w : Int) < nW A) (hq : Q (iI (wS A w)) M) : w_X4_week M (iI w) (0 : Int32) Q := k_week h hw (b := 0) (by omega) rfl hq
theorem k_week1 (h : Wd M A L R n) {w : Nat} (hw : (w : Int) < nW A) (hq : Q (iI (wL A w)) M) : w_X4_week M (iI w) (1 : Int32) Q := k_week h hw (b := 1) (by omega) rfl hq
theorem k_week3 (h : Wd M A L R n) {w : Nat} (hw : (w : Int) < nW A) (hq : Q (iI (lns L w (A 0 4).toNat)) M) : w_X4_week M (iI w) (3 : Int32) Q := k_week h hw (b := 3) (by omega) rfl hq
theorem k_week5 (h : Wd M A L R n) {w : Nat} (hw : (w : Int) < nW A) (hq : Q (iI (hidS A L R (A 0 3) (wS A w) (wL A w + 1 - wS A w).toNat : Nat)) M) : w_X4_week M (iI w) (5 : Int32) Q := k_week h hw (b := 5) (by omega) rfl hq
theorem k_weekN (h : Wd M A L R n) (hq : Q (iI (-9)) M) : w_X4_week M (iI (nW A)) (0 : Int32) Q := by
  obtain ⟨h1, h2, h3, h4, h5⟩ := h
  have hn := nW_b h2
  exact s_X4_week (b := 0) h1 h2 h3 (by omega) (by omega) (fun z => absurd z.2 (by omega)) (fun _ _ => hq) (fun z => absurd ⟨by omega, by omega, by omega⟩ z)
theorem k_day (h : Wd M A L R n) {D : Int} (d1 : A 0 0 ≤ D) (d2 : D ≤ A 0 1) {b : Int} (hb : 0 ≤ b ∧ b ≤ 5) {v : Int} (hv : vDay A L R D b = v) (hq : Q (iI v) M) : w_X4_day M (iI D) (iI b) Q := by
  obtain ⟨h1, h2, h3, h4, h5⟩ := h
  have ob := h2.b
  subst hv
  exact s_X4_day h1 h2 h3 (by omega) (by omega) (fun _ _ => hq) (fun z => absurd ⟨⟨d1, d2⟩, hb⟩ z)
theorem k_day0 (h : Wd M A L R n) {D : Int} (d1 : A 0 0 ≤ D) (d2 : D ≤ A 0 1) (hq : Q (iI (wk A D)) M) : w_X4_day M (iI D) (0 : Int32) Q := k_day h d1 d2 (b := 0) (by omega) rfl hq
theorem k_day1 (h : Wd M A L R n) {D : Int} (d1 : A 0 0 ≤ D) (d2 : D ≤ A 0 1) (hq : Q (iI (D % 7)) M) : w_X4_day M (iI D) (1 : Int32) Q := k_day h d1 d2 (b := 1) (by omega) rfl hq
theorem k_day2 (h : Wd M A L R n) {D : Int} (d1 : A 0 0 ≤ D) (d2 : D ≤ A 0 1) (hq : Q (iI (lgd A D (A 0 4).toNat : Nat)) M) : w_X4_day M (iI D) (2 : Int32) Q := k_day h d1 d2 (b := 2) (by omega) rfl hq
theorem k_day3 (h : Wd M A L R n) {D : Int} (d1 : A 0 0 ≤ D) (d2 : D ≤ A 0 1) (hq : Q (iI (shn A D D (A 0 4).toNat : Nat)) M) : w_X4_day M (iI D) (3 : Int32) Q := k_day h d1 d2 (b := 3) (by omega) rfl hq
theorem k_day4 (h : Wd M A L R n) {D : Int} (d1 : A 0 0 ≤ D) (d2 : D ≤ A 0 1) (hq : Q (iI (hidD A L R D (A 0 3) : Nat)) M) : w_X4_day M (iI D) (4 : Int32) Q := k_day h d1 d2 (b := 4) (by omega) rfl hq
theorem k_day5 (h : Wd M A L R n) {D : Int} (d1 : A 0 0 ≤ D) (d2 : D ≤ A 0 1) (hq : Q (iI (ned A L R D (A 0 4).toNat)) M) : w_X4_day M (iI D) (5 : Int32) Q := k_day h d1 d2 (b := 5) (by omega) rfl hq
theorem k_entry (h : Wd M A L R n) {e : Nat} (he : (e : Int) < A 0 4) {b : Int} (hb : 0 ≤ b ∧ b ≤ 7) {v : Int} (hv : vEntry A L R e b = v) (hq : Q (iI v) M) : w_X4_entry M (iI e) (iI b) Q := by
  obtain ⟨h1, h2, h3, h4, h5⟩ := h
  have ob := h2.b
  subst hv
  refine s_X4_entry h1 h2 h3 (by omega) (by omega) (fun e' he' _ _ => ?_) (fun z => absurd ⟨⟨by omega, he⟩, hb⟩ z)
  obtain rfl : e = e' := by omega
  exact hq
theorem k_entry0 (h : Wd M A L R n) {e : Nat} (he : (e : Int) < A 0 4) (hq : Q (iI (A 1 e)) M) : w_X4_entry M (iI e) (0 : Int32) Q := k_entry h he (b := 0) (by omega) rfl hq
theorem k_entry1 (h : Wd M A L R n) {e : Nat} (he : (e : Int) < A 0 4) (hq : Q (iI (A 2 e)) M) : w_X4_entry M (iI e) (1 : Int32) Q := k_entry h he (b := 1) (by omega) rfl hq
theorem k_entry2 (h : Wd M A L R n) {e : Nat} (he : (e : Int) < A 0 4) (hq : Q (iI (A 3 e)) M) : w_X4_entry M (iI e) (2 : Int32) Q := k_entry h he (b := 2) (by omega) rfl hq
theorem k_entry4 (h : Wd M A L R n) {e : Nat} (he : (e : Int) < A 0 4) (hq : Q (iI (if lng A e then 1 else 0)) M) : w_X4_entry M (iI e) (4 : Int32) Q := k_entry h he (b := 4) (by omega) rfl hq
theorem k_entry5 (h : Wd M A L R n) {e : Nat} (he : (e : Int) < A 0 4) (hq : Q (iI (max 0 (min (A 2 e) (A 0 1) - max (A 1 e) (A 0 0) + 1))) M) : w_X4_entry M (iI e) (5 : Int32) Q := k_entry h he (b := 5) (by omega) rfl hq
theorem k_entry6 (h : Wd M A L R n) {e : Nat} (he : (e : Int) < A 0 4) (hq : Q (iI (hdd A L R e (A 0 1 - A 0 0 + 1).toNat : Nat)) M) : w_X4_entry M (iI e) (6 : Int32) Q := k_entry h he (b := 6) (by omega) rfl hq
theorem k_entry7 (h : Wd M A L R n) {e : Nat} (he : (e : Int) < A 0 4) (hq : Q (iI (bre L e : Nat)) M) : w_X4_entry M (iI e) (7 : Int32) Q := k_entry h he (b := 7) (by omega) rfl hq
theorem k_bar (h : Wd M A L R n) {e w : Nat} (he : (e : Int) < A 0 4) (hw : (w : Int) < nW A) {b : Int} (hb : 0 ≤ b ∧ b ≤ 4) {v : Int} (hv : vBar A L e w b = v) (hq : Q (iI v) M) : w_X4_bar M (iI e) (iI w) (iI b) Q := by
  obtain ⟨h1, h2, h3, h4, h5⟩ := h
  have ob := h2.b
  have hn := nW_b h2
  subst hv
  refine s_X4_bar h1 h2 h3 (by omega) (by omega) (by omega) (fun e' he' _ _ _ => ?_) (fun z => absurd ⟨⟨by omega, he⟩, by omega, hb⟩ z)
  obtain rfl : e = e' := by omega
  exact hq
theorem k_bar0 (h : Wd M A L R n) {e w : Nat} (he : (e : Int) < A 0 4) (hw : (w : Int) < nW A) (hq : Q (iI (L e w)) M) : w_X4_bar M (iI e) (iI w) (0 : Int32) Q := by
  refine k_bar h he hw (b := 0) (by omega) (v := L e w) ?_ hq
  unfold vBar
  rw [if_neg (by omega), Int.toNat_natCast, if_pos rfl]
  split
  · rename_i z
    exact z.symm
  · rfl
theorem k_barV (h : Wd M A L R n) {e w : Nat} (he : (e : Int) < A 0 4) (hw : (w : Int) < nW A) (hl : L e w ≠ -9) {b : Int} (hb : 0 ≤ b ∧ b ≤ 4) {v : Int} (hv : (if b = 0 then L e w else if b = 1 then max (A 1 e) (wS A w) else if b = 2 then min (A 2 e) (wL A w) else if b = 3 then (if A 1 e < wS A w then 1 else 0) else (if wL A w < A 2 e then 1 else 0)) = v) (hq : Q (iI v) M) : w_X4_bar M (iI e) (iI w) (iI b) Q := by
  refine k_bar h he hw hb (v := v) ?_ hq
  unfold vBar
  rw [if_neg (by omega), Int.toNat_natCast, if_neg hl]
  exact hv
theorem k_bar1 (h : Wd M A L R n) {e w : Nat} (he : (e : Int) < A 0 4) (hw : (w : Int) < nW A) (hl : L e w ≠ -9) (hq : Q (iI (max (A 1 e) (wS A w))) M) : w_X4_bar M (iI e) (iI w) (1 : Int32) Q := k_barV h he hw hl (b := 1) (by omega) rfl hq
theorem k_bar2 (h : Wd M A L R n) {e w : Nat} (he : (e : Int) < A 0 4) (hw : (w : Int) < nW A) (hl : L e w ≠ -9) (hq : Q (iI (min (A 2 e) (wL A w))) M) : w_X4_bar M (iI e) (iI w) (2 : Int32) Q := k_barV h he hw hl (b := 2) (by omega) rfl hq
theorem k_bar3 (h : Wd M A L R n) {e w : Nat} (he : (e : Int) < A 0 4) (hw : (w : Int) < nW A) (hl : L e w ≠ -9) (hq : Q (iI (if A 1 e < wS A w then 1 else 0)) M) : w_X4_bar M (iI e) (iI w) (3 : Int32) Q := k_barV h he hw hl (b := 3) (by omega) rfl hq
theorem k_bar4 (h : Wd M A L R n) {e w : Nat} (he : (e : Int) < A 0 4) (hw : (w : Int) < nW A) (hl : L e w ≠ -9) (hq : Q (iI (if wL A w < A 2 e then 1 else 0)) M) : w_X4_bar M (iI e) (iI w) (4 : Int32) Q := k_barV h he hw hl (b := 4) (by omega) rfl hq
theorem k_rowOf (h : Wd M A L R n) {e : Nat} (he : (e : Int) < A 0 4) {D : Int} (d1 : A 0 0 ≤ D) (d2 : D ≤ A 0 1) (hq : Q (iI (rowD A L R e D)) M) : w_X4_rowOf M (iI e) (iI D) Q := by
  obtain ⟨h1, h2, h3, h4, h5⟩ := h
  have ob := h2.b
  refine s_X4_rowOf h1 h2 h3 (by omega) (by omega) (fun e' he' _ _ => ?_) (fun z => absurd ⟨⟨by omega, he⟩, d1, d2⟩ z)
  obtain rfl : e = e' := by omega
  exact hq
theorem k_shown (h : Wd M A L R n) {D : Int} (d1 : A 0 0 ≤ D) (d2 : D ≤ A 0 1) {r : Int} (hr : 0 ≤ r ∧ r ≤ 11) (hq : Q (iI (vShown A L R D r)) M) : w_X4_shown M (iI D) (iI r) Q := by
  obtain ⟨h1, h2, h3, h4, h5⟩ := h
  have ob := h2.b
  exact s_X4_shown h1 h2 h3 (by omega) (by omega) (fun _ _ => hq) (fun z => absurd ⟨⟨d1, d2⟩, hr⟩ z)
theorem k_enough (h : Wd M A L R n) (hq : Q (iI (enq A L R (A 0 1 - A 0 0 + 1).toNat)) M) : w_X4_enough M Q := by
  obtain ⟨h1, h2, h3, h4, h5⟩ := h
  exact s_X4_enough h1 h2 h3 hq
theorem k_ifRows (h : Wd M A L R n) {r : Int} (hr : 1 ≤ r ∧ r ≤ 12) (hq : Q (iI (hidP A L R r : Nat)) M) : w_X4_ifRows M (iI r) Q := by
  obtain ⟨h1, h2, h3, h4, h5⟩ := h
  exact s_X4_ifRows h1 h2 h3 (by omega) (fun _ => hq) (fun z => absurd hr z)
theorem k_free (h : Wd M A L R n) {d : Int} {x : Int32} (hd : 1 ≤ d ∧ d ≤ 42) (hq : Q (iI (frv A d x)) M) : w_X4_free M (iI d) x Q := by
  obtain ⟨h1, h2, h3, h4, h5⟩ := h
  exact s_X4_free h1 h2 h3 (by omega) (fun _ => hq) (fun z => absurd hd z)
end ASK
