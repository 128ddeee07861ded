/-! THE WORLD: all cells of the class's object (kinds 0 .. 16) and the law's row of numbers (17), each at its kind and number; what they hold is one function of kind, number, place. -/
abbrev Mm : Type := Nat → Nat → Nat → Int32
/-- one number written -/
def st (M : Mm) (c i j : Nat) (v : Int32) : Mm := fun c' i' j' => if c' = c ∧ i' = i ∧ j' = j then v else M c' i' j'
/-- the words of the functional texts -/
def ldA (a : Nat → Int32) (n : Nat) (j : Int32) (K : Int32 → Prop) : Prop := vp_in j n ∧ K (a j.toNatClampNeg)
def stA (M : Mm) (c i n : Nat) (j x : Int32) (K : Mm → Prop) : Prop := vp_in j n ∧ K (st M c i j.toNatClampNeg x)
def ldR (n : Nat) (j : Int32) (K : Nat → Prop) : Prop := vp_in j n ∧ K j.toNatClampNeg
def stF (M : Mm) (c i j : Nat) (x : Int32) (K : Mm → Prop) : Prop := K (st M c i j x)
def bI (x : Int32) (K : Int32 → Prop) : Prop := K x
def bL (x : Int64) (K : Int64 → Prop) : Prop := K x
def bz (x : Int32) : Prop := x = 0 ∨ x = 1
def nzI (y : Int32) (K : Int32 → Prop) : Prop := ¬ y = 0 ∧ K y
/-- a loop: at most n turns -/
def loop {S : Type} (body : (S → Prop) → S → Prop) : Nat → S → Prop
  | 0, _ => False
  | n + 1, s => body (loop body n) s
theorem loop_W {S : Type} {body : (S → Prop) → S → Prop} (G : S → Prop) (hb : ∀ (R : S → Prop) (s : S), (∀ s', R s' → G s') → body R s → G s) : ∀ (n : Nat) (s : S), loop body n s → G s := by
  intro n
  induction n with
  | zero => intro s h; exact h.elim
  | succ n ih => intro s h; exact hb _ s ih h
/-- a loop comes to its end: an invariant with a measure -/
theorem loop_I {S : Type} {body : (S → Prop) → S → Prop} (I : Nat → S → Prop) (hb : ∀ (R : S → Prop) (k : Nat) (s : S), I k s → (∀ (k' : Nat) (s' : S), k' < k → I k' s' → R s') → body R s) {k : Nat} {s : S} (h : I k s) : ∃ n, loop body n s := by
  have key : ∀ (n k : Nat) (s : S), k < n → I k s → loop body n s := by
    intro n
    induction n with
    | zero => intro k s hk; exact absurd hk (Nat.not_lt_zero _)
    | succ n ih => intro k s hk h; exact hb _ k s h (fun k' s' h1 h2 => ih k' s' (by omega) h2)
  exact ⟨k + 1, key (k + 1) k s (Nat.lt_succ_self _) h⟩
abbrev Om : Type := va_G × (Nat → Nat → Nat) × (ClassId × ClassId × ClassId) × Nat
abbrev vwCl : List vw_C := [(RX0, TX0, 8), (RX1, TX1, 3), (RX2, TX2, 9), (RX3, TX3, 4), (RX4, TX4, 4)]
def o_tys (o : Om) : List (ClassId × FieldType) := [(o.2.2.1.1, .int), (o.2.2.1.2.1, .object "MonthPage$Plan"), (o.2.2.1.2.2, .array .int)]
def cnt (c : Nat) : Nat := ([1, 1, 1, 1, 1, 2, 2, 2, 2, 2, 2, 10, 48, 10, 10, 10, 10, 1] : List Nat).getD c 0
def bas (c : Nat) : Nat := ([0, 1, 2, 3, 4, 5, 7, 9, 11, 13, 15, 17, 27, 75, 85, 95, 105, 115] : List Nat).getD c 116
def kd (k : Nat) : Nat := ([0, 1, 2, 3, 4, 5, 5, 6, 6, 7, 7, 8, 8, 9, 9, 10, 10] ++ List.replicate 10 11 ++ List.replicate 48 12 ++ List.replicate 10 13 ++ List.replicate 10 14 ++ List.replicate 10 15 ++ List.replicate 10 16 ++ [17] : List Nat).getD k 18
theorem kd_ok : ∀ c, c < 18 → ∀ i, i < 48 → i < cnt c → kd (bas c + i) = c := by decide +kernel
theorem kd_bas : ∀ k, k < 116 → bas (kd k) ≤ k := by decide +kernel
theorem cnt_48 : ∀ c, c < 18 → cnt c ≤ 48 := by decide +kernel
theorem cnt_24 {c : Nat} (h : 18 ≤ c) : cnt c = 0 := by
  unfold cnt
  rw [List.getD_eq_getElem?_getD, List.getElem?_eq_none (by simpa using h)]
  rfl
theorem kd_122 {k : Nat} (h : 116 ≤ k) : kd k = 18 := by
  unfold kd
  rw [List.getD_eq_getElem?_getD, List.getElem?_eq_none (by simpa using h)]
  rfl
theorem kd_at {c i : Nat} (h : i < cnt c) : c < 18 ∧ kd (bas c + i) = c := by
  by_cases hc : c < 18
  · exact ⟨hc, kd_ok c hc i (Nat.lt_of_lt_of_le h (cnt_48 c hc)) h⟩
  · rw [cnt_24 (by omega)] at h
    omega
theorem kd_inj {c i k : Nat} (h : i < cnt c) (h1 : kd k = c) (h2 : k - bas (kd k) = i) : k = bas c + i := by
  by_cases hk : k < 116
  · have := kd_bas k hk
    rw [h1] at this h2
    omega
  · have h3 := kd_122 (k := k) (by omega)
    rw [h3] at h1
    rw [← h1, cnt_24 (Nat.le_refl 18)] at h
    omega
def o_q (q : Nat → Option Nat) : ((Nat → Int32) ⊕ (Nat → Int64) ⊕ (Nat → UInt32) ⊕ (Nat → UInt64) ⊕ (Nat → Option Nat)) := .inr (.inr (.inr (.inr q)))
/-- what a cell is: r are its numbers -/
def cr (o : Om) (c i : Nat) (r : Nat → Int32) : va_E := match c with
  | 0 => .inr (4, [.ref (o.2.1 5 0), .ref (o.2.1 5 1), .ref (o.2.1 1 0), .ref (o.2.1 3 0)])
  | 1 => .inr (1, [.ref (o.2.1 2 0), .int (r 1), .int (r 2)])
  | 2 => .inl (o.2.2.1.2.1, 8, .inr (.inr (.inr (.inr (fun j => some (o.2.1 11 (j + 2)))))))
  | 3 => .inr (3, [.ref (o.2.1 4 0), .int (r 1), .int (r 2), .int (r 3)])
  | 4 => .inl (o.2.2.1.1, 100, .inl r)
  | 5 => .inr (0, [.ref (o.2.1 11 i), .int (r 1), .ref (o.2.1 6 i), .ref (o.2.1 7 i), .ref (o.2.1 8 i), .ref (o.2.1 9 i), .ref (o.2.1 10 i), .int (r 7)])
  | 6 => .inl (o.2.2.1.1, 8, .inl r)
  | 7 => .inl (o.2.2.1.2.2, 24, .inr (.inr (.inr (.inr (fun j => some (o.2.1 12 (24 * i + j)))))))
  | 8 => .inl (o.2.2.1.1, 24, .inl r)
  | 9 => .inl (o.2.2.1.1, 42, .inl r)
  | 10 => .inl (o.2.2.1.1, 24, .inl r)
  | 11 => .inr (2, [.int (r 0), .int (r 1), .int (r 2), .int (r 3), .int (r 4), .ref (o.2.1 13 i), .ref (o.2.1 14 i), .ref (o.2.1 15 i), .ref (o.2.1 16 i)])
  | 12 => .inl (o.2.2.1.1, 7, .inl r)
  | 13 => .inl (o.2.2.1.1, 24, .inl r)
  | 14 => .inl (o.2.2.1.1, 24, .inl r)
  | 15 => .inl (o.2.2.1.1, 24, .inl r)
  | 16 => .inl (o.2.2.1.1, 24, .inl r)
  | _ => .inl (o.2.2.1.1, 13, .inl r)
def wl (o : Om) (M : Mm) : va_W := (List.range o.2.2.2).map fun k => (o.2.1 (kd k) (k - bas (kd k)), cr o (kd k) (k - bas (kd k)) (M (kd k) (k - bas (kd k))))
theorem wl_k (o : Om) (M : Mm) (k : Nat) : (wl o M)[k]? = if k < o.2.2.2 then some (o.2.1 (kd k) (k - bas (kd k)), cr o (kd k) (k - bas (kd k)) (M (kd k) (k - bas (kd k)))) else none := by
  unfold wl
  rw [List.getElem?_map]
  by_cases h : k < o.2.2.2
  · rw [List.getElem?_range h, if_pos h]
    rfl
  · rw [List.getElem?_eq_none (by rw [List.length_range]; omega), if_neg h]
    rfl
theorem wl_at (o : Om) (M : Mm) {c i : Nat} (hi : i < cnt c) (hn : bas c + i < o.2.2.2) : (wl o M)[bas c + i]? = some (o.2.1 c i, cr o c i (M c i)) := by
  rw [wl_k, if_pos hn, (kd_at hi).2, Nat.add_sub_cancel_left]
theorem wl_set (o : Om) (M M' : Mm) {c i : Nat} {e : va_E} (hi : i < cnt c) (hn : bas c + i < o.2.2.2) (he : e = cr o c i (M' c i)) (hM : ∀ c' i', ¬ (c' = c ∧ i' = i) → M' c' i' = M c' i') : (wl o M).set (bas c + i) (o.2.1 c i, e) = wl o M' := by
  apply List.ext_getElem?
  intro k
  by_cases hk : bas c + i = k
  · subst hk
    have hl : bas c + i < (wl o M).length := (List.getElem?_eq_some_iff.mp (wl_at o M hi hn)).1
    rw [List.getElem?_set_self hl, wl_at o M' hi hn, he]
  · rw [List.getElem?_set_ne hk, wl_k, wl_k, hM _ _ (fun h => hk (kd_inj hi h.1 h.2).symm)]
theorem st_ne {M : Mm} {c i j : Nat} {v : Int32} (c' i' : Nat) (h : ¬ (c' = c ∧ i' = i)) : st M c i j v c' i' = M c' i' := by
  funext j'
  unfold st
  rw [if_neg (fun q => h ⟨q.1, q.2.1⟩)]
theorem st_row (M : Mm) (c i j : Nat) (v : Int32) : st M c i j v c i = upd (M c i) j v := by
  funext j'
  simp [st, upd]
/-- whose cells they are -/
def WA (o : Om) : Nat → Prop := fun a => ∃ k, k < o.2.2.2 ∧ a = o.2.1 (kd k) (k - bas (kd k))
/-- the world, in a state of a method -/
def WO (o : Om) (A : Nat → Prop) (s : State) (H0 H : Heap) (locs : List Loc) (M : Mm) : Prop := va_K o.1 vwCl (o_tys o) s ∧ va_P o.1 vwCl (wl o M) H ∧ va_D A (wl o M) ∧ va_S A H0 H locs
/-- the world at a method's start and end -/
def WP (o : Om) (M : Mm) (U : State) : Prop := va_P o.1 vwCl (wl o M) U.heap ∧ va_K o.1 vwCl (o_tys o) U ∧ va_D (WA o) (wl o M)
theorem WA_D {o : Om} {A : Nat → Prop} {M : Mm} (h : va_D A (wl o M)) : va_D (WA o) (wl o M) := by
  refine ⟨h.1, fun k q hk => ?_⟩
  rw [wl_k] at hk
  by_cases hn : k < o.2.2.2
  · rw [if_pos hn] at hk
    cases hk
    exact ⟨k, hn, rfl⟩
  · rw [if_neg hn] at hk
    cases hk
theorem WA_A {o : Om} {A : Nat → Prop} {M : Mm} (h : va_D A (wl o M)) : ∀ a, WA o a → A a := by
  rintro a ⟨k, hk, rfl⟩
  exact h.2 k (o.2.1 (kd k) (k - bas (kd k)), cr o (kd k) (k - bas (kd k)) (M (kd k) (k - bas (kd k)))) (by rw [wl_k, if_pos hk])
theorem WA_same {o : Om} {A : Nat → Prop} {M M' : Mm} (h : va_D A (wl o M)) (h' : va_D (WA o) (wl o M')) : va_D A (wl o M') := ⟨h'.1, fun k q hk => WA_A h _ (h'.2 k q hk)⟩
/-- a method's contract in this world: what its functional text w says, it does -/
def CQ (o : Om) (l : Launch) (y : MethodName) (b : ByteArray) (n : Nat) (ret : Option FieldType) (rm : Room) (as : List Value) (M : Mm) (Qc : Array Value → State → Outcome → State → Prop) : Prop :=
  Met l y (.code y b n ret :: lw_g) rm (va_Pc as (WP o M)) Qc 0 0 (WA o)
abbrev QI (o : Om) (Q : Int32 → Mm → Prop) : Array Value → State → Outcome → State → Prop := va_Qi Q (WP o) (WA o)
abbrev QZ (o : Om) (Q : Int32 → Mm → Prop) : Array Value → State → Outcome → State → Prop := va_Qi (fun r M => bz r ∧ Q r M) (WP o) (WA o)
abbrev QL (o : Om) (Q : Int64 → Mm → Prop) : Array Value → State → Outcome → State → Prop := va_Ql Q (WP o) (WA o)
abbrev QV (o : Om) (Q : Mm → Prop) : Array Value → State → Outcome → State → Prop := va_Qv Q (WP o) (WA o)
abbrev CI (o : Om) (l : Launch) (y : MethodName) (b : ByteArray) (n : Nat) (rm : Room) (as : List Value) (M : Mm) (Q : Int32 → Mm → Prop) : Prop := CQ o l y b n (some .int) rm as M (QI o Q)
abbrev CZ (o : Om) (l : Launch) (y : MethodName) (b : ByteArray) (n : Nat) (rm : Room) (as : List Value) (M : Mm) (Q : Int32 → Mm → Prop) : Prop := CQ o l y b n (some .boolean) rm as M (QZ o Q)
abbrev CL (o : Om) (l : Launch) (y : MethodName) (b : ByteArray) (n : Nat) (rm : Room) (as : List Value) (M : Mm) (Q : Int64 → Mm → Prop) : Prop := CQ o l y b n (some .long) rm as M (QL o Q)
abbrev CV (o : Om) (l : Launch) (y : MethodName) (b : ByteArray) (n : Nat) (rm : Room) (as : List Value) (M : Mm) (Q : Mm → Prop) : Prop := CQ o l y b n none rm as M (QV o Q)
theorem WP_blind (o : Om) (M : Mm) (as : List Value) : FrameBlind (va_Pc as (WP o M)) := fun a U g mk q => by
  obtain ⟨q0, qP, qK, qD⟩ := q
  exact ⟨q0, qP, va_K.moved (u := U) (U := U.calling g mk a) (Vm.Alike.refl U.vm) qK, qD⟩
theorem g_start {o : Om} {l : Launch} {y : MethodName} {b : ByteArray} {n : Nat} {ret : Option FieldType} {rm : Room} {as : List Value} {M : Mm} {Qc : Array Value → State → Outcome → State → Prop} (hy : plainName y.cls = true) (hlen : (lg_sl as).length ≤ n)
    (body : ∀ (p : Program) (e : Env) (s : State) (m : MethodId) (args : Array Value) (below : List Frame) (meth : Method) (c : Code), p.tables.exec = Jvm.exec → c.code = b → meth.sig.returnType = ret → meth.locks = false → c.maxLocals = n → s.vm.findClass y.cls = some m.cls → (∀ w ∈ lw_g, w.before args s = true) → WO o (WA o) s s.heap s.heap [] M → ∀ ls : Array Slot, lv_has ls n (lv_args 0 as) →
      W p l e rm s m args below meth c s.heap [] 0 0 (MQ below Qc args s 0 0 (WA o)) (F0 m 0 ls [])) : CQ o l y b n ret rm as M Qc := by
  refine Met.ofW (cc := b) (maxL := n) (ret := ret) hy rfl ?_
  intro p e s m args below meth c s₁ B hml hv
  obtain ⟨rfl, hP, hK, hD⟩ := hv
  have hts := atoms_spec (ws := .code y b n ret :: lw_g) B.pre
  have hl := lv_entry as (n := n) hlen
  rw [lg_entry_eq]
  exact body p e s m _ below meth c B.exec B.bytes B.returns B.notSynchronized hml (findClass_of_methodNamed B.named) (fun w h => hts w (List.mem_cons_of_mem _ h)) ⟨hK, hP, hD, va_S.rf⟩ _ hl
/-- a method that is given the script -/
def WPs (o : Om) (b L : Nat) (xs : Nat → Int32) (M : Mm) (U : State) : Prop := WP o M U ∧ va_X b L xs U U.heap ∧ ¬ WA o b ∧ b < U.heap.size
def CQs (o : Om) (l : Launch) (y : MethodName) (by_ : ByteArray) (n : Nat) (ret : Option FieldType) (rm : Room) (as : List Value) (b L : Nat) (xs : Nat → Int32) (M : Mm) (Qc : Array Value → State → Outcome → State → Prop) : Prop :=
  Met l y (.code y by_ n ret :: lw_g) rm (va_Pc as (WPs o b L xs M)) Qc 0 0 (WA o)
abbrev CIs (o : Om) (l : Launch) (y : MethodName) (by_ : ByteArray) (n : Nat) (rm : Room) (as : List Value) (b L : Nat) (xs : Nat → Int32) (M : Mm) (Q : Int32 → Mm → Prop) : Prop := CQs o l y by_ n (some .int) rm as b L xs M (QI o Q)
abbrev CZs (o : Om) (l : Launch) (y : MethodName) (by_ : ByteArray) (n : Nat) (rm : Room) (as : List Value) (b L : Nat) (xs : Nat → Int32) (M : Mm) (Q : Int32 → Mm → Prop) : Prop := CQs o l y by_ n (some .boolean) rm as b L xs M (QZ o Q)
theorem WPs_blind (o : Om) (b L : Nat) (xs : Nat → Int32) (M : Mm) (as : List Value) : FrameBlind (va_Pc as (WPs o b L xs M)) := fun a U g mk q => by
  obtain ⟨q0, ⟨qP, qK, qD⟩, qX, qA, qb⟩ := q
  exact ⟨q0, ⟨qP, va_K.moved (u := U) (U := U.calling g mk a) (Vm.Alike.refl U.vm) qK, qD⟩, va_X.moved (u := U) (U := U.calling g mk a) (Vm.Alike.refl U.vm) qX, qA, qb⟩
theorem g_startS {o : Om} {l : Launch} {y : MethodName} {by_ : ByteArray} {n : Nat} {ret : Option FieldType} {rm : Room} {as : List Value} {b L : Nat} {xs : Nat → Int32} {M : Mm} {Qc : Array Value → State → Outcome → State → Prop} (hy : plainName y.cls = true) (hlen : (lg_sl as).length ≤ n)
    (body : ∀ (p : Program) (e : Env) (s : State) (m : MethodId) (args : Array Value) (below : List Frame) (meth : Method) (c : Code), p.tables.exec = Jvm.exec → c.code = by_ → meth.sig.returnType = ret → meth.locks = false → c.maxLocals = n → s.vm.findClass y.cls = some m.cls → (∀ w ∈ lw_g, w.before args s = true) → WO o (WA o) s s.heap s.heap [] M → va_X b L xs s s.heap → b < s.heap.size → ¬ WA o b → ∀ ls : Array Slot, lv_has ls n (lv_args 0 as) →
      W p l e rm s m args below meth c s.heap [] 0 0 (MQ below Qc args s 0 0 (WA o)) (F0 m 0 ls [])) : CQs o l y by_ n ret rm as b L xs M Qc := by
  refine Met.ofW (cc := by_) (maxL := n) (ret := ret) hy rfl ?_
  intro p e s m args below meth c s₁ B hml hv
  obtain ⟨rfl, ⟨hP, hK, hD⟩, hX, hbA, hbl⟩ := hv
  have hts := atoms_spec (ws := .code y by_ n ret :: lw_g) B.pre
  have hl := lv_entry as (n := n) hlen
  rw [lg_entry_eq]
  exact body p e s m _ below meth c B.exec B.bytes B.returns B.notSynchronized hml (findClass_of_methodNamed B.named) (fun w h => hts w (List.mem_cons_of_mem _ h)) ⟨hK, hP, hD, va_S.rf⟩ hX hbl hbA _ hl
