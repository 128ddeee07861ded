def va_AOA (t : FieldType) (U : State) : Prop := (Cond.arrayOver (.array t)).before #[] U = true
theorem va_AOA.use {t : FieldType} {A : Array Value} {U : State} (h : va_AOA t U) : (Cond.arrayOver (.array t)).before A U = true := h
/-! ===== BEGIN new T[n][m]: the outer array a place, the inner ones among the pooled ===== -/
/-- f, but v at every address of l -/
def vr_up {α : Type} (f : Nat → α) (l : List Nat) (v : α) : Nat → α := fun a => if a ∈ l then v else f a
theorem vr_up_in {α : Type} {f : Nat → α} {l : List Nat} {v : α} {a : Nat} (h : a ∈ l) : vr_up f l v a = v := if_pos h
theorem vr_up_ne {α : Type} {f : Nat → α} {l : List Nat} {v : α} {a : Nat} (h : a ∉ l) : vr_up f l v a = f a := if_neg h
theorem vr_rows {L l : List Nat} {f : Nat → va_E} {e : va_E} (h : ∀ a, a ∈ l → a ∉ L) : va_pl L f ++ l.map (fun a => (a, e)) = va_pl (L ++ l) (vr_up f l e) := by
  unfold va_pl
  rw [List.map_append]
  congr 1
  · apply List.map_congr_left
    intro a ha
    rw [vr_up_ne (fun q => h a q ha)]
  · apply List.map_congr_left
    intro a ha
    rw [vr_up_in ha]
theorem vr_lay {X rows : va_W} {x : Nat × va_E} {pl : va_W} {D : va_G} {cl : List vw_C} {H : Heap} (hP : va_P D cl (((X ++ pl) ++ [x]) ++ rows) H) : va_P D cl ((X ++ [x]) ++ (pl ++ rows)) H := by
  rw [List.append_assoc (X ++ pl)] at hP
  have h := va_P.swap hP
  rw [← List.append_assoc X] at h
  have h2 := va_P.swap h
  rw [List.append_assoc (X ++ [x])] at h2
  exact h2
theorem vr_layD {X rows : va_W} {x : Nat × va_E} {pl : va_W} {A : Nat → Prop} (hD : va_D A (((X ++ pl) ++ [x]) ++ rows)) : va_D A ((X ++ [x]) ++ (pl ++ rows)) := by
  rw [List.append_assoc (X ++ pl)] at hD
  have h := va_D.swap hD
  rw [← List.append_assoc X] at h
  have h2 := va_D.swap h
  rw [List.append_assoc (X ++ [x])] at h2
  exact h2
theorem vr_outer (c : ClassId) (N h0 : Nat) : ∀ i : Nat, Jvm.Free.Multi.outerC c N h0 i = arrV c N (fun j => va_rf (if j < i then some (h0 + 1 + j) else none))
  | 0 => by
    show ({ cls := c, slots := Array.replicate N .null, vm := .none } : Cell) = _
    rw [arrV_new]
    refine congrArg (arrV c N) (funext fun j => ?_)
    simp [va_rf]
  | i + 1 => by
    show (Jvm.Free.Multi.outerC c N h0 i).setSlot i (.ref (h0 + 1 + i)) = _
    rw [vr_outer c N h0 i, arrV_store]
    refine congrArg (arrV c N) (funext fun j => ?_)
    by_cases e : j = i
    · subst e
      simp [updV, va_rf]
    · by_cases h : j < i
      · simp [updV, e, h, Nat.lt_succ_of_lt h]
      · simp [updV, e, h, show ¬ j < i + 1 by omega]
section VGM
variable {p : Program} {l : Launch} {e : Env} {R : Room} {s : State} {m : MethodId} {args : Array Value} {below : List Frame} {meth : Method} {c : Code} {H : Heap} {locs : List Loc} {cells slots : Nat} {Q : State → Prop}
variable {cc : ByteArray} {pc : Nat} {ls : Array Slot} {rest : List Value} {D : va_G} {cl : List vw_C} {A : Nat → Prop} {a : Nat} {tys : List (ClassId × FieldType)} {ws : va_W} {H0 : Heap}
theorem va_mna {X : va_W} {L : List Nat} {f : Nat → va_E} {cc : ByteArray} (hexec : p.tables.exec = Jvm.exec) (hb : c.code = cc) {own : String} {index : Nat} {ty : FieldType} {cy : ClassId} (hown : s.vm.findClass own = some m.cls) (hclink : (Cond.classLink own index ("[" ++ (FieldType.array ty).toString)).before args s = true) (hover : va_AOA ty s) (harr : (Cond.arrayClass ty).before args s = true) (hcy : s.vm.findClass (FieldType.array ty).toString = some cy)
    (hK : va_K D cl tys s) (hP : va_P D cl (X ++ va_pl L f) H) (hD : va_D A (X ++ va_pl L f)) (hS : va_S A H0 H locs) (hA : ∀ q, H0.size ≤ q → A q) {n k : Int32} {N' K' : Nat} {z : vp_A} (hn : ¬ n < 0) (hk : ¬ k < 0) (hN : n.toNatClampNeg = N') (hM : k.toNatClampNeg = K')
    (hb1 : N' * 4 ≤ 536870912) (hb2 : K' * componentBytes ty ≤ 536870912) (hb3 : K' ≤ 536870912) (hdf : fits ty (defaultValue ty) = true) (hdd : (defaultValue ty).isDefault = true) (hcells : cells + (1 + N') ≤ R.cells) (hslots : slots + (N' + N' * K') ≤ R.slots) (hz : ∀ c : ClassId, Jvm.Free.Multi.innerC c K' (defaultValue ty) = vp_cell c z) (hdg : decode cc pc = .ok (.multianewarray index 2, 4))
    (kk : ∀ (q : Nat) (r : Nat → Nat) (cA : ClassId) (H1 : Heap), (∀ i j : Nat, i < N' → j < N' → r i = r j → i = j) → (∀ i : Nat, i < N' → r i ∉ L) → va_K D cl (tys ++ [(cA, .array ty)]) s →
      va_P D cl ((X ++ [(q, .inl (cA, N', .inr (.inr (.inr (.inr (fun i => if i < N' then some (r i) else none))))))]) ++ va_pl (L ++ (List.range N').map r) (vr_up f ((List.range N').map r) (.inl (cy, z)))) H1 → va_D A ((X ++ [(q, .inl (cA, N', .inr (.inr (.inr (.inr (fun i => if i < N' then some (r i) else none))))))]) ++ va_pl (L ++ (List.range N').map r) (vr_up f ((List.range N').map r) (.inl (cy, z)))) → va_S A H0 H1 locs →
      W p l e R s m args below meth c H1 locs (cells + 1 + N') (slots + N' + N' * K') Q (F0 m (pc + 4) ls (.ref q :: rest))) : W p l e R s m args below meth c H locs cells slots Q (F0 m pc ls (.int k :: .int n :: rest)) := by
  subst hN
  subst hM
  intro T hT Xs
  obtain ⟨vm₁, cA, comp, -, fA, fC, hO, -, X', step⟩ := Xs.multianewarray2F hexec hown hclink (va_AOA.use hover) harr (g := F0 m pc ls (.int k :: .int n :: rest)) rfl (by rw [hb]; exact hdg) rfl hn hk hb1 hb2 hb3 hdf hdd hcells hslots
  have ec : some cy = some comp := hcy.symm.trans fC
  cases ec
  generalize hF : Jvm.Free.Multi.fill (T.setVm vm₁) cA cy n.toNatClampNeg k.toNatClampNeg (defaultValue ty) n.toNatClampNeg = F at X' step
  have hTh : (T.setVm vm₁).heap = H := hT
  obtain ⟨f1, f2, -, -⟩ := Jvm.Free.Multi.fill_facts (T.setVm vm₁) cA cy n.toNatClampNeg k.toNatClampNeg (defaultValue ty) n.toNatClampNeg
  rw [hF, hTh] at f1 f2
  have hold : ∀ x : Nat, x < H.size → F.heap[x]? = H[x]? := fun x hx => by
    have := Jvm.Free.Multi.fill_old (T.setVm vm₁) cA cy n.toNatClampNeg k.toNatClampNeg (defaultValue ty) (a := x) (by rw [hTh]; exact hx) n.toNatClampNeg
    rw [hF, hTh] at this
    exact this
  have hrow : ∀ j : Nat, j < n.toNatClampNeg → F.heap[H.size + 1 + j]? = some (vp_cell cy z) := fun j hj => by
    have := Jvm.Free.Multi.fill_inner (T.setVm vm₁) cA cy n.toNatClampNeg k.toNatClampNeg (defaultValue ty) n.toNatClampNeg j hj
    rw [hF, hTh, hz] at this
    exact this
  have hout : Jvm.Free.Multi.outerC cA n.toNatClampNeg H.size n.toNatClampNeg = vp_cell cA (n.toNatClampNeg, .inr (.inr (.inr (.inr (fun i => if i < n.toNatClampNeg then some (H.size + 1 + i) else none))))) := by
    rw [vp_cell_q]
    exact vr_outer cA n.toNatClampNeg H.size n.toNatClampNeg
  rw [hout] at f2
  have hlt : ∀ a, a ∈ L → a < H.size := fun a ha => by
    obtain ⟨k9, hk9⟩ := va_pl_get (X := X) (f := f) ha
    exact (hP k9 _ hk9).lt
  have hnl : ∀ i : Nat, i < n.toNatClampNeg → H.size + 1 + i ∉ L := fun i _ h => by
    have := hlt _ h
    omega
  have hnm : ∀ a, a ∈ (List.range n.toNatClampNeg).map (fun i => H.size + 1 + i) → a ∉ L := fun a ha h => by
    obtain ⟨i, -, rfl⟩ := List.mem_map.mp ha
    have := hlt _ h
    omega
  have hP0 : va_P D cl (X ++ va_pl L f) F.heap := hP.kept (fun k9 x hx => hold x.1 ((hP k9 x hx).lt))
  have hP1 : va_P D cl ((X ++ va_pl L f) ++ [(H.size, .inl (cA, n.toNatClampNeg, .inr (.inr (.inr (.inr (fun i => if i < n.toNatClampNeg then some (H.size + 1 + i) else none))))))]) F.heap := hP0.app (fun k9 x hx => by
    have h0 : k9 < 1 := (List.getElem?_eq_some_iff.mp hx).1
    rw [show k9 = 0 by omega] at hx
    cases hx
    exact f2)
  have hP2 : va_P D cl (((X ++ va_pl L f) ++ [(H.size, .inl (cA, n.toNatClampNeg, .inr (.inr (.inr (.inr (fun i => if i < n.toNatClampNeg then some (H.size + 1 + i) else none))))))]) ++ ((List.range n.toNatClampNeg).map (fun i => H.size + 1 + i)).map (fun a => (a, .inl (cy, z)))) F.heap := hP1.app (fun k9 x hx => by
    obtain ⟨a, ha, rfl⟩ := List.mem_map.mp (List.mem_of_getElem? hx)
    obtain ⟨i, hi, rfl⟩ := List.mem_map.mp ha
    exact hrow i (List.mem_range.mp hi))
  have hD2 : va_D A (((X ++ va_pl L f) ++ [(H.size, .inl (cA, n.toNatClampNeg, .inr (.inr (.inr (.inr (fun i => if i < n.toNatClampNeg then some (H.size + 1 + i) else none))))))]) ++ ((List.range n.toNatClampNeg).map (fun i => H.size + 1 + i)).map (fun a => (a, .inl (cy, z)))) := by
    have hD1 := hD.push (e := .inl (cA, n.toNatClampNeg, .inr (.inr (.inr (.inr (fun i => if i < n.toNatClampNeg then some (H.size + 1 + i) else none)))))) hP rfl (hA _ hS.1)
    generalize hW1 : (X ++ va_pl L f) ++ [(H.size, .inl (cA, n.toNatClampNeg, .inr (.inr (.inr (.inr (fun i => if i < n.toNatClampNeg then some (H.size + 1 + i) else none))))))] = W1 at hD1 hP1 ⊢
    have hle : ∀ (k9 : Nat) (x : Nat × va_E), W1[k9]? = some x → x.1 ≤ H.size := fun k9 x hx => by
      rw [← hW1] at hx
      by_cases hl : k9 < (X ++ va_pl L f).length
      · rw [List.getElem?_append_left hl] at hx
        exact Nat.le_of_lt ((hP k9 x hx).lt)
      · rw [List.getElem?_append_right (by omega)] at hx
        have h0 : k9 - (X ++ va_pl L f).length < 1 := (List.getElem?_eq_some_iff.mp hx).1
        rw [show k9 - (X ++ va_pl L f).length = 0 by omega] at hx
        cases hx
        exact Nat.le_refl _
    have hr : ∀ (k9 : Nat) (x : Nat × va_E), (((List.range n.toNatClampNeg).map (fun i => H.size + 1 + i)).map (fun a => ((a, .inl (cy, z)) : Nat × va_E)))[k9]? = some x → x.1 = H.size + 1 + k9 := fun k9 x hx => by
      rw [List.getElem?_map, List.getElem?_map] at hx
      by_cases h9 : k9 < n.toNatClampNeg
      · rw [List.getElem?_range h9] at hx
        cases hx
        rfl
      · have hn0 : (List.range n.toNatClampNeg)[k9]? = none := List.getElem?_eq_none (by rw [List.length_range]; omega)
        rw [hn0] at hx
        cases hx
    refine ⟨fun i j x y hi hj hxy => ?_, fun k9 x hx => ?_⟩
    · by_cases h1 : i < W1.length <;> by_cases h2 : j < W1.length
      · rw [List.getElem?_append_left h1] at hi
        rw [List.getElem?_append_left h2] at hj
        exact hD1.1 i j x y hi hj hxy
      · rw [List.getElem?_append_left h1] at hi
        rw [List.getElem?_append_right (by omega)] at hj
        have := hle _ _ hi
        have := hr _ _ hj
        omega
      · rw [List.getElem?_append_right (by omega)] at hi
        rw [List.getElem?_append_left h2] at hj
        have := hle _ _ hj
        have := hr _ _ hi
        omega
      · rw [List.getElem?_append_right (by omega)] at hi hj
        have := hr _ _ hi
        have := hr _ _ hj
        omega
    · by_cases h1 : k9 < W1.length
      · rw [List.getElem?_append_left h1] at hx
        exact hD1.2 k9 x hx
      · rw [List.getElem?_append_right (by omega)] at hx
        have := hr _ _ hx
        exact hA _ (by have := hS.1; omega)
  have hAr : ArrOfT s cA (.array ty) := fun N9 z9 => by
    obtain ⟨-, k9, hk9, cm9, hkk9⟩ := (hO 0 0 0).1
    exact ⟨(fun q hq => by cases hq), k9, hk9, cm9, hkk9⟩
  have hK2 : va_K D cl (tys ++ [(cA, .array ty)]) s := ⟨hK.1, fun k9 x hx => by
    by_cases hl : k9 < tys.length
    · rw [List.getElem?_append_left hl] at hx
      exact hK.2 k9 x hx
    · rw [List.getElem?_append_right (by omega)] at hx
      have h0 : k9 - tys.length < 1 := (List.getElem?_eq_some_iff.mp hx).1
      rw [show k9 - tys.length = 0 by omega] at hx
      cases hx
      exact ⟨hAr, fA⟩⟩
  obtain ⟨t, a1, b1⟩ := kk H.size (fun i => H.size + 1 + i) cA F.heap (fun i j _ _ h => by have h9 : H.size + 1 + i = H.size + 1 + j := h; omega) hnl hK2 (by rw [← vr_rows hnm]; exact vr_lay hP2) (by rw [← vr_rows hnm]; exact vr_layD hD2) ⟨by rw [f1]; have := hS.1; omega, fun x h1 h2 => (hold x (Nat.lt_of_lt_of_le h1 hS.1)).trans (hS.2.1 x h1 h2), hS.2.2⟩ F rfl X'
  refine ⟨t, step t ?_, b1⟩
  have e : T.heap.size = H.size := by rw [hT]
  rw [e]
  exact a1
end VGM

/-- the class numbers of int[], Plan[], int[][] -/
def k_tys (t : ClassId × ClassId × ClassId) : List (ClassId × FieldType) := [(t.1, .int), (t.2.1, .object "MonthPage$Plan"), (t.2.2, .array .int)]
/-- what a constructor needs of the tables -/
def KB (D : va_G) (t : ClassId × ClassId × ClassId) (U : State) : Prop := va_K D vwCl (k_tys t) U ∧ va_Nw (.methodLinkNest RX0 11 yX2_init RX4) U ∧ va_Nw (.methodLinkNest RX1 24 yX2_init RX4) U ∧ va_Nw (.methodLinkNest RX4 9 yX0_init RX4) U ∧ va_Nw (.methodLinkNest RX4 28 yX3_init RX4) U ∧ (Cond.arrayOver (.object "MonthPage$Plan")).before #[] U = true ∧ (Cond.arrayOver (.array .int)).before #[] U = true
theorem over_vm {t : FieldType} {a a' : Array Value} {U V : State} (h : U.vm = V.vm) : (Cond.arrayOver t).before a U = (Cond.arrayOver t).before a' V := by
  unfold Cond.before Cond.holds
  simp only [Cond.value]
  rw [h]
theorem KB.warm {D : va_G} {t : ClassId × ClassId × ClassId} {s U : State} (hW : s.WarmedH U.vm) (h : KB D t s) : KB D t U := by
  obtain ⟨h1, h2, h3, h4, h5, h6, h7⟩ := h
  exact ⟨va_K.moved hW.alike h1, va_Nw.warmM hW h2, va_Nw.warmM hW h3, va_Nw.warmM hW h4, va_Nw.warmM hW h5,
    (over_vm (a := #[]) (U := U) (V := s.setVm U.vm) rfl).trans ((Cond.arrayOver_setVmC hW.alike _).trans h6), (over_vm (a := #[]) (U := U) (V := s.setVm U.vm) rfl).trans ((Cond.arrayOver_setVmC hW.alike _).trans h7)⟩
theorem KB.same {D : va_G} {t : ClassId × ClassId × ClassId} {u U : State} (hv : u.vm = U.vm) (h : KB D t u) : KB D t U := by
  obtain ⟨h1, h2, h3, h4, h5, h6, h7⟩ := h
  exact ⟨va_K.moved (by rw [hv]; exact Vm.Alike.refl _) h1, va_Nw.same rfl hv h2, va_Nw.same rfl hv h3, va_Nw.same rfl hv h4, va_Nw.same rfl hv h5, (over_vm hv.symm).trans h6, (over_vm hv.symm).trans h7⟩
/-- a constructor's start: its own cell, and the tables -/
def IP (D : va_G) (t : ClassId × ClassId × ClassId) (ws0 : va_W) (sz : Nat) (U : State) : Prop := U.heap.size = sz ∧ KB D t U ∧ va_P D vwCl ws0 U.heap ∧ va_D (fun _ => True) ws0
theorem IP_blind (D : va_G) (t : ClassId × ClassId × ClassId) (ws0 : va_W) (sz : Nat) (as : List Value) : FrameBlind (va_Pc as (IP D t ws0 sz)) := fun a U g mk q => by
  obtain ⟨q0, q1, q2, q3, q4⟩ := q
  exact ⟨q0, q1, KB.same (u := U) (U := U.calling g mk a) rfl q2, q3, q4⟩
theorem i_start {l : Launch} {y : MethodName} {b : ByteArray} {n : Nat} {rm : Room} {as : List Value} {D : va_G} {t : ClassId × ClassId × ClassId} {ws0 : va_W} {sz mc ms : Nat} {Qc : Array Value → State → Outcome → State → Prop} (hy : plainName y.cls = true) (hlen : (lg_sl as).length ≤ n)
    (body : ∀ (p : Program) (e : Env) (s : State) (m : MethodId) (args : Array Value) (below : List Frame) (meth : Method) (c : Code), p.tables.exec = Jvm.exec → c.code = b → meth.sig.returnType = none → meth.locks = false → meth.name = y.name → c.maxLocals = n → s.vm.findClass y.cls = some m.cls → (∀ w ∈ lw_g, w.before args s = true) → KB D t s → s.heap.size = sz → va_P D vwCl ws0 s.heap → va_D (va_A ws0 sz) ws0 → ∀ ls : Array Slot, lv_has ls n (lv_args 0 as) →
      W p l e rm s m args below meth c s.heap [] 0 0 (MQ below Qc args s mc ms (va_A ws0 sz)) (F0 m 0 ls [])) : Met l y (.code y b n none :: lw_g) rm (va_Pc as (IP D t ws0 sz)) Qc mc ms (va_A ws0 sz) := by
  refine Met.ofW (cc := b) (maxL := n) (ret := none) hy rfl ?_
  intro p e s m args below meth c s₁ B hml hv
  obtain ⟨rfl, hsz, hK, hP, hD⟩ := hv
  have hts := atoms_spec (ws := .code y b n none :: lw_g) B.pre
  have hl := lv_entry as (n := n) hlen
  rw [lg_entry_eq]
  exact body p e s m _ below meth c B.exec B.bytes B.returns B.notSynchronized (name_of_methodNamed B.named B.method).1 hml (findClass_of_methodNamed B.named) (fun w h => hts w (List.mem_cons_of_mem _ h)) hK hsz hP (hD.self (sz := sz)) _ hl
theorem nd_range (n : Nat) : ∀ k, va_nd ((List.range n).map (fun i => k + i)) = true := by
  induction n with
  | zero => intro k; rfl
  | succ n ih =>
    intro k
    rw [List.range_succ_eq_map, List.map_cons, List.map_map]
    have e : ((fun i => k + i) ∘ Nat.succ) = fun i => (k + 1) + i := by funext i; show k + (i + 1) = _; omega
    rw [e]
    show (decide (k + 0 ∉ (List.range n).map (fun i => (k + 1) + i)) && va_nd ((List.range n).map (fun i => (k + 1) + i))) = true
    rw [ih (k + 1), Bool.and_true, decide_eq_true_eq]
    intro h
    obtain ⟨i, -, hi⟩ := List.mem_map.mp h
    omega
section VIN
variable {p : Program} {l : Launch} {e : Env} {R : Room} {s : State} {m : MethodId} {args : Array Value} {below : List Frame} {meth : Method} {c : Code} {H : Heap} {locs : List Loc} {cells slots : Nat} {Q : State → Prop}
variable {cc : ByteArray} {pc : Nat} {ls : Array Slot} {rest : List Value} {D : va_G} {t : ClassId × ClassId × ClassId} {A : Nat → Prop} {ws : va_W} {H0 : Heap}
theorem i_newi (hx : p.tables.exec = Jvm.exec) (hb : c.code = cc) (hts : ∀ w ∈ lw_g, w.before args s = true) (hK : KB D t s) (hP : va_P D vwCl ws H) (hD : va_D A ws) (hS : va_S A H0 H locs) (hA : ∀ q, H0.size ≤ q → A q) {n : Int32} {N' : Nat} (hn : ¬ n < 0) (hN : n.toNatClampNeg = N') (hbytes : N' * 4 ≤ 536870912) (hcells : cells + 1 ≤ R.cells) (hslots : slots + N' ≤ R.slots) (hdg : decode cc pc = .ok (.newarray .int, 2))
    (kk : ∀ (q : Nat) (H1 : Heap), va_P D vwCl (ws ++ [(q, .inl (t.1, N', .inl (fun _ => 0)))]) H1 → va_D A (ws ++ [(q, .inl (t.1, N', .inl (fun _ => 0)))]) → va_S A H0 H1 locs → W p l e R s m args below meth c H1 locs (cells + 1) (slots + N') Q (F0 m (pc + 2) ls (.ref q :: rest))) : W p l e R s m args below meth c H locs cells slots Q (F0 m pc ls (.int n :: rest)) := by
  refine va_newa (atype := .int) (ty := .int) (a0 := (N', .inl (fun _ => 0))) hx hb (hts _ arr_int) rfl hK.1 hP hD hS hA (fun cA => rfl) hn hN hbytes hcells hslots hdg (fun q cA H1 hK1 hP1 hD1 hS1 => ?_)
  have e1 : s.vm.findClass ("[" ++ FieldType.int.toString) = some cA := (hK1.2 3 (cA, .int) rfl).2
  have e2 : s.vm.findClass ("[" ++ FieldType.int.toString) = some t.1 := (hK.1.2 0 (t.1, .int) rfl).2
  have e3 : cA = t.1 := Option.some.inj (e1.symm.trans e2)
  subst e3
  exact kk q H1 hP1 hD1 hS1
theorem i_mna (hx : p.tables.exec = Jvm.exec) (hb : c.code = cc) (hts : ∀ w ∈ lw_g, w.before args s = true) (hown : s.vm.findClass RX0 = some m.cls) (hK : KB D t s) (hP : va_P D vwCl ws H) (hD : va_D A ws) (hS : va_S A H0 H locs) (hA : ∀ q, H0.size ≤ q → A q) (hcells : cells + (1 + 24) ≤ R.cells) (hslots : slots + (24 + 24 * 7) ≤ R.slots) (hdg : decode cc pc = .ok (.multianewarray 26 2, 4))
    (kk : ∀ (q : Nat) (r : Nat → Nat) (H1 : Heap), va_P D vwCl ((ws ++ [(q, .inl (t.2.2, 24, .inr (.inr (.inr (.inr (fun i => if i < 24 then some (r i) else none))))))]) ++ (List.range 24).map (fun i => (r i, .inl (t.1, 7, .inl (fun _ => 0))))) H1 → va_D A ((ws ++ [(q, .inl (t.2.2, 24, .inr (.inr (.inr (.inr (fun i => if i < 24 then some (r i) else none))))))]) ++ (List.range 24).map (fun i => (r i, .inl (t.1, 7, .inl (fun _ => 0))))) → va_S A H0 H1 locs → W p l e R s m args below meth c H1 locs (cells + 1 + 24) (slots + 24 + 24 * 7) Q (F0 m (pc + 4) ls (.ref q :: rest))) : W p l e R s m args below meth c H locs cells slots Q (F0 m pc ls (.int 7 :: .int 24 :: rest)) := by
  have hP' : va_P D vwCl (ws ++ va_pl [] (fun _ => (.inl (t.1, 7, .inl (fun _ => 0)) : va_E))) H := by
    rw [show va_pl [] (fun _ => (.inl (t.1, 7, .inl (fun _ => 0)) : va_E)) = [] from rfl, List.append_nil]; exact hP
  have hD' : va_D A (ws ++ va_pl [] (fun _ => (.inl (t.1, 7, .inl (fun _ => 0)) : va_E))) := by
    rw [show va_pl [] (fun _ => (.inl (t.1, 7, .inl (fun _ => 0)) : va_E)) = [] from rfl, List.append_nil]; exact hD
  have hcy : s.vm.findClass (FieldType.array FieldType.int).toString = some t.1 := (hK.1.2 0 (t.1, .int) rfl).2
  refine va_mna (ty := .int) (cy := t.1) (N' := 24) (K' := 7) (z := (7, .inl (fun _ => 0))) hx hb hown (hts _ kX0_26) (hK.2.2.2.2.2.2 : va_AOA .int s) (hts _ arr_int) hcy hK.1 hP' hD' hS hA (by decide) (by decide) (by decide) (by decide) (by decide) (by decide) (by decide) rfl rfl hcells hslots (fun cA => arrV_new cA 7 (.int 0)) hdg (fun q r cA H1 hr1 hr2 hK1 hP1 hD1 hS1 => ?_)
  have e1 : s.vm.findClass ("[" ++ (FieldType.array FieldType.int).toString) = some cA := (hK1.2 3 (cA, .array .int) rfl).2
  have e2 : s.vm.findClass ("[" ++ (FieldType.array FieldType.int).toString) = some t.2.2 := (hK.1.2 2 (t.2.2, .array .int) rfl).2
  have e3 : cA = t.2.2 := Option.some.inj (e1.symm.trans e2)
  subst e3
  have e4 : ∀ L : List Nat, vr_up (fun _ => (.inl (t.1, 7, .inl (fun _ => 0)) : va_E)) L (.inl (t.1, 7, .inl (fun _ => 0))) = fun _ => .inl (t.1, 7, .inl (fun _ => 0)) := fun L => by
    funext a
    unfold vr_up
    split <;> rfl
  rw [e4] at hP1 hD1
  have e5 : va_pl ([] ++ (List.range 24).map r) (fun _ => (.inl (t.1, 7, .inl (fun _ => 0)) : va_E)) = (List.range 24).map (fun i => (r i, .inl (t.1, 7, .inl (fun _ => 0)))) := by
    unfold va_pl
    rw [List.nil_append, List.map_map]
    rfl
  rw [e5] at hP1 hD1
  exact kk q r H1 hP1 hD1 hS1
theorem i_newq (hx : p.tables.exec = Jvm.exec) (hb : c.code = cc) (hts : ∀ w ∈ lw_g, w.before args s = true) (hown : s.vm.findClass RX1 = some m.cls) (hK : KB D t s) (hP : va_P D vwCl ws H) (hD : va_D A ws) (hS : va_S A H0 H locs) (hA : ∀ q, H0.size ≤ q → A q) (hcells : cells + 1 ≤ R.cells) (hslots : slots + 8 ≤ R.slots) (hdg : decode cc pc = .ok (.anewarray 9, 3))
    (kk : ∀ (q : Nat) (H1 : Heap), va_P D vwCl (ws ++ [(q, .inl (t.2.1, 8, .inr (.inr (.inr (.inr (fun _ => none))))))]) H1 → va_D A (ws ++ [(q, .inl (t.2.1, 8, .inr (.inr (.inr (.inr (fun _ => none))))))]) → va_S A H0 H1 locs → W p l e R s m args below meth c H1 locs (cells + 1) (slots + 8) Q (F0 m (pc + 3) ls (.ref q :: rest))) : W p l e R s m args below meth c H locs cells slots Q (F0 m pc ls (.int 8 :: rest)) := by
  refine va_newq (C := "MonthPage$Plan") (N' := 8) hx hb hown (hts _ kX1_9) (hK.2.2.2.2.2.1 : va_AO "MonthPage$Plan" s) hK.1 hP hD hS hA (by decide) (by decide) (by decide) hcells hslots hdg (fun q cA H1 hK1 hP1 hD1 hS1 => ?_)
  obtain ⟨_, _, _, _, _, e1⟩ : va_RA s cA (.object "MonthPage$Plan") := (hK1.2 3 (cA, .object "MonthPage$Plan") rfl).2
  obtain ⟨_, _, _, _, _, e2⟩ : va_RA s t.2.1 (.object "MonthPage$Plan") := (hK.1.2 1 (t.2.1, .object "MonthPage$Plan") rfl).2
  have e3 : cA = t.2.1 := Option.some.inj (e1.symm.trans e2)
  subst e3
  exact kk q H1 hP1 hD1 hS1
/-- behind a constructor's call: the other cells, and the new object's world -/
theorem i_after {S : Type} {q : Nat} {eb : va_E} {wr : va_W} {mc ms : Nat} {a : Array Value} {post : S → Prop} {pw : S → va_W} {st0 : List Value} (hP : va_P D vwCl (wr ++ [(q, eb)]) H) (hD : va_D A (wr ++ [(q, eb)])) (hS : va_S A H0 H locs) (hA : ∀ q, H0.size ≤ q → A q)
    (hr : va_Run p l e R s m args below meth c H locs cells slots mc ms (F0 m pc ls st0) rest (va_Qv post (fun u T => va_P D vwCl (pw u) T.heap ∧ va_D (va_A [(q, eb)] H.size) (pw u)) (va_A [(q, eb)] H.size) a) (va_A [(q, eb)] H.size))
    (kk : ∀ (u : S) (H1 : Heap) (locs1 : List Loc), post u → va_P D vwCl (wr ++ pw u) H1 → va_D A (wr ++ pw u) → va_S A H0 H1 locs1 → W p l e R s m args below meth c H1 locs1 (cells + mc) (slots + ms) Q (F0 m (pc + 3) ls rest)) : W p l e R s m args below meth c H locs cells slots Q (F0 m pc ls st0) := by
  have hC : [wr.length].map (fun i => (wr ++ [(q, eb)])[i]?) = [(q, eb)].map some := by simp
  have hFc : ∀ x, va_A [(q, eb)] H.size x → A x := va_free hD hS hA [wr.length] hC
  refine va_callv hr hS (fun x _ h => hFc x h) hFc (fun u T H1 locs1 ht hvm hw hB hz1 hk1 hS1 => ?_)
  obtain ⟨hP1, hD1⟩ := hB
  rw [ht] at hP1
  have hR : (List.range wr.length).map (fun i => (wr ++ [(q, eb)])[i]?) = wr.map some := by
    apply List.ext_getElem?
    intro k
    rw [List.getElem?_map, List.getElem?_map]
    by_cases hk : k < wr.length
    · rw [List.getElem?_range hk]
      simp [List.getElem?_append_left hk, List.getElem?_eq_getElem hk]
    · rw [List.getElem?_eq_none (by rw [List.length_range]; omega), List.getElem?_eq_none (by omega)]
      rfl
  have hnd : va_nd (List.range wr.length) = true := by
    have := nd_range wr.length 0
    have e : (List.range wr.length).map (fun i => 0 + i) = List.range wr.length := by
      rw [show (fun i : Nat => 0 + i) = id by funext i; simp]
      exact List.map_id _
    rw [e] at this
    exact this
  obtain ⟨hP2, hD2⟩ := va_join (wr := wr) (w1 := pw u) hP hD [wr.length] (List.range wr.length) hC hR hnd (fun i hi hi2 => by
    have h1 := List.mem_range.mp hi
    have h2 := List.mem_singleton.mp hi2
    omega) hk1 hFc hP1 hD1
  exact kk u H1 locs1 hw hP2 hD2 hS1
theorem i_runN {y : MethodName} {b : ByteArray} {maxL nL : Nat} {index : Nat} {own host : String} {rm : Room} {mc ms : Nat} {q sz : Nat} {ws0 : va_W} {Qc : Array Value → State → Outcome → State → Prop} (hx : p.tables.exec = Jvm.exec) (hb : c.code = cc) (hml : c.maxLocals = nL) (hown : s.vm.findClass own = some m.cls) (hts : ∀ w ∈ lw_g, w.before args s = true) (hY : okY y b maxL none 0) (hy1 : y.name = "<init>") (hV : Cond.instanceMethod y ∈ lw_g) (hl : va_Nw (.methodLinkNest own index y host) s) (hK : KB D t s)
    (hM : Met l y (.code y b maxL none :: lw_g) rm (va_Pc [.ref q] (IP D t ws0 sz)) Qc mc ms (va_A ws0 sz)) (hsz : H.size = sz) (hP : va_P D vwCl ws0 H) (hD : va_D (fun _ => True) ws0) (hrc : rm.cells = mc) (hrs : rm.slots = ms) (hR : rm.frames + 1 ≤ R.frames ∧ 8 + (maxL + 11) + rm.locals ≤ R.locals) (hls : ls.size = nL) (hW : (rest.map fun v => v.category).sum ≤ 8) (hdg : decode cc pc = .ok (.invokespecial index, 3)) (hf : cells + mc ≤ R.cells ∧ slots + ms ≤ R.slots) :
    va_Run p l e R s m args below meth c H locs cells slots mc ms (F0 m pc ls (.ref q :: rest)) rest (Qc #[Value.ref q]) (va_A ws0 sz) :=
  va_runIN (As := []) (rest := rest) (Ts := lw_g) ⟨hx, hb, hml, hown, hts⟩ hM ⟨va_cnB 0 hts (g_goodIn (pre := []) hY.1 (fun _ h => by cases h)) rfl hrc hrs hl (hts _ hY.2.1) hY.2.2 hR, hy1, hts _ hV⟩ ⟨IP_blind D t ws0 sz _, fun U hU hWm => ⟨rfl, by rw [hU]; exact hsz, KB.warm hWm hK, by rw [hU]; exact hP, hD⟩⟩ rfl rfl hls rfl (lv_room hW) hdg hf
theorem i_run {y : MethodName} {b : ByteArray} {maxL nL : Nat} {index : Nat} {own : String} {rm : Room} {mc ms : Nat} {q sz : Nat} {ws0 : va_W} {Qc : Array Value → State → Outcome → State → Prop} (hx : p.tables.exec = Jvm.exec) (hb : c.code = cc) (hml : c.maxLocals = nL) (hown : s.vm.findClass own = some m.cls) (hts : ∀ w ∈ lw_g, w.before args s = true) (hY : okY y b maxL none 0) (hy1 : y.name = "<init>") (hV : Cond.instanceMethod y ∈ lw_g) (hl : Cond.methodLink own index y ∈ lw_g) (hK : KB D t s)
    (hM : Met l y (.code y b maxL none :: lw_g) rm (va_Pc [.ref q] (IP D t ws0 sz)) Qc mc ms (va_A ws0 sz)) (hsz : H.size = sz) (hP : va_P D vwCl ws0 H) (hD : va_D (fun _ => True) ws0) (hrc : rm.cells = mc) (hrs : rm.slots = ms) (hR : rm.frames + 1 ≤ R.frames ∧ 8 + (maxL + 11) + rm.locals ≤ R.locals) (hls : ls.size = nL) (hW : (rest.map fun v => v.category).sum ≤ 8) (hdg : decode cc pc = .ok (.invokespecial index, 3)) (hf : cells + mc ≤ R.cells ∧ slots + ms ≤ R.slots) :
    va_Run p l e R s m args below meth c H locs cells slots mc ms (F0 m pc ls (.ref q :: rest)) rest (Qc #[Value.ref q]) (va_A ws0 sz) :=
  va_runI (As := []) (rest := rest) (Ts := lw_g) ⟨hx, hb, hml, hown, hts⟩ hM ⟨callB_of (Ts := lw_g) 0 hts (g_goodIn (pre := []) hY.1 (fun _ h => by cases h)) rfl hrc hrs (hts _ hY.2.1) (hts _ hl) hY.2.2 hR, hy1, hts _ hV⟩ ⟨IP_blind D t ws0 sz _, fun U hU hWm => ⟨rfl, by rw [hU]; exact hsz, KB.warm hWm hK, by rw [hU]; exact hP, hD⟩⟩ rfl rfl hls rfl (lv_room hW) hdg hf
end VIN
theorem fls {P : Nat → Prop} {n : Nat} (h : ∀ k, k < n → P k) (hn : P n) : ∀ k, k < n + 1 → P k := fun k hk => by
  rcases Nat.lt_or_ge k n with q | q
  · exact h k q
  · rw [show k = n by omega]; exact hn
