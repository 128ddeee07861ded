section VWO
variable {p : Program} {l : Launch} {e : Env} {R : Room} {s : State} {m : MethodId} {args : Array Value} {below : List Frame} {meth : Method} {c : Code} {H : Heap} {locs : List Loc} {cells slots : Nat} {Q : State → Prop}
variable {cc : ByteArray} {pc : Nat} {ls : Array Slot} {rest : List Value} {o : Om} {A : Nat → Prop} {M : Mm} {H0 : Heap}
theorem g_getf (hx : p.tables.exec = Jvm.exec) (hb : c.code = cc) (hts : ∀ w ∈ lw_g, w.before args s = true) {own C : String} {T : u_T} {N ci index : Nat} (hin : ∀ w ∈ u_ws C T N, w ∈ lw_g) (hown : s.vm.findClass own = some m.cls) (hw : WO o A s H0 H locs M) (kc i : Nat) {fs : List Value} (hi : i < cnt kc) (hn : bas kc + i < o.2.2.2) (he : cr o kc i (M kc i) = .inr (ci, fs)) (hc : vwCl[ci]? = some (C, T, N)) (k : Nat) (hk : k < N) (hlink : Cond.fieldLink own index (T k).1 (T k).2.1 (T k).2.2.1 ∈ lw_g) {v : Value} (hv : fs[k]? = some v) (hdg : decode cc pc = .ok (.getfield index, 3))
    (kk : W p l e R s m args below meth c H locs cells slots Q (F0 m (pc + 3) ls (v :: rest))) : W p l e R s m args below meth c H locs cells slots Q (F0 m pc ls (.ref (o.2.1 kc i) :: rest)) :=
  va_get (D := o.1) (cl := vwCl) (tys := o_tys o) (ws := wl o M) hx hb hts hin hown hw.1 hw.2.1 (bas kc + i) (by rw [wl_at o M hi hn, he]) hc k hk (hts _ hlink) (fun _ h => h) hv hdg kk
theorem g_putf (hx : p.tables.exec = Jvm.exec) (hb : c.code = cc) (hts : ∀ w ∈ lw_g, w.before args s = true) {own C : String} {T : u_T} {N ci index : Nat} (hin : ∀ w ∈ u_ws C T N, w ∈ lw_g) (ty0 : Nat → FieldType) (hty : ∀ k, k < N → parseFieldDescriptor (T k).2.2.1 = some (ty0 k)) (hnm : ∀ a, a < N → ∀ b, b < N → a ≠ b → (T a).2.1 ≠ (T b).2.1) (hown : s.vm.findClass own = some m.cls) (hw : WO o A s H0 H locs M) (kc i : Nat) {fs : List Value} (hi : i < cnt kc) (hn : bas kc + i < o.2.2.2) (hc : vwCl[ci]? = some (C, T, N)) (k : Nat) (hk : k < N) {x : Int32} (he : cr o kc i (M kc i) = .inr (ci, fs)) (he2 : cr o kc i (upd (M kc i) k x) = .inr (ci, fs.set k (.int x))) (hlink : Cond.fieldLink own index (T k).1 (T k).2.1 (T k).2.2.1 ∈ lw_g) (hfin : (T k).2.2.2 = false) (hd : parseFieldDescriptor (T k).2.2.1 = some .int) (hl : k < fs.length) {K : Mm → Prop} (h : stF M kc i k x K) (hdg : decode cc pc = .ok (.putfield index, 3))
    (kk : ∀ (M' : Mm) (H1 : Heap) (locs1 : List Loc), WO o A s H0 H1 locs1 M' → K M' → W p l e R s m args below meth c H1 locs1 cells slots Q (F0 m (pc + 3) ls rest)) : W p l e R s m args below meth c H locs cells slots Q (F0 m pc ls (.int x :: .ref (o.2.1 kc i) :: rest)) := by
  refine va_put (D := o.1) (cl := vwCl) (tys := o_tys o) (ws := wl o M) hx hb hts hin ty0 hty hnm hown hw.1 hw.2.1 hw.2.2.1 hw.2.2.2 (bas kc + i) (by rw [wl_at o M hi hn, he]) hc k hk (hts _ hlink) (fun _ h => h) hfin hd rfl rfl hl hdg (fun H1 locs1 hP hD hS => ?_)
  have e1 : (wl o M).set (bas kc + i) (o.2.1 kc i, .inr (ci, fs.set k (.int x))) = wl o (st M kc i k x) := wl_set o M _ hi hn (by rw [st_row, he2]) (fun c' i' hne => st_ne c' i' hne)
  rw [e1] at hP hD
  exact kk (st M kc i k x) H1 locs1 ⟨hw.1, hP, hD, hS⟩ h
theorem g_iald (hx : p.tables.exec = Jvm.exec) (hb : c.code = cc) (hw : WO o A s H0 H locs M) (kc i : Nat) {n : Nat} (hi : i < cnt kc) (hn : bas kc + i < o.2.2.2) (he : cr o kc i (M kc i) = .inl (o.2.2.1.1, n, .inl (M kc i))) {j : Int32} {K : Int32 → Prop} (h : ldA (M kc i) n j K) (hdg : decode cc pc = .ok (.iaload, 1))
    (kk : ∀ v : Int32, K v → W p l e R s m args below meth c H locs cells slots Q (F0 m (pc + 1) ls (.int v :: rest))) : W p l e R s m args below meth c H locs cells slots Q (F0 m pc ls (.int j :: .ref (o.2.1 kc i) :: rest)) :=
  va_iald (D := o.1) (cl := vwCl) (tys := o_tys o) (ws := wl o M) hx hb hw.1 hw.2.1 (bas kc + i) 0 (by rw [wl_at o M hi hn, he]) rfl h.1 hdg (kk _ h.2)
theorem g_iast (hx : p.tables.exec = Jvm.exec) (hb : c.code = cc) (hw : WO o A s H0 H locs M) (kc i : Nat) {n : Nat} (hi : i < cnt kc) (hn : bas kc + i < o.2.2.2) (he : ∀ r, cr o kc i r = .inl (o.2.2.1.1, n, .inl r)) {j x : Int32} {K : Mm → Prop} (h : stA M kc i n j x K) (hdg : decode cc pc = .ok (.iastore, 1))
    (kk : ∀ (M' : Mm) (H1 : Heap) (locs1 : List Loc), WO o A s H0 H1 locs1 M' → K M' → W p l e R s m args below meth c H1 locs1 cells slots Q (F0 m (pc + 1) ls rest)) : W p l e R s m args below meth c H locs cells slots Q (F0 m pc ls (.int x :: .int j :: .ref (o.2.1 kc i) :: rest)) := by
  refine va_iast (D := o.1) (cl := vwCl) (tys := o_tys o) (ws := wl o M) hx hb hw.1 hw.2.1 hw.2.2.1 hw.2.2.2 (bas kc + i) 0 (by rw [wl_at o M hi hn, he]) rfl h.1 hdg (fun H1 locs1 hP hD hS => ?_)
  have e1 : (wl o M).set (bas kc + i) (o.2.1 kc i, .inl (o.2.2.1.1, n, .inl (upd (M kc i) j.toNatClampNeg x))) = wl o (st M kc i j.toNatClampNeg x) := wl_set o M _ hi hn (by rw [st_row, he]) (fun c' i' hne => st_ne c' i' hne)
  rw [e1] at hP hD
  exact kk _ H1 locs1 ⟨hw.1, hP, hD, hS⟩ h.2
theorem g_aldP (hx : p.tables.exec = Jvm.exec) (hb : c.code = cc) (hw : WO o A s H0 H locs M) (hn : 2 < o.2.2.2) {j : Int32} {K : Nat → Prop} (h : ldR 8 j K) (hdg : decode cc pc = .ok (.aaload, 1))
    (kk : ∀ k : Nat, k < 8 → K k → W p l e R s m args below meth c H locs cells slots Q (F0 m (pc + 1) ls (.ref (o.2.1 11 (k + 2)) :: rest))) : W p l e R s m args below meth c H locs cells slots Q (F0 m pc ls (.int j :: .ref (o.2.1 2 0) :: rest)) :=
  va_aldq (D := o.1) (cl := vwCl) (tys := o_tys o) (ws := wl o M) (f := fun j => some (o.2.1 11 (j + 2))) hx hb hw.1 hw.2.1 (bas 2 + 0) 1 (by rw [wl_at o M (by decide) hn]; rfl) rfl h.1 hdg (kk _ (Nat.not_le.mp fun q => h.1 (Or.inr q)) h.2)
theorem g_aldR (hx : p.tables.exec = Jvm.exec) (hb : c.code = cc) (hw : WO o A s H0 H locs M) {i : Nat} (hi : i < 2) (hn : 115 ≤ o.2.2.2) {j : Int32} {K : Nat → Prop} (h : ldR 24 j K) (hdg : decode cc pc = .ok (.aaload, 1))
    (kk : ∀ k : Nat, k < 24 → K k → W p l e R s m args below meth c H locs cells slots Q (F0 m (pc + 1) ls (.ref (o.2.1 12 (24 * i + k)) :: rest))) : W p l e R s m args below meth c H locs cells slots Q (F0 m pc ls (.int j :: .ref (o.2.1 7 i) :: rest)) := by
  have hlt : j.toNatClampNeg < 24 := Nat.not_le.mp fun q => h.1 (Or.inr q)
  have hcell : H[o.2.1 7 i]? = some (arrV o.2.2.1.2.2 24 (fun j => va_rf (some (o.2.1 12 (24 * i + j))))) := hw.2.1 (bas 7 + i) _ (wl_at o M (c := 7) (i := i) hi (show 9 + i < o.2.2.2 by omega))
  have harr : s.isArrayOf (arrV o.2.2.1.2.2 24 (fun j => va_rf (some (o.2.1 12 (24 * i + j))))) (.array .int) := (hw.1.2 2 (o.2.2.1.2.2, .array .int) rfl).1 24 _
  have hin : ¬ (j < 0 ∨ (arrV o.2.2.1.2.2 24 (fun j => va_rf (some (o.2.1 12 (24 * i + j))))).slots.size ≤ j.toNatClampNeg) := by rw [arrV_size]; exact h.1
  have hv : (arrV o.2.2.1.2.2 24 (fun j => va_rf (some (o.2.1 12 (24 * i + j))))).slots[j.toNatClampNeg]? = some (.ref (o.2.1 12 (24 * i + j.toNatClampNeg))) := by rw [arrV_read _ _ hlt]; rfl
  exact W.aald (ty := .array .int) hx hb hcell harr rfl (fun q => by cases q) hin hv (g := F0 m pc ls (.int j :: .ref (o.2.1 7 i) :: rest)) rfl rfl hdg (kk _ hlt h.2)
theorem g_topi {x : Int32} {K : Int32 → Prop} (h : bI x K) (k : ∀ y : Int32, K y → W p l e R s m args below meth c H locs cells slots Q (F0 m pc ls (.int y :: rest))) : W p l e R s m args below meth c H locs cells slots Q (F0 m pc ls (.int x :: rest)) := k x h
theorem g_topl {x : Int64} {K : Int64 → Prop} (h : bL x K) (k : ∀ y : Int64, K y → W p l e R s m args below meth c H locs cells slots Q (F0 m pc ls (.long y :: rest))) : W p l e R s m args below meth c H locs cells slots Q (F0 m pc ls (.long x :: rest)) := k x h
theorem g_iinc (hx : p.tables.exec = Jvm.exec) (hb : c.code = cc) {i nL k : Nat} {n : Int} {x v : Int32} {lv' : Int32 → List (Nat × Value)} {lv0 : List (Nat × Value)} (hdg : decode cc pc = .ok (.iinc i n, 3)) (h : lv_has ls nL lv0) (hk : lv0[k]? = some (i, .int x)) (hv : x + Int32.ofInt n = v) (hn : i < nL) (hl : ∀ y : Int32, (i, Value.int y) :: lv0.filter (fun q => !(q.1 == i) && !(q.1 + 1 == i && q.2.category == 2)) = lv' y) {K : Int32 → Prop} (hK : bI v K)
    (kk : ∀ (y : Int32) (ls' : Array Slot), K y → lv_has ls' nL (lv' y) → W p l e R s m args below meth c H locs cells slots Q (F0 m (pc + 3) ls' rest)) : W p l e R s m args below meth c H locs cells slots Q (F0 m pc ls rest) :=
  lv_iinc hx hb hdg h hk hv hn (hl v) (fun ls' h' => kk v ls' hK h')
theorem g_if_eq (hx : p.tables.exec = Jvm.exec) (hb : c.code = cc) {x : Int32} {off : Int} {tgt : Nat} {P1 P2 : Prop} (h : if x = 0 then P1 else P2) (hdg : decode cc pc = .ok (.ifCond .eq off, 3)) (ht : (pc : Int) + off = (tgt : Int)) (kt : P1 → W p l e R s m args below meth c H locs cells slots Q (F0 m tgt ls rest)) (kf : P2 → W p l e R s m args below meth c H locs cells slots Q (F0 m (pc + 3) ls rest)) : W p l e R s m args below meth c H locs cells slots Q (F0 m pc ls (.int x :: rest)) :=
  lv_if_eq hx hb hdg ht (fun q => kt (by rwa [if_pos q] at h)) (fun q => kf (by rwa [if_neg q] at h))
theorem g_if_ne (hx : p.tables.exec = Jvm.exec) (hb : c.code = cc) {x : Int32} {off : Int} {tgt : Nat} {P1 P2 : Prop} (h : if x = 0 then P2 else P1) (hdg : decode cc pc = .ok (.ifCond .ne off, 3)) (ht : (pc : Int) + off = (tgt : Int)) (kt : P1 → W p l e R s m args below meth c H locs cells slots Q (F0 m tgt ls rest)) (kf : P2 → W p l e R s m args below meth c H locs cells slots Q (F0 m (pc + 3) ls rest)) : W p l e R s m args below meth c H locs cells slots Q (F0 m pc ls (.int x :: rest)) :=
  lv_if_ne hx hb hdg ht (fun q => kt (by rwa [if_neg q] at h)) (fun q => kf (by rwa [if_pos q] at h))
theorem g_if_lt (hx : p.tables.exec = Jvm.exec) (hb : c.code = cc) {x : Int32} {off : Int} {tgt : Nat} {P1 P2 : Prop} (h : if x < 0 then P1 else P2) (hdg : decode cc pc = .ok (.ifCond .lt off, 3)) (ht : (pc : Int) + off = (tgt : Int)) (kt : P1 → W p l e R s m args below meth c H locs cells slots Q (F0 m tgt ls rest)) (kf : P2 → W p l e R s m args below meth c H locs cells slots Q (F0 m (pc + 3) ls rest)) : W p l e R s m args below meth c H locs cells slots Q (F0 m pc ls (.int x :: rest)) :=
  lv_if_lt hx hb hdg ht (fun q => kt (by rwa [if_pos q] at h)) (fun q => kf (by rwa [if_neg q] at h))
theorem g_if_ge (hx : p.tables.exec = Jvm.exec) (hb : c.code = cc) {x : Int32} {off : Int} {tgt : Nat} {P1 P2 : Prop} (h : if 0 ≤ x then P1 else P2) (hdg : decode cc pc = .ok (.ifCond .ge off, 3)) (ht : (pc : Int) + off = (tgt : Int)) (kt : P1 → W p l e R s m args below meth c H locs cells slots Q (F0 m tgt ls rest)) (kf : P2 → W p l e R s m args below meth c H locs cells slots Q (F0 m (pc + 3) ls rest)) : W p l e R s m args below meth c H locs cells slots Q (F0 m pc ls (.int x :: rest)) :=
  lv_if_ge hx hb hdg ht (fun q => kt (by rwa [if_pos q] at h)) (fun q => kf (by rwa [if_neg q] at h))
theorem g_if_gt (hx : p.tables.exec = Jvm.exec) (hb : c.code = cc) {x : Int32} {off : Int} {tgt : Nat} {P1 P2 : Prop} (h : if 0 < x then P1 else P2) (hdg : decode cc pc = .ok (.ifCond .gt off, 3)) (ht : (pc : Int) + off = (tgt : Int)) (kt : P1 → W p l e R s m args below meth c H locs cells slots Q (F0 m tgt ls rest)) (kf : P2 → W p l e R s m args below meth c H locs cells slots Q (F0 m (pc + 3) ls rest)) : W p l e R s m args below meth c H locs cells slots Q (F0 m pc ls (.int x :: rest)) :=
  lv_if_gt hx hb hdg ht (fun q => kt (by rwa [if_pos q] at h)) (fun q => kf (by rwa [if_neg q] at h))
theorem g_if_le (hx : p.tables.exec = Jvm.exec) (hb : c.code = cc) {x : Int32} {off : Int} {tgt : Nat} {P1 P2 : Prop} (h : if x ≤ 0 then P1 else P2) (hdg : decode cc pc = .ok (.ifCond .le off, 3)) (ht : (pc : Int) + off = (tgt : Int)) (kt : P1 → W p l e R s m args below meth c H locs cells slots Q (F0 m tgt ls rest)) (kf : P2 → W p l e R s m args below meth c H locs cells slots Q (F0 m (pc + 3) ls rest)) : W p l e R s m args below meth c H locs cells slots Q (F0 m pc ls (.int x :: rest)) :=
  lv_if_le hx hb hdg ht (fun q => kt (by rwa [if_pos q] at h)) (fun q => kf (by rwa [if_neg q] at h))
theorem g_icmp_eq (hx : p.tables.exec = Jvm.exec) (hb : c.code = cc) {x y : Int32} {off : Int} {tgt : Nat} {P1 P2 : Prop} (h : if x = y then P1 else P2) (hdg : decode cc pc = .ok (.if_icmp .eq off, 3)) (ht : (pc : Int) + off = (tgt : Int)) (kt : P1 → W p l e R s m args below meth c H locs cells slots Q (F0 m tgt ls rest)) (kf : P2 → W p l e R s m args below meth c H locs cells slots Q (F0 m (pc + 3) ls rest)) : W p l e R s m args below meth c H locs cells slots Q (F0 m pc ls (.int y :: .int x :: rest)) :=
  lv_icmp_eq hx hb hdg ht (fun q => kt (by rwa [if_pos q] at h)) (fun q => kf (by rwa [if_neg q] at h))
theorem g_icmp_ne (hx : p.tables.exec = Jvm.exec) (hb : c.code = cc) {x y : Int32} {off : Int} {tgt : Nat} {P1 P2 : Prop} (h : if x = y then P2 else P1) (hdg : decode cc pc = .ok (.if_icmp .ne off, 3)) (ht : (pc : Int) + off = (tgt : Int)) (kt : P1 → W p l e R s m args below meth c H locs cells slots Q (F0 m tgt ls rest)) (kf : P2 → W p l e R s m args below meth c H locs cells slots Q (F0 m (pc + 3) ls rest)) : W p l e R s m args below meth c H locs cells slots Q (F0 m pc ls (.int y :: .int x :: rest)) :=
  lv_icmp_ne hx hb hdg ht (fun q => kt (by rwa [if_neg q] at h)) (fun q => kf (by rwa [if_pos q] at h))
theorem g_icmp_lt (hx : p.tables.exec = Jvm.exec) (hb : c.code = cc) {x y : Int32} {off : Int} {tgt : Nat} {P1 P2 : Prop} (h : if x < y then P1 else P2) (hdg : decode cc pc = .ok (.if_icmp .lt off, 3)) (ht : (pc : Int) + off = (tgt : Int)) (kt : P1 → W p l e R s m args below meth c H locs cells slots Q (F0 m tgt ls rest)) (kf : P2 → W p l e R s m args below meth c H locs cells slots Q (F0 m (pc + 3) ls rest)) : W p l e R s m args below meth c H locs cells slots Q (F0 m pc ls (.int y :: .int x :: rest)) :=
  lv_icmp_lt hx hb hdg ht (fun q => kt (by rwa [if_pos q] at h)) (fun q => kf (by rwa [if_neg q] at h))
theorem g_icmp_ge (hx : p.tables.exec = Jvm.exec) (hb : c.code = cc) {x y : Int32} {off : Int} {tgt : Nat} {P1 P2 : Prop} (h : if y ≤ x then P1 else P2) (hdg : decode cc pc = .ok (.if_icmp .ge off, 3)) (ht : (pc : Int) + off = (tgt : Int)) (kt : P1 → W p l e R s m args below meth c H locs cells slots Q (F0 m tgt ls rest)) (kf : P2 → W p l e R s m args below meth c H locs cells slots Q (F0 m (pc + 3) ls rest)) : W p l e R s m args below meth c H locs cells slots Q (F0 m pc ls (.int y :: .int x :: rest)) :=
  lv_icmp_ge hx hb hdg ht (fun q => kt (by rwa [if_pos q] at h)) (fun q => kf (by rwa [if_neg q] at h))
theorem g_icmp_gt (hx : p.tables.exec = Jvm.exec) (hb : c.code = cc) {x y : Int32} {off : Int} {tgt : Nat} {P1 P2 : Prop} (h : if y < x then P1 else P2) (hdg : decode cc pc = .ok (.if_icmp .gt off, 3)) (ht : (pc : Int) + off = (tgt : Int)) (kt : P1 → W p l e R s m args below meth c H locs cells slots Q (F0 m tgt ls rest)) (kf : P2 → W p l e R s m args below meth c H locs cells slots Q (F0 m (pc + 3) ls rest)) : W p l e R s m args below meth c H locs cells slots Q (F0 m pc ls (.int y :: .int x :: rest)) :=
  lv_icmp_gt hx hb hdg ht (fun q => kt (by rwa [if_pos q] at h)) (fun q => kf (by rwa [if_neg q] at h))
theorem g_icmp_le (hx : p.tables.exec = Jvm.exec) (hb : c.code = cc) {x y : Int32} {off : Int} {tgt : Nat} {P1 P2 : Prop} (h : if x ≤ y then P1 else P2) (hdg : decode cc pc = .ok (.if_icmp .le off, 3)) (ht : (pc : Int) + off = (tgt : Int)) (kt : P1 → W p l e R s m args below meth c H locs cells slots Q (F0 m tgt ls rest)) (kf : P2 → W p l e R s m args below meth c H locs cells slots Q (F0 m (pc + 3) ls rest)) : W p l e R s m args below meth c H locs cells slots Q (F0 m pc ls (.int y :: .int x :: rest)) :=
  lv_icmp_le hx hb hdg ht (fun q => kt (by rwa [if_pos q] at h)) (fun q => kf (by rwa [if_neg q] at h))
theorem g_max (hx : p.tables.exec = Jvm.exec) (hb : c.code = cc) {nL : Nat} (hml : c.maxLocals = nL) (hsz : ls.size = nL) {own : String} {index : Nat} (hown : s.vm.findClass own = some m.cls) (hts : ∀ w ∈ lw_g, w.before args s = true) (hlink : Cond.methodLink own index yJ9_max_7cf53 ∈ lw_g) (hf : 1 ≤ R.frames) (hlo : (rest.map fun v => v.category).sum + 13 ≤ R.locals) (hc : cells ≤ R.cells) (hs : slots ≤ R.slots) {x y : Int32} (hdg : decode cc pc = .ok (.invokestatic index, 3))
    (kk : W p l e R s m args below meth c H locs cells slots Q (F0 m (pc + 3) ls (.int (if x < y then y else x) :: rest))) : W p l e R s m args below meth c H locs cells slots Q (F0 m pc ls (.int y :: .int x :: rest)) :=
  va_mmax hx hb (hml.trans hsz.symm) hown (hts _ hlink) (hts _ sJ9_max_7cf53) (hts _ ini_J9) (hts _ mJ9_max_7cf53.1) hf hlo hc hs hdg kk
theorem g_min (hx : p.tables.exec = Jvm.exec) (hb : c.code = cc) {nL : Nat} (hml : c.maxLocals = nL) (hsz : ls.size = nL) {own : String} {index : Nat} (hown : s.vm.findClass own = some m.cls) (hts : ∀ w ∈ lw_g, w.before args s = true) (hlink : Cond.methodLink own index yJ9_min_7cf53 ∈ lw_g) (hf : 1 ≤ R.frames) (hlo : (rest.map fun v => v.category).sum + 13 ≤ R.locals) (hc : cells ≤ R.cells) (hs : slots ≤ R.slots) {x y : Int32} (hdg : decode cc pc = .ok (.invokestatic index, 3))
    (kk : W p l e R s m args below meth c H locs cells slots Q (F0 m (pc + 3) ls (.int (if y < x then y else x) :: rest))) : W p l e R s m args below meth c H locs cells slots Q (F0 m pc ls (.int y :: .int x :: rest)) :=
  va_mmin hx hb (hml.trans hsz.symm) hown (hts _ hlink) (hts _ sJ9_min_7cf53) (hts _ ini_J9) (hts _ mJ9_min_7cf53.1) hf hlo hc hs hdg kk
theorem g_abs (hx : p.tables.exec = Jvm.exec) (hb : c.code = cc) {nL : Nat} (hml : c.maxLocals = nL) (hsz : ls.size = nL) {own : String} {index : Nat} (hown : s.vm.findClass own = some m.cls) (hts : ∀ w ∈ lw_g, w.before args s = true) (hlink : Cond.methodLink own index yJ9_abs_0f7a4 ∈ lw_g) (hf : 1 ≤ R.frames) (hlo : (rest.map fun v => v.category).sum + 13 ≤ R.locals) (hc : cells ≤ R.cells) (hs : slots ≤ R.slots) {x : Int32} (hdg : decode cc pc = .ok (.invokestatic index, 3))
    (kk : W p l e R s m args below meth c H locs cells slots Q (F0 m (pc + 3) ls (.int (if 0 ≤ x then x else 0 - x) :: rest))) : W p l e R s m args below meth c H locs cells slots Q (F0 m pc ls (.int x :: rest)) :=
  va_mabs hx hb (hml.trans hsz.symm) hown (hts _ hlink) (hts _ sJ9_abs_0f7a4) (hts _ ini_J9) (hts _ mJ9_abs_0f7a4.1) hf hlo hc hs hdg kk
/-- a method's end -/
theorem g_iret (hx : p.tables.exec = Jvm.exec) (hb : c.code = cc) (hr : meth.sig.returnType = some .int) (hlocks : meth.locks = false) {x : Int32} {Q1 : Int32 → Mm → Prop} (hw : WO o (WA o) s s.heap H locs M) (h : Q1 x M) (hdg : decode cc pc = .ok (.ireturn, 1)) : W p l e R s m args below meth c H locs cells slots (MQ below (QI o Q1) args s cells slots (WA o)) (F0 m pc ls [.int x]) :=
  W.iret (v := x) hx hb hr (fun t ht hW => ⟨⟨x, M, rfl, h, by rw [ht]; exact hw.2.1, va_K.moved hW.alike hw.1, hw.2.2.1⟩, hw.2.2.2.F ht⟩) hw.2.2.2.2.2 hdg hlocks
theorem bz_narrow {x : Int32} (h : bz x) : narrow .boolean (.int x) = .int x := by
  rcases h with rfl | rfl <;> rfl
theorem g_zret (hx : p.tables.exec = Jvm.exec) (hb : c.code = cc) (hr : meth.sig.returnType = some .boolean) (hlocks : meth.locks = false) {x : Int32} {Q1 : Int32 → Mm → Prop} (hw : WO o (WA o) s s.heap H locs M) (hz : bz x) (h : Q1 x M) (hdg : decode cc pc = .ok (.ireturn, 1)) : W p l e R s m args below meth c H locs cells slots (MQ below (QZ o Q1) args s cells slots (WA o)) (F0 m pc ls [.int x]) :=
  W.zret (v := x) hx hb hr (bz_narrow hz) (fun t ht hW => ⟨⟨x, M, rfl, ⟨hz, h⟩, by rw [ht]; exact hw.2.1, va_K.moved hW.alike hw.1, hw.2.2.1⟩, hw.2.2.2.F ht⟩) hw.2.2.2.2.2 hdg hlocks
theorem g_lret (hx : p.tables.exec = Jvm.exec) (hb : c.code = cc) (hr : meth.sig.returnType = some .long) (hlocks : meth.locks = false) {x : Int64} {Q1 : Int64 → Mm → Prop} (hw : WO o (WA o) s s.heap H locs M) (h : Q1 x M) (hdg : decode cc pc = .ok (.lreturn, 1)) : W p l e R s m args below meth c H locs cells slots (MQ below (QL o Q1) args s cells slots (WA o)) (F0 m pc ls [.long x]) :=
  W.lret (v := x) hx hb hr (fun t ht hW => ⟨⟨x, M, rfl, h, by rw [ht]; exact hw.2.1, va_K.moved hW.alike hw.1, hw.2.2.1⟩, hw.2.2.2.F ht⟩) hw.2.2.2.2.2 hdg hlocks
theorem g_vret (hx : p.tables.exec = Jvm.exec) (hb : c.code = cc) (hr : meth.sig.returnType = none) (hlocks : meth.locks = false) {Q1 : Mm → Prop} (hw : WO o (WA o) s s.heap H locs M) (h : Q1 M) (hdg : decode cc pc = .ok (.return_, 1)) : W p l e R s m args below meth c H locs cells slots (MQ below (QV o Q1) args s cells slots (WA o)) (F0 m pc ls []) :=
  W.vret hx hb hr (fun t ht hW => ⟨⟨M, rfl, h, by rw [ht]; exact hw.2.1, va_K.moved hW.alike hw.1, hw.2.2.1⟩, hw.2.2.2.F ht⟩) hw.2.2.2.2.2 hdg hlocks
/-- calls: what the tables owe -/
theorem g_goodIn {y : MethodName} {b : ByteArray} {n : Nat} {ret : Option FieldType} {pre : List Cond} (h : Cond.code y b n ret ∈ lw_g) (hp : ∀ w ∈ pre, w ∈ lw_g) : GoodIn lw_g (pre ++ (.code y b n ret :: lw_g)) := fun w hw => by
  have hm : w ∈ lw_g := by
    rcases List.mem_append.mp hw with hw | hw
    · exact hp w hw
    · rcases List.mem_cons.mp hw with rfl | hw
      · exact h
      · exact hw
  exact ⟨hm, good_of_word (lw_g_good w hm)⟩
theorem g_cw {y : MethodName} {b : ByteArray} {maxL : Nat} {ret : Option FieldType} {n index : Nat} {own : String} {rm : Room} (hts : ∀ w ∈ lw_g, w.before args s = true) (hY : okY y b maxL ret n) (hl : Cond.methodLink own index y ∈ lw_g) (hrc : rm.cells = 0) (hrs : rm.slots = 0) (hR : rm.frames + 1 ≤ R.frames ∧ 8 + (maxL + 11) + rm.locals ≤ R.locals) : CallB R s args own index y b maxL ret (.code y b maxL ret :: lw_g) rm 0 0 n :=
  callB_of (Ts := lw_g) n hts (g_goodIn (pre := []) hY.1 (fun _ h => by cases h)) rfl hrc hrs (hts _ hY.2.1) (hts _ hl) hY.2.2 hR
theorem g_runV {y : MethodName} {b : ByteArray} {maxL nL : Nat} {ret : Option FieldType} {n index : Nat} {own : String} {rm : Room} {As : List Value} {Qc : Array Value → State → Outcome → State → Prop} {st0 : List Value} (hx : p.tables.exec = Jvm.exec) (hb : c.code = cc) (hml : c.maxLocals = nL) (hown : s.vm.findClass own = some m.cls) (hts : ∀ w ∈ lw_g, w.before args s = true) (hY : okY y b maxL ret n) (hV : okV y) (hl : Cond.methodLink own index y ∈ lw_g) (hw : WO o A s H0 H locs M) (kc i : Nat) {ci : Nat} {fs : List Value} (hi : i < cnt kc) (hn : bas kc + i < o.2.2.2) (he : cr o kc i (M kc i) = .inr (ci, fs)) {T : u_T} {N : Nat} (hc : vwCl[ci]? = some (y.cls, T, N))
    (hM : CQ o l y b maxL ret rm (.ref (o.2.1 kc i) :: As) M Qc) (hrc : rm.cells = 0) (hrs : rm.slots = 0) (hR : rm.frames + 1 ≤ R.frames ∧ 8 + (maxL + 11) + rm.locals ≤ R.locals) (hln : As.length = n) (hsz : ls.size = nL) (hstk : st0 = As.reverse ++ .ref (o.2.1 kc i) :: rest) (hW : (rest.map fun v => v.category).sum ≤ 8) (hdg : decode cc pc = .ok (.invokevirtual index, 3)) (hf : cells ≤ R.cells ∧ slots ≤ R.slots) :
    va_Run p l e R s m args below meth c H locs cells slots 0 0 (F0 m pc ls st0) rest (Qc (Value.ref (o.2.1 kc i) :: As).toArray) (WA o) :=
  va_runV (C := y.cls) (Ts := lw_g) ⟨hx, hb, hml, hown, hts⟩ hM ⟨g_cw hts hY hl hrc hrs hR, hts _ hV.1, hts _ hV.2⟩
    ⟨WP_blind o M _, va_recv hw.1 hw.2.1 hc (q0 := bas kc + i) (fs := fs) (by rw [wl_at o M hi hn, he]), fun U hU hWm => ⟨rfl, by rw [hU]; exact hw.2.1, va_K.moved hWm.alike hw.1, WA_D hw.2.2.1⟩⟩ rfl hln hsz hstk (lv_room hW) hdg hf
theorem g_runS {y : MethodName} {b : ByteArray} {maxL nL : Nat} {ret : Option FieldType} {n index : Nat} {own : String} {rm : Room} {As : List Value} {Qc : Array Value → State → Outcome → State → Prop} {st0 : List Value} (hx : p.tables.exec = Jvm.exec) (hb : c.code = cc) (hml : c.maxLocals = nL) (hown : s.vm.findClass own = some m.cls) (hts : ∀ w ∈ lw_g, w.before args s = true) (hY : okY y b maxL ret n) (hS : okS y) (hl : Cond.methodLink own index y ∈ lw_g) (hw : WO o A s H0 H locs M)
    (hM : CQ o l y b maxL ret rm As M Qc) (hrc : rm.cells = 0) (hrs : rm.slots = 0) (hR : rm.frames + 1 ≤ R.frames ∧ 8 + (maxL + 11) + rm.locals ≤ R.locals) (hln : As.length = n) (hsz : ls.size = nL) (hstk : st0 = As.reverse ++ rest) (hW : (rest.map fun v => v.category).sum ≤ 8) (hdg : decode cc pc = .ok (.invokestatic index, 3)) (hf : cells ≤ R.cells ∧ slots ≤ R.slots) :
    va_Run p l e R s m args below meth c H locs cells slots 0 0 (F0 m pc ls st0) rest (Qc As.toArray) (WA o) :=
  va_runS (Ts := lw_g) ⟨hx, hb, hml, hown, hts⟩ hM ⟨g_cw hts hY hl hrc hrs hR, hts _ hS⟩
    ⟨WP_blind o M _, fun U hU hWm => ⟨rfl, by rw [hU]; exact hw.2.1, va_K.moved hWm.alike hw.1, WA_D hw.2.2.1⟩⟩ rfl hln hsz hstk (lv_room hW) hdg hf
theorem g_runSs {y : MethodName} {by_ : ByteArray} {maxL nL : Nat} {ret : Option FieldType} {n index : Nat} {own : String} {rm : Room} {As : List Value} {b L : Nat} {xs : Nat → Int32} {Qc : Array Value → State → Outcome → State → Prop} {st0 : List Value} (hx : p.tables.exec = Jvm.exec) (hb : c.code = cc) (hml : c.maxLocals = nL) (hown : s.vm.findClass own = some m.cls) (hts : ∀ w ∈ lw_g, w.before args s = true) (hY : okY y by_ maxL ret n) (hS : okS y) (hl : Cond.methodLink own index y ∈ lw_g) (hw : WO o A s H0 H locs M) (hX : va_X b L xs s H0) (hbl : b < H0.size) (hbA : ¬ A b)
    (hM : CQs o l y by_ maxL ret rm As b L xs M Qc) (hrc : rm.cells = 0) (hrs : rm.slots = 0) (hR : rm.frames + 1 ≤ R.frames ∧ 8 + (maxL + 11) + rm.locals ≤ R.locals) (hln : As.length = n) (hsz : ls.size = nL) (hstk : st0 = As.reverse ++ rest) (hW : (rest.map fun v => v.category).sum ≤ 8) (hdg : decode cc pc = .ok (.invokestatic index, 3)) (hf : cells ≤ R.cells ∧ slots ≤ R.slots) :
    va_Run p l e R s m args below meth c H locs cells slots 0 0 (F0 m pc ls st0) rest (Qc As.toArray) (WA o) :=
  va_runS (Ts := lw_g) ⟨hx, hb, hml, hown, hts⟩ hM ⟨g_cw hts hY hl hrc hrs hR, hts _ hS⟩
    ⟨WPs_blind o b L xs M _, fun U hU hWm => ⟨rfl, ⟨by rw [hU]; exact hw.2.1, va_K.moved hWm.alike hw.1, WA_D hw.2.2.1⟩, by rw [hU]; exact va_X.moved hWm.alike (hX.kept (hw.2.2.2.2.1 b hbl hbA)), fun q => hbA (WA_A hw.2.2.1 b q), by rw [hU]; exact Nat.lt_of_lt_of_le hbl hw.2.2.2.1⟩⟩ rfl hln hsz hstk (lv_room hW) hdg hf
theorem g_after {M' : Mm} {t : State} {H1 : Heap} {locs1 : List Loc} (hw : WO o A s H0 H locs M) (ht : t.heap = H1) (hvm : s.vm.Alike t.vm) (hB : WP o M' t) (hS : va_S A H0 H1 locs1) : WO o A s H0 H1 locs1 M' :=
  ⟨va_K.moved hvm.symm hB.2.1, by rw [← ht]; exact hB.1, WA_same hw.2.2.1 hB.2.2, hS⟩
theorem g_ci {st0 : List Value} {a : Array Value} {Q1 : Int32 → Mm → Prop} (hw : WO o A s H0 H locs M) (hr : va_Run p l e R s m args below meth c H locs cells slots 0 0 (F0 m pc ls st0) rest (QI o Q1 a) (WA o)) (kk : ∀ (r : Int32) (M' : Mm) (H1 : Heap) (locs1 : List Loc), WO o A s H0 H1 locs1 M' → Q1 r M' → W p l e R s m args below meth c H1 locs1 cells slots Q (F0 m (pc + 3) ls (.int r :: rest))) : W p l e R s m args below meth c H locs cells slots Q (F0 m pc ls st0) :=
  va_calli hr hw.2.2.2 (fun q _ h => WA_A hw.2.2.1 q h) (fun q h => WA_A hw.2.2.1 q h) (fun r M' t H1 locs1 ht hvm hq hB _ _ hS => kk r M' H1 locs1 (g_after hw ht hvm hB hS) hq)
theorem g_cz {st0 : List Value} {a : Array Value} {Q1 : Int32 → Mm → Prop} (hw : WO o A s H0 H locs M) (hr : va_Run p l e R s m args below meth c H locs cells slots 0 0 (F0 m pc ls st0) rest (QZ o Q1 a) (WA o)) (kk : ∀ (r : Int32) (M' : Mm) (H1 : Heap) (locs1 : List Loc), WO o A s H0 H1 locs1 M' → bz r → Q1 r M' → W p l e R s m args below meth c H1 locs1 cells slots Q (F0 m (pc + 3) ls (.int r :: rest))) : W p l e R s m args below meth c H locs cells slots Q (F0 m pc ls st0) :=
  va_calli hr hw.2.2.2 (fun q _ h => WA_A hw.2.2.1 q h) (fun q h => WA_A hw.2.2.1 q h) (fun r M' t H1 locs1 ht hvm hq hB _ _ hS => kk r M' H1 locs1 (g_after hw ht hvm hB hS) hq.1 hq.2)
theorem g_cl {st0 : List Value} {a : Array Value} {Q1 : Int64 → Mm → Prop} (hw : WO o A s H0 H locs M) (hr : va_Run p l e R s m args below meth c H locs cells slots 0 0 (F0 m pc ls st0) rest (QL o Q1 a) (WA o)) (kk : ∀ (r : Int64) (M' : Mm) (H1 : Heap) (locs1 : List Loc), WO o A s H0 H1 locs1 M' → Q1 r M' → W p l e R s m args below meth c H1 locs1 cells slots Q (F0 m (pc + 3) ls (.long r :: rest))) : W p l e R s m args below meth c H locs cells slots Q (F0 m pc ls st0) :=
  va_calll hr hw.2.2.2 (fun q _ h => WA_A hw.2.2.1 q h) (fun q h => WA_A hw.2.2.1 q h) (fun r M' t H1 locs1 ht hvm hq hB _ _ hS => kk r M' H1 locs1 (g_after hw ht hvm hB hS) hq)
theorem g_cv {st0 : List Value} {a : Array Value} {Q1 : Mm → Prop} (hw : WO o A s H0 H locs M) (hr : va_Run p l e R s m args below meth c H locs cells slots 0 0 (F0 m pc ls st0) rest (QV o Q1 a) (WA o)) (kk : ∀ (M' : Mm) (H1 : Heap) (locs1 : List Loc), WO o A s H0 H1 locs1 M' → Q1 M' → W p l e R s m args below meth c H1 locs1 cells slots Q (F0 m (pc + 3) ls rest)) : W p l e R s m args below meth c H locs cells slots Q (F0 m pc ls st0) :=
  va_callv hr hw.2.2.2 (fun q _ h => WA_A hw.2.2.1 q h) (fun q h => WA_A hw.2.2.1 q h) (fun M' t H1 locs1 ht hvm hq hB _ _ hS => kk M' H1 locs1 (g_after hw ht hvm hB hS) hq)
theorem g_sld (hx : p.tables.exec = Jvm.exec) (hb : c.code = cc) {b L : Nat} {xs : Nat → Int32} (hX : va_X b L xs s H0) (hbl : b < H0.size) (hbA : ¬ A b) (hw : WO o A s H0 H locs M) {j : Int32} {K : Int32 → Prop} (h : ldA xs L j K) (hdg : decode cc pc = .ok (.iaload, 1)) (kk : ∀ v : Int32, K v → W p l e R s m args below meth c H locs cells slots Q (F0 m (pc + 1) ls (.int v :: rest))) : W p l e R s m args below meth c H locs cells slots Q (F0 m pc ls (.int j :: .ref b :: rest)) :=
  va_sld hx hb hX hbl hbA hw.2.2.2 h.1 hdg (kk _ h.2)
theorem g_slen (hx : p.tables.exec = Jvm.exec) (hb : c.code = cc) {b L : Nat} {xs : Nat → Int32} (hX : va_X b L xs s H0) (hbl : b < H0.size) (hbA : ¬ A b) (hw : WO o A s H0 H locs M) (hdg : decode cc pc = .ok (.arraylength, 1)) (kk : W p l e R s m args below meth c H locs cells slots Q (F0 m (pc + 1) ls (.int (Int32.ofNat L) :: rest))) : W p l e R s m args below meth c H locs cells slots Q (F0 m pc ls (.ref b :: rest)) :=
  va_slen hx hb hX hbl hbA hw.2.2.2 hdg kk
end VWO
/-- a join: what follows is named once -/
def letJ {S : Type} (K : S → Prop) (F : (S → Prop) → Prop) : Prop := F K
theorem letJ_W {S : Type} {K : S → Prop} {F : (S → Prop) → Prop} {goal : Prop} (G : S → Prop) (h : letJ K F) (hK : ∀ x, K x → G x) (hF : ∀ J : S → Prop, (∀ x, J x → G x) → F J → goal) : goal := hF K hK h
theorem letK_W {S T : Type} {K : S → Prop} {body : (S → Prop) → (T → Prop) → T → Prop} {n : Nat} {t : T} {goal : Prop} (G : S → Prop) (h : loop (body K) n t) (hK : ∀ x, K x → G x) (hF : ∀ K' : S → Prop, (∀ x, K' x → G x) → loop (body K') n t → goal) : goal := hF K hK h
theorem tbl_out {x : Int32} {hi : Int} (h : ∀ k : Nat, (k : Int) ≤ hi → ¬ x = Int32.ofNat k) : x.toInt < 0 ∨ hi < x.toInt := by
  by_cases h1 : x.toInt < 0
  · exact Or.inl h1
  · refine Or.inr (Int.not_le.mp fun h2 => ?_)
    refine h x.toInt.toNat (by omega) ?_
    have h3 : ((x.toInt.toNat : Nat) : Int) = x.toInt := Int.toNat_of_nonneg (by omega)
    have h4 : Int32.ofInt ((x.toInt.toNat : Nat) : Int) = x := by rw [h3, Int32.ofInt_toInt]
    exact h4.symm
theorem ci_0 {i : Nat} (h : i < 1) : i < cnt 0 := h
theorem bi_0 {i n : Nat} (h : i < 1) (hn : 115 ≤ n) : bas 0 + i < n := show 0 + i < n by omega
theorem ci_1 {i : Nat} (h : i < 1) : i < cnt 1 := h
theorem bi_1 {i n : Nat} (h : i < 1) (hn : 115 ≤ n) : bas 1 + i < n := show 1 + i < n by omega
theorem ci_2 {i : Nat} (h : i < 1) : i < cnt 2 := h
theorem bi_2 {i n : Nat} (h : i < 1) (hn : 115 ≤ n) : bas 2 + i < n := show 2 + i < n by omega
theorem ci_3 {i : Nat} (h : i < 1) : i < cnt 3 := h
theorem bi_3 {i n : Nat} (h : i < 1) (hn : 115 ≤ n) : bas 3 + i < n := show 3 + i < n by omega
theorem ci_4 {i : Nat} (h : i < 1) : i < cnt 4 := h
theorem bi_4 {i n : Nat} (h : i < 1) (hn : 115 ≤ n) : bas 4 + i < n := show 4 + i < n by omega
theorem ci_5 {i : Nat} (h : i < 2) : i < cnt 5 := h
theorem bi_5 {i n : Nat} (h : i < 2) (hn : 115 ≤ n) : bas 5 + i < n := show 5 + i < n by omega
theorem ci_6 {i : Nat} (h : i < 2) : i < cnt 6 := h
theorem bi_6 {i n : Nat} (h : i < 2) (hn : 115 ≤ n) : bas 6 + i < n := show 7 + i < n by omega
theorem ci_7 {i : Nat} (h : i < 2) : i < cnt 7 := h
theorem bi_7 {i n : Nat} (h : i < 2) (hn : 115 ≤ n) : bas 7 + i < n := show 9 + i < n by omega
theorem ci_8 {i : Nat} (h : i < 2) : i < cnt 8 := h
theorem bi_8 {i n : Nat} (h : i < 2) (hn : 115 ≤ n) : bas 8 + i < n := show 11 + i < n by omega
theorem ci_9 {i : Nat} (h : i < 2) : i < cnt 9 := h
theorem bi_9 {i n : Nat} (h : i < 2) (hn : 115 ≤ n) : bas 9 + i < n := show 13 + i < n by omega
theorem ci_10 {i : Nat} (h : i < 2) : i < cnt 10 := h
theorem bi_10 {i n : Nat} (h : i < 2) (hn : 115 ≤ n) : bas 10 + i < n := show 15 + i < n by omega
theorem ci_11 {i : Nat} (h : i < 10) : i < cnt 11 := h
theorem bi_11 {i n : Nat} (h : i < 10) (hn : 115 ≤ n) : bas 11 + i < n := show 17 + i < n by omega
theorem ci_12 {i : Nat} (h : i < 48) : i < cnt 12 := h
theorem bi_12 {i n : Nat} (h : i < 48) (hn : 115 ≤ n) : bas 12 + i < n := show 27 + i < n by omega
theorem ci_13 {i : Nat} (h : i < 10) : i < cnt 13 := h
theorem bi_13 {i n : Nat} (h : i < 10) (hn : 115 ≤ n) : bas 13 + i < n := show 75 + i < n by omega
theorem ci_14 {i : Nat} (h : i < 10) : i < cnt 14 := h
theorem bi_14 {i n : Nat} (h : i < 10) (hn : 115 ≤ n) : bas 14 + i < n := show 85 + i < n by omega
theorem ci_15 {i : Nat} (h : i < 10) : i < cnt 15 := h
theorem bi_15 {i n : Nat} (h : i < 10) (hn : 115 ≤ n) : bas 15 + i < n := show 95 + i < n by omega
theorem ci_16 {i : Nat} (h : i < 10) : i < cnt 16 := h
theorem bi_16 {i n : Nat} (h : i < 10) (hn : 115 ≤ n) : bas 16 + i < n := show 105 + i < n by omega
theorem ci_17 {i : Nat} (h : i < 1) : i < cnt 17 := h
theorem bi_17 {i n : Nat} (h : i < 1) (hn : 116 ≤ n) : bas 17 + i < n := show 115 + i < n by omega
theorem r_48 {p k : Nat} (hp : p < 2) (hk : k < 24) : 24 * p + k < 48 := by omega
