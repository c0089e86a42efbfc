/-! constructors: worlds that grow, at addresses that are variables: the cells that were there (ws), the object under way (place o), the cells made so far (l) -/
def nf (ws : va_W) (o : Nat) (x : Nat × va_E) (l : va_W) : va_W := ws.set o x ++ l
theorem nf_at {ws : va_W} {o : Nat} {x : Nat × va_E} {l : va_W} (ho : o < ws.length) : (nf ws o x l)[o]? = some x := by
  unfold nf
  rw [List.getElem?_append_left (by rw [List.length_set]; exact ho), List.getElem?_set, if_pos rfl, if_pos ho]
theorem nf_at2 {ws : va_W} {o : Nat} {x : Nat × va_E} {l : va_W} (j : Nat) : (nf ws o x l)[ws.length + j]? = l[j]? := by
  unfold nf
  rw [List.getElem?_append_right (by rw [List.length_set]; omega), List.length_set, Nat.add_sub_cancel_left]
theorem nf_set {ws : va_W} {o : Nat} {x : Nat × va_E} {l : va_W} (y : Nat × va_E) (ho : o < ws.length) : (nf ws o x l).set o y = nf ws o y l := by
  unfold nf
  rw [List.set_append_left _ _ (by rw [List.length_set]; exact ho), List.set_set]
theorem nf_set2 {ws : va_W} {o : Nat} {x : Nat × va_E} {l : va_W} (j : Nat) (y : Nat × va_E) : (nf ws o x l).set (ws.length + j) y = nf ws o x (l.set j y) := by
  unfold nf
  rw [List.set_append_right _ _ (by rw [List.length_set]; omega), List.length_set, Nat.add_sub_cancel_left]
theorem nf_app {ws : va_W} {o : Nat} {x : Nat × va_E} {l l2 : va_W} : nf ws o x l ++ l2 = nf ws o x (l ++ l2) := by unfold nf; rw [List.append_assoc]
theorem nf_in {ws : va_W} {o : Nat} {x : Nat × va_E} (h : ws[o]? = some x) : ws = nf ws o x [] := by
  unfold nf
  rw [List.append_nil]
  apply List.ext_getElem?
  intro i
  rw [List.getElem?_set]
  by_cases e : o = i
  · subst e
    rw [if_pos rfl, if_pos (List.getElem?_eq_some_iff.mp h).1, h]
  · rw [if_neg e]
def nstK : List (String × Nat × MethodName × String) := [(RX11, 9, yX4_init, "ThreeThrough"), (RX11, 18, yX8_init, "ThreeThrough"), (RX6, 17, yX5_init, "ThreeThrough"), (RX9, 9, yX5_init, "ThreeThrough"), (RX11, 38, yX3_init, "ThreeThrough"), (RX11, 64, yX1_init, "ThreeThrough"), (RX11, 75, yX0_init, "ThreeThrough"), (RX11, 86, yX10_init, "ThreeThrough")]
def nsk (U : State) : Prop := ∀ q ∈ nstK, va_Nw (.methodLinkNest q.1 q.2.1 q.2.2.1 q.2.2.2) U
def Kx (G : GG) (z : Nat) (own : String) (cc : ByteArray) (nL : Nat) (ret : Option FieldType) (d mc ms : Nat) (X : XX) : Prop :=
  X.1.tables.exec = Jvm.exec ∧ X.2.2.2.2.2.2.2.2.2.code = cc ∧ X.2.2.2.2.2.2.2.2.2.maxLocals = nL ∧ X.2.2.2.2.2.2.2.2.1.sig.returnType = ret ∧ X.2.2.2.2.2.2.2.2.1.locks = false ∧
  X.2.2.2.2.1.vm.findClass own = some X.2.2.2.2.2.1.cls ∧ (∀ w ∈ WS, w.before X.2.2.2.2.2.2.1 X.2.2.2.2.1 = true) ∧ va_K (G.2.2.1, G.2.2.2) vwCl (tyG G) X.2.2.2.2.1 ∧ (va_AO "ThreeThrough$Shelf" X.2.2.2.2.1 ∧ z ≤ X.2.2.2.2.1.heap.size ∧ nsk X.2.2.2.2.1) ∧
  d ≤ X.2.2.2.1.frames ∧ 64 * d ≤ X.2.2.2.1.locals ∧ mc ≤ X.2.2.2.1.cells ∧ ms ≤ X.2.2.2.1.slots
def K0 (G : GG) (z : Nat) (X : XX) (kc ks : Nat) (Z : State → Prop) (pc : Nat) (lo : List (Option Value)) (st : List Value) (ws : va_W) : Prop :=
  ∀ (H : Heap) (locs : List Loc) (ls : Array Slot), lR ls lo → va_P (G.2.2.1, G.2.2.2) vwCl ws H → va_D (fun q => z ≤ q) ws → va_S (fun q => z ≤ q) X.2.2.2.2.1.heap H locs →
    W X.1 X.2.1 X.2.2.1 X.2.2.2.1 X.2.2.2.2.1 X.2.2.2.2.2.1 X.2.2.2.2.2.2.1 X.2.2.2.2.2.2.2.1 X.2.2.2.2.2.2.2.2.1 X.2.2.2.2.2.2.2.2.2 H locs kc ks Z (F0 X.2.2.2.2.2.1 pc ls st)
section KK
variable {G : GG} {z : Nat} {X : XX} {own : String} {cc : ByteArray} {nL d mc ms kc ks : Nat} {ret : Option FieldType} {Z : State → Prop} {pc : Nat} {lo : List (Option Value)} {st : List Value} {ws : va_W}
theorem k_aload_n {i : Fin 4} {x : Nat} (C : Kx G z own cc nL ret d mc ms X) (dd : decode cc pc = .ok (.aload_n i, 1)) (hl0 : lo[(i : Nat)]? = some (some (.ref x))) (k : K0 G z X kc ks Z (pc + 1) lo (.ref x :: st) ws) : K0 G z X kc ks Z pc lo st ws := fun H locs ls hl hP hD hS => lv_aload_n C.1 C.2.1 dd rfl (hl.2.2 _ _ hl0) (k H locs ls hl hP hD hS)
theorem k_iload_n {i : Fin 4} {x : Int32} (C : Kx G z own cc nL ret d mc ms X) (dd : decode cc pc = .ok (.iload_n i, 1)) (hl0 : lo[(i : Nat)]? = some (some (.int x))) (k : K0 G z X kc ks Z (pc + 1) lo (.int x :: st) ws) : K0 G z X kc ks Z pc lo st ws := fun H locs ls hl hP hD hS => lv_iload_n C.1 C.2.1 dd rfl (hl.2.2 _ _ hl0) (k H locs ls hl hP hD hS)
theorem k_iconst {n : Int} (v : Int32) (C : Kx G z own cc nL ret d mc ms X) (dd : decode cc pc = .ok (.iconst n, 1)) (hv : Int32.ofInt n = v) (k : K0 G z X kc ks Z (pc + 1) lo (.int v :: st) ws) : K0 G z X kc ks Z pc lo st ws := fun H locs ls hl hP hD hS => lv_iconst C.1 C.2.1 dd hv (k H locs ls hl hP hD hS)
theorem k_bipush {n : Int} (v : Int32) (C : Kx G z own cc nL ret d mc ms X) (dd : decode cc pc = .ok (.bipush n, 2)) (hv : (Int8.ofInt n).toInt32 = v) (k : K0 G z X kc ks Z (pc + 2) lo (.int v :: st) ws) : K0 G z X kc ks Z pc lo st ws := fun H locs ls hl hP hD hS => lv_bipush C.1 C.2.1 dd hv (k H locs ls hl hP hD hS)
theorem k_sipush {n : Int} (v : Int32) (C : Kx G z own cc nL ret d mc ms X) (dd : decode cc pc = .ok (.sipush n, 3)) (hv : (Int16.ofInt n).toInt32 = v) (k : K0 G z X kc ks Z (pc + 3) lo (.int v :: st) ws) : K0 G z X kc ks Z pc lo st ws := fun H locs ls hl hP hD hS => lv_sipush C.1 C.2.1 dd hv (k H locs ls hl hP hD hS)
theorem k_dup {va : Value} (C : Kx G z own cc nL ret d mc ms X) (dd : decode cc pc = .ok (.dup, 1)) (hva : va.category = 1) (k : K0 G z X kc ks Z (pc + 1) lo (va :: va :: st) ws) : K0 G z X kc ks Z pc lo (va :: st) ws := fun H locs ls hl hP hD hS => lv_dup C.1 C.2.1 dd hva (k H locs ls hl hP hD hS)
theorem k_goto {off : Int} (tgt : Nat) (C : Kx G z own cc nL ret d mc ms X) (dd : decode cc pc = .ok (.goto off, 3)) (ht : (pc : Int) + off = (tgt : Int)) (k : K0 G z X kc ks Z tgt lo st ws) : K0 G z X kc ks Z pc lo st ws := fun H locs ls hl hP hD hS => lv_goto C.1 C.2.1 dd ht (k H locs ls hl hP hD hS)
theorem k_icmp_ge {off : Int} {x y : Int32} (tgt : Nat) (C : Kx G z own cc nL ret d mc ms X) (dd : decode cc pc = .ok (.if_icmp .ge off, 3)) (ht : (pc : Int) + off = (tgt : Int)) (kt : y ≤ x → K0 G z X kc ks Z tgt lo st ws) (kf : ¬ y ≤ x → K0 G z X kc ks Z (pc + 3) lo st ws) : K0 G z X kc ks Z pc lo (.int y :: .int x :: st) ws := fun H locs ls hl hP hD hS => lv_icmp_ge C.1 C.2.1 dd ht (fun q => kt q H locs ls hl hP hD hS) (fun q => kf q H locs ls hl hP hD hS)
theorem k_istore_n {i : Fin 4} {x : Int32} (lo' : List (Option Value)) (C : Kx G z own cc nL ret d mc ms X) (dd : decode cc pc = .ok (.istore_n i, 1)) (hi : (i : Nat) < lo.length) (hc : lcOK lo (i : Nat) = true) (hs : lo.set (i : Nat) (some (.int x)) = lo') (k : K0 G z X kc ks Z (pc + 1) lo' st ws) : K0 G z X kc ks Z pc lo (.int x :: st) ws := fun H locs ls hl hP hD hS => lv_istore_n C.1 C.2.1 dd rfl hl.has hi rfl (fun ls' hl' => k H locs ls' (hs ▸ lR.st hi (lcOK_use hc) hl') hP hD hS)
theorem k_astore_n {i : Fin 4} {x : Nat} (lo' : List (Option Value)) (C : Kx G z own cc nL ret d mc ms X) (dd : decode cc pc = .ok (.astore_n i, 1)) (hi : (i : Nat) < lo.length) (hc : lcOK lo (i : Nat) = true) (hs : lo.set (i : Nat) (some (.ref x)) = lo') (k : K0 G z X kc ks Z (pc + 1) lo' st ws) : K0 G z X kc ks Z pc lo (.ref x :: st) ws := fun H locs ls hl hP hD hS => lv_astore_n C.1 C.2.1 dd rfl hl.has hi rfl (fun ls' hl' => k H locs ls' (hs ▸ lR.st hi (lcOK_use hc) hl') hP hD hS)
theorem k_obj {idx a : Nat} (C : Kx G z own cc nL ret d mc ms X) (hw : Cond.methodLink own idx Lib.objectInit ∈ WS ∧ Cond.instanceMethod Lib.objectInit ∈ WS ∧ Cond.code Lib.objectInit ⟨#[0xb1]⟩ 1 none ∈ WS) (hlo : lo.length = nL) (hd : 1 ≤ d) (dd : decode cc pc = .ok (.invokespecial idx, 3)) (k : K0 G z X kc ks Z (pc + 3) lo [] ws) : K0 G z X kc ks Z pc lo [.ref a] ws := fun H locs ls hl hP hD hS =>
  W.objInit C.1 C.2.1 C.2.2.2.2.2.1 (C.2.2.2.2.2.2.1 _ hw.1) (C.2.2.2.2.2.2.1 _ hw.2.1) (C.2.2.2.2.2.2.1 _ hw.2.2) rfl (by rw [C.2.2.1]; exact hl.1.trans hlo) rfl dd (Nat.le_trans hd C.2.2.2.2.2.2.2.2.2.1) (by have := C.2.2.2.2.2.2.2.2.2.2.1; have e : 2 * (F0 X.2.2.2.2.2.1 pc ls [Value.ref a]).monitorRoom + (([] : List Value).map fun v => v.category).sum ≤ 8 := lv_room (by decide); omega) (k H locs ls hl hP hD hS)
theorem k_new {ci N index : Nat} {T : u_T} {Cn : String} {ty : Nat → FieldType} (fs : List Value) (C : Kx G z own cc nL ret d mc ms X) (hq : vwCl[ci]? = some (Cn, T, N)) (hin : ∀ w ∈ u_ws Cn T N, w ∈ WS) (hty : ∀ k, k < N → parseFieldDescriptor (T k).2.2.1 = some (ty k)) (hw : Cond.classLink own index Cn ∈ WS ∧ Cond.instantiable Cn N ∈ WS ∧ Cond.initialized Cn ∈ WS) (hfs : ∀ j, j < N → defaultValue (ty j) = vp_V fs j) (hr : kc + 1 ≤ mc ∧ ks + N ≤ ms) (dd : decode cc pc = .ok (.new index, 3)) (k : ∀ q : Nat, K0 G z X (kc + 1) (ks + N) Z (pc + 3) lo (.ref q :: st) (ws ++ [(q, .inr (ci, fs))])) : K0 G z X kc ks Z pc lo st ws := fun H locs ls hl hP hD hS =>
  va_new C.1 C.2.1 C.2.2.2.2.2.2.1 hin ty hty C.2.2.2.2.2.1 (C.2.2.2.2.2.2.1 _ hw.1) (C.2.2.2.2.2.2.1 _ hw.2.1) (C.2.2.2.2.2.2.1 _ hw.2.2) C.2.2.2.2.2.2.2.1 hP hD hS (fun q h => Nat.le_trans C.2.2.2.2.2.2.2.2.1.2.1 h) hq hfs (Nat.le_trans hr.1 C.2.2.2.2.2.2.2.2.2.2.2.1) (Nat.le_trans hr.2 C.2.2.2.2.2.2.2.2.2.2.2.2) dd (fun q H1 hP1 hD1 hS1 => k q H1 locs ls hl hP1 hD1 hS1)
theorem ra_eq {U : State} {c1 c2 : ClassId} {ty : FieldType} (h : ∀ cA, va_RA U cA ty → U.vm.findClass ("[" ++ ty.toString) = some cA) (h1 : va_RA U c1 ty) (h2 : va_RA U c2 ty) : c1 = c2 := Option.some.inj ((h c1 h1).symm.trans (h c2 h2))
theorem k_newa {atype : ArrayType} {ty : FieldType} {n : Int32} {N : Nat} (a0 : vp_A) (t0 kA : Nat) (C : Kx G z own cc nL ret d mc ms X) (hty : newarray.typeOf atype = ty) (hw : Cond.arrayClass (newarray.typeOf atype) ∈ WS) (ht : (tyG G)[t0]? = some (G.2.1 kA, ty)) (hra : ∀ cA, va_RA X.2.2.2.2.1 cA ty → X.2.2.2.2.1.vm.findClass ("[" ++ ty.toString) = some cA) (ha : ∀ cA : ClassId, vp_cell cA a0 = arrV cA N (fun _ => defaultValue ty)) (hn : ¬ n < 0) (hN : n.toNatClampNeg = N) (hbytes : N * componentBytes ty ≤ 536870912) (hr : kc + 1 ≤ mc ∧ ks + N ≤ ms) (dd : decode cc pc = .ok (.newarray atype, 2)) (k : ∀ q : Nat, K0 G z X (kc + 1) (ks + N) Z (pc + 2) lo (.ref q :: st) (ws ++ [(q, .inl (G.2.1 kA, a0))])) : K0 G z X kc ks Z pc lo (.int n :: st) ws := fun H locs ls hl hP hD hS =>
  va_newa C.1 C.2.1 (C.2.2.2.2.2.2.1 _ hw) hty C.2.2.2.2.2.2.2.1 hP hD hS (fun q h => Nat.le_trans C.2.2.2.2.2.2.2.2.1.2.1 h) ha hn hN hbytes (Nat.le_trans hr.1 C.2.2.2.2.2.2.2.2.2.2.2.1) (Nat.le_trans hr.2 C.2.2.2.2.2.2.2.2.2.2.2.2) dd (fun q cA H1 hK1 hP1 hD1 hS1 => by
    have e : cA = G.2.1 kA := ra_eq hra (hK1.2 (tyG G).length (cA, ty) (by rw [List.getElem?_append_right (Nat.le_refl _), Nat.sub_self]; rfl)).2 (C.2.2.2.2.2.2.2.1.2 t0 _ ht).2
    subst e
    exact k q H1 locs ls hl hP1 hD1 hS1)
theorem k_newq {index : Nat} {n : Int32} {N : Nat} (C : Kx G z own cc nL ret d mc ms X) (hw : Cond.classLink own index "ThreeThrough$Shelf" ∈ WS) (hn : ¬ n < 0) (hN : n.toNatClampNeg = N) (hbytes : N * 4 ≤ 536870912) (hr : kc + 1 ≤ mc ∧ ks + N ≤ ms) (dd : decode cc pc = .ok (.anewarray index, 3)) (k : ∀ q : Nat, K0 G z X (kc + 1) (ks + N) Z (pc + 3) lo (.ref q :: st) (ws ++ [(q, .inl (G.2.1 25, N, .inr (.inr (.inr (.inr (fun _ => none))))))])) : K0 G z X kc ks Z pc lo (.int n :: st) ws := fun H locs ls hl hP hD hS =>
  va_newq C.1 C.2.1 C.2.2.2.2.2.1 (C.2.2.2.2.2.2.1 _ hw) C.2.2.2.2.2.2.2.2.1.1 C.2.2.2.2.2.2.2.1 hP hD hS (fun q h => Nat.le_trans C.2.2.2.2.2.2.2.2.1.2.1 h) hn hN hbytes (Nat.le_trans hr.1 C.2.2.2.2.2.2.2.2.2.2.2.1) (Nat.le_trans hr.2 C.2.2.2.2.2.2.2.2.2.2.2.2) dd (fun q cA H1 hK1 hP1 hD1 hS1 => by
    have e : cA = G.2.1 25 := ra_eq (ty := .object "ThreeThrough$Shelf") (fun c h => by obtain ⟨kA, comp, -, -, -, h4⟩ := h; exact h4) (hK1.2 (tyG G).length (cA, .object "ThreeThrough$Shelf") (by rw [List.getElem?_append_right (Nat.le_refl _), Nat.sub_self]; rfl)).2 (C.2.2.2.2.2.2.2.1.2 5 _ rfl).2
    subst e
    exact k q H1 locs ls hl hP1 hD1 hS1)
theorem k_put {a o ci k0 index N : Nat} {T : u_T} {Cn : String} {ty0 : Nat → FieldType} {fs : List Value} {v : Value} (C : Kx G z own cc nL ret d mc ms X) (hq : vwCl[ci]? = some (Cn, T, N) ∧ k0 < N) (hin : ∀ w ∈ u_ws Cn T N, w ∈ WS) (hty : ∀ k, k < N → parseFieldDescriptor (T k).2.2.1 = some (ty0 k)) (hnm : ∀ a, a < N → ∀ b, b < N → a ≠ b → (T a).2.1 ≠ (T b).2.1) (hp : (T k0).2.2.2 = false) (hw : Cond.fieldLink own index (T k0).1 (T k0).2.1 (T k0).2.2.1 ∈ WS) (he : ws[o]? = some (a, .inr (ci, fs))) (hl0 : k0 < fs.length) (hn : narrow (ty0 k0) v = v ∧ fits (ty0 k0) v = true) (dd : decode cc pc = .ok (.putfield index, 3)) (k : K0 G z X kc ks Z (pc + 3) lo st (ws.set o (a, .inr (ci, fs.set k0 v)))) : K0 G z X kc ks Z pc lo (v :: .ref a :: st) ws := fun H locs ls hl hP hD hS =>
  va_put C.1 C.2.1 C.2.2.2.2.2.2.1 hin ty0 hty hnm C.2.2.2.2.2.1 C.2.2.2.2.2.2.2.1 hP hD hS o he hq.1 k0 hq.2 (C.2.2.2.2.2.2.1 _ hw) (fun _ y => y) hp (hty k0 hq.2) hn.1 hn.2 hl0 dd (fun H1 locs1 hP1 hD1 hS1 => k H1 locs1 ls hl hP1 hD1 hS1)
theorem k_putF {a o ci k0 index N : Nat} {T : u_T} {Cn : String} {ty0 : Nat → FieldType} {fs : List Value} {v : Value} (C : Kx G z own cc nL ret d mc ms X) (hI : X.2.2.2.2.2.2.2.2.1.name = "<init>") (hq : vwCl[ci]? = some (Cn, T, N) ∧ k0 < N) (hin : ∀ w ∈ u_ws Cn T N, w ∈ WS) (hty : ∀ k, k < N → parseFieldDescriptor (T k).2.2.1 = some (ty0 k)) (hnm : ∀ a, a < N → ∀ b, b < N → a ≠ b → (T a).2.1 ≠ (T b).2.1) (hp : (T k0).2.2.2 = true ∧ (T k0).1 = own) (hw : Cond.fieldLink own index (T k0).1 (T k0).2.1 (T k0).2.2.1 ∈ WS) (he : ws[o]? = some (a, .inr (ci, fs))) (hl0 : k0 < fs.length) (hn : narrow (ty0 k0) v = v ∧ fits (ty0 k0) v = true) (dd : decode cc pc = .ok (.putfield index, 3)) (k : K0 G z X kc ks Z (pc + 3) lo st (ws.set o (a, .inr (ci, fs.set k0 v)))) : K0 G z X kc ks Z pc lo (v :: .ref a :: st) ws := fun H locs ls hl hP hD hS =>
  va_putF C.1 C.2.1 C.2.2.2.2.2.2.1 hin ty0 hty hnm C.2.2.2.2.2.1 C.2.2.2.2.2.2.2.1 hP hD hS o he hq.1 k0 hq.2 (C.2.2.2.2.2.2.1 _ hw) (fun _ y => y) hp.1 hI hp.2 (hty k0 hq.2) hn.1 hn.2 hl0 dd (fun H1 locs1 hP1 hD1 hS1 => k H1 locs1 ls hl hP1 hD1 hS1)
theorem k_get {a o ci k0 index N : Nat} {T : u_T} {Cn : String} {fs : List Value} {v : Value} (C : Kx G z own cc nL ret d mc ms X) (hq : vwCl[ci]? = some (Cn, T, N) ∧ k0 < N) (hin : ∀ w ∈ u_ws Cn T N, w ∈ WS) (hw : Cond.fieldLink own index (T k0).1 (T k0).2.1 (T k0).2.2.1 ∈ WS) (he : ws[o]? = some (a, .inr (ci, fs))) (hv : fs[k0]? = some v) (dd : decode cc pc = .ok (.getfield index, 3)) (k : K0 G z X kc ks Z (pc + 3) lo (v :: st) ws) : K0 G z X kc ks Z pc lo (.ref a :: st) ws := fun H locs ls hl hP hD hS =>
  va_get C.1 C.2.1 C.2.2.2.2.2.2.1 hin C.2.2.2.2.2.1 C.2.2.2.2.2.2.2.1 hP o he hq.1 k0 hq.2 (C.2.2.2.2.2.2.1 _ hw) (fun _ y => y) hv dd (k H locs ls hl hP hD hS)
theorem k_iast {a j n : Nat} {f : Nat → Int32} {i x : Int32} (C : Kx G z own cc nL ret d mc ms X) (he : ws[j]? = some (a, .inl (G.2.1 20, n, .inl f))) (hi : vp_in i n) (dd : decode cc pc = .ok (.iastore, 1)) (k : K0 G z X kc ks Z (pc + 1) lo st (ws.set j (a, .inl (G.2.1 20, n, .inl (upd f i.toNatClampNeg x))))) : K0 G z X kc ks Z pc lo (.int x :: .int i :: .ref a :: st) ws := fun H locs ls hl hP hD hS =>
  va_iast C.1 C.2.1 C.2.2.2.2.2.2.2.1 hP hD hS j 0 he rfl hi dd (fun H1 locs1 hP1 hD1 hS1 => k H1 locs1 ls hl hP1 hD1 hS1)
theorem k_aast {a j jv n v : Nat} {vs : List Value} {f : Nat → Option Nat} {i : Int32} (C : Kx G z own cc nL ret d mc ms X) (he : ws[j]? = some (a, .inl (G.2.1 25, n, .inr (.inr (.inr (.inr f)))))) (hv : ws[jv]? = some (v, .inr (10, vs))) (hi : vp_in i n) (dd : decode cc pc = .ok (.aastore, 1)) (k : K0 G z X kc ks Z (pc + 1) lo st (ws.set j (a, .inl (G.2.1 25, n, .inr (.inr (.inr (.inr (va_up f i.toNatClampNeg (some v))))))))) : K0 G z X kc ks Z pc lo (.ref v :: .int i :: .ref a :: st) ws := fun H locs ls hl hP hD hS =>
  va_astq C.1 C.2.1 C.2.2.2.2.2.2.2.1 hP hD hS j 5 jv 10 (r := (RX10, TX10, 4)) he rfl hv rfl hi dd (fun H1 locs1 hP1 hD1 hS1 => k H1 locs1 ls hl hP1 hD1 hS1)
theorem k_world {ws' : va_W} (e : ws = ws') (k : K0 G z X kc ks Z pc lo st ws') : K0 G z X kc ks Z pc lo st ws := e ▸ k
def Pk (G : GG) (z : Nat) (ws : va_W) (U : State) : Prop := va_P (G.2.2.1, G.2.2.2) vwCl ws U.heap ∧ va_D (fun q => z ≤ q) ws ∧ va_K (G.2.2.1, G.2.2.2) vwCl (tyG G) U ∧ va_AO "ThreeThrough$Shelf" U ∧ z ≤ U.heap.size ∧ nsk U
def Qk (G : GG) (z : Nat) (B : va_W → Prop) : Array Value → State → Outcome → State → Prop := fun _ s0 oc t => (∃ ws' : va_W, oc = .returned none ∧ B ws' ∧ va_P (G.2.2.1, G.2.2.2) vwCl ws' t.heap ∧ va_D (fun q => z ≤ q) ws') ∧ va_F (fun q => z ≤ q) s0 t
def rmK (n mc ms : Nat) : Room := { frames := n, cells := mc, slots := ms, locals := 64 * n }
/-- a constructor's contract: from the cells ws it comes to cells that B allows -/
def KO (G : GG) (z n mc ms : Nat) (y : MethodName) (bytes : ByteArray) (mL : Nat) (av : List Value) (ws : va_W) (B : va_W → Prop) : Prop :=
  ∀ l : Launch, Met l y (.code y bytes mL none :: WS) (rmK n mc ms) (va_Pc av (Pk G z ws)) (Qk G z B) mc ms (fun q => z ≤ q)
def ZK (G : GG) (z mc ms : Nat) (B : va_W → Prop) (X : XX) : State → Prop := MQ X.2.2.2.2.2.2.2.1 (Qk G z B) X.2.2.2.2.2.2.1 X.2.2.2.2.1 mc ms (fun q => z ≤ q)
theorem KO_of {n mL : Nat} {y : MethodName} {bytes : ByteArray} {av : List Value} {B : va_W → Prop} (lo0 : List (Option Value)) (hy : plainName y.cls = true) (hyn : y.name = "<init>") (hlen : (lg_sl av).length ≤ mL) (hlo : (lg_sl av ++ List.replicate (mL - (lg_sl av).length) Slot.unset).map sOp = lo0)
    (body : ∀ X : XX, Kx G z y.cls bytes mL none n mc ms X → X.2.2.2.2.2.2.2.2.1.name = "<init>" → K0 G z X 0 0 (ZK G z mc ms B X) 0 lo0 [] ws) : KO G z n mc ms y bytes mL av ws B := by
  intro l
  refine Met.ofW (cc := bytes) (maxL := mL) (ret := none) hy rfl ?_
  intro p e s m args below meth c s₁ BB hml hv
  obtain ⟨rfl, hP, hD, hK, hao, hz, hnk⟩ := hv
  have hts : ∀ w ∈ WS, w.before av.toArray s = true := fun w hw => atoms_spec (ws := .code y bytes mL none :: WS) BB.pre w (List.mem_cons_of_mem _ hw)
  have hown : s.vm.findClass y.cls = some m.cls := findClass_of_methodNamed BB.named
  have hin : meth.name = "<init>" := (name_of_methodNamed BB.named BB.method).1.trans hyn
  have hC : Kx G z y.cls bytes mL none n mc ms (p, l, e, rmK n mc ms, s, m, av.toArray, below, meth, c) := ⟨BB.exec, BB.bytes, hml, BB.returns, BB.notSynchronized, hown, hts, hK, ⟨hao, hz, hnk⟩, Nat.le_refl _, Nat.le_refl _, Nat.le_refl _, Nat.le_refl _⟩
  rw [lg_entry_eq]
  have hl := lR_entry av hlen
  rw [hlo] at hl
  exact body _ hC hin s.heap [] _ hl hP hD va_S.rf
theorem k_vret {B : va_W → Prop} (C : Kx G z own cc nL none d mc ms X) (dd : decode cc pc = .ok (.return_, 1)) (h1 : kc ≤ mc) (h2 : ks ≤ ms) (hb : B ws) : K0 G z X kc ks (ZK G z mc ms B X) pc lo [] ws := fun H locs ls hl hP hD hS =>
  W.widen h1 h2 (W.vret C.1 C.2.1 C.2.2.2.1 (fun t ht _ => ⟨⟨ws, rfl, hb, by rw [ht]; exact hP, hD⟩, hS.F ht⟩) hS.2.2 dd C.2.2.2.2.1)
theorem k_init {b n mc1 ms1 mL np index : Nat} {y : MethodName} {bytes : ByteArray} {As st0 : List Value} {B : va_W → Prop} (C : Kx G z own cc nL ret d mc ms X)
    (hw : Cond.methodLink own index y ∈ WS ∧ Cond.instanceMethod y ∈ WS ∧ Cond.initialized y.cls ∈ WS ∧ Cond.code y bytes mL none ∈ WS) (hy : y.name = "<init>")
    (hd : y.cls ≠ "java/lang/invoke/MethodHandle" ∧ y.cls ≠ "java/lang/invoke/VarHandle" ∧ (parseMethodDescriptor y.desc).map (fun d => d.parameters.length) = some np) (hR : n + 1 ≤ d ∧ mL ≤ 45) (hr1 : kc + mc1 ≤ mc ∧ ks + ms1 ≤ ms) (dd : decode cc pc = .ok (.invokespecial index, 3))
    (hM : KO G z n mc1 ms1 y bytes mL (.ref b :: As) ws B) (hs : st0 = As.reverse ++ .ref b :: st) (hn : As.length = np) (hlo : lo.length = nL) (hr : (st.map fun v => v.category).sum ≤ 8) (k : ∀ ws' : va_W, B ws' → K0 G z X (kc + mc1) (ks + ms1) Z (pc + 3) lo st ws') : K0 G z X kc ks Z pc lo st0 ws := by
  obtain ⟨w1, w2, w3, w4⟩ := hw
  subst hs
  intro H locs ls hl hP hD hS
  obtain ⟨r1, r2⟩ := hR
  have c1 := C.2.2.2.2.2.2.2.2.2.1
  have c2 := C.2.2.2.2.2.2.2.2.2.2.1
  have hT : GoodIn WS (.code y bytes mL none :: WS) := ws_goodIn (fun w hw => by
    rcases List.mem_cons.mp hw with rfl | hw
    · exact w4
    · exact hw)
  have hrun := va_runI (rest := st) (g := F0 X.2.2.2.2.2.1 pc ls (As.reverse ++ .ref b :: st)) (cells := kc) (slots := ks) (e := X.2.2.1) (below := X.2.2.2.2.2.2.2.1) (meth := X.2.2.2.2.2.2.2.2.1) (locs := locs) (H := H) (R := X.2.2.2.1) ⟨C.1, C.2.1, C.2.2.1, C.2.2.2.2.2.1, C.2.2.2.2.2.2.1⟩ (hM X.2.1) (cwI (rm := rmK n mc1 ms1) (mc := mc1) (ms := ms1) np C.2.2.2.2.2.2.1 hT rfl rfl rfl (C.2.2.2.2.2.2.1 _ w3) (C.2.2.2.2.2.2.1 _ w1) (C.2.2.2.2.2.2.1 _ w2) hy hd ⟨Nat.le_trans r1 c1, by show 8 + (mL + 11) + 64 * n ≤ _; omega⟩)
    ⟨fun a U g mk q => ⟨q.1, q.2.1, q.2.2.1, va_K.moved (u := U) (U := U.calling g mk a) (Vm.Alike.refl U.vm) q.2.2.2.1, va_AO.moved (u := U) (U := U.calling g mk a) (Vm.Alike.refl U.vm) q.2.2.2.2.1, q.2.2.2.2.2.1, fun x hx => va_Nw.same (u := U) (U := U.calling g mk a) rfl rfl (q.2.2.2.2.2.2 x hx)⟩, fun U hU hW => ⟨rfl, by rw [hU]; exact hP, hD, va_K.moved hW.alike C.2.2.2.2.2.2.2.1, va_AO.moved hW.alike C.2.2.2.2.2.2.2.2.1.1, by rw [hU]; exact Nat.le_trans C.2.2.2.2.2.2.2.2.1.2.1 hS.1, fun x hx => va_Nw.warmM hW (C.2.2.2.2.2.2.2.2.1.2.2 x hx)⟩⟩ rfl hn (hl.1.trans hlo) rfl (lv_room hr) dd ⟨by have := C.2.2.2.2.2.2.2.2.2.2.2.1; omega, by have := C.2.2.2.2.2.2.2.2.2.2.2.2; omega⟩
  intro T hT2 Xs
  obtain ⟨v, st₀, t, T', L, h0, X', hL, e1, e2, ⟨⟨ws', hv, hb, hP', hD'⟩, hz, hk⟩, step⟩ := hrun T hT2 Xs
  cases hv
  rw [h0] at hz hk
  obtain ⟨t2, a1, b1⟩ := k ws' hb T'.heap (locs ++ L) ls hl (by rw [e1]; exact hP') hD' ⟨Nat.le_trans hS.1 (by rw [e1]; exact hz), fun q h1 h2 => by rw [e1, hk q (Nat.lt_of_lt_of_le h1 hS.1) h2]; exact hS.2.1 q h1 h2, fun q hq' => by
      rcases List.mem_append.mp hq' with h | h
      · exact hS.2.2 q h
      · exact hL q h⟩ T' rfl X'
  exact ⟨t2, step t2 a1, b1⟩
theorem k_initN {host : String} {b n mc1 ms1 mL np index : Nat} {y : MethodName} {bytes : ByteArray} {As st0 : List Value} {B : va_W → Prop} (C : Kx G z own cc nL ret d mc ms X)
    (hw : (own, index, y, host) ∈ nstK ∧ Cond.instanceMethod y ∈ WS ∧ Cond.initialized y.cls ∈ WS ∧ Cond.code y bytes mL none ∈ WS) (hy : y.name = "<init>")
    (hd : y.cls ≠ "java/lang/invoke/MethodHandle" ∧ y.cls ≠ "java/lang/invoke/VarHandle" ∧ (parseMethodDescriptor y.desc).map (fun d => d.parameters.length) = some np) (hR : n + 1 ≤ d ∧ mL ≤ 45) (hr1 : kc + mc1 ≤ mc ∧ ks + ms1 ≤ ms) (dd : decode cc pc = .ok (.invokespecial index, 3))
    (hM : KO G z n mc1 ms1 y bytes mL (.ref b :: As) ws B) (hs : st0 = As.reverse ++ .ref b :: st) (hn : As.length = np) (hlo : lo.length = nL) (hr : (st.map fun v => v.category).sum ≤ 8) (k : ∀ ws' : va_W, B ws' → K0 G z X (kc + mc1) (ks + ms1) Z (pc + 3) lo st ws') : K0 G z X kc ks Z pc lo st0 ws := by
  obtain ⟨w1, w2, w3, w4⟩ := hw
  subst hs
  intro H locs ls hl hP hD hS
  obtain ⟨r1, r2⟩ := hR
  have c1 := C.2.2.2.2.2.2.2.2.2.1
  have c2 := C.2.2.2.2.2.2.2.2.2.2.1
  have hT : GoodIn WS (.code y bytes mL none :: WS) := ws_goodIn (fun w hw => by
    rcases List.mem_cons.mp hw with rfl | hw
    · exact w4
    · exact hw)
  have hrun := va_runIN (rest := st) (g := F0 X.2.2.2.2.2.1 pc ls (As.reverse ++ .ref b :: st)) (cells := kc) (slots := ks) (e := X.2.2.1) (below := X.2.2.2.2.2.2.2.1) (meth := X.2.2.2.2.2.2.2.2.1) (locs := locs) (H := H) (R := X.2.2.2.1) ⟨C.1, C.2.1, C.2.2.1, C.2.2.2.2.2.1, C.2.2.2.2.2.2.1⟩ (hM X.2.1) ⟨va_cnB (rm := rmK n mc1 ms1) (mc := mc1) (ms := ms1) np C.2.2.2.2.2.2.1 hT rfl rfl rfl (C.2.2.2.2.2.2.2.2.1.2.2 _ w1) (C.2.2.2.2.2.2.1 _ w3) hd ⟨Nat.le_trans r1 c1, by show 8 + (mL + 11) + 64 * n ≤ _; omega⟩, hy, C.2.2.2.2.2.2.1 _ w2⟩
    ⟨fun a U g mk q => ⟨q.1, q.2.1, q.2.2.1, va_K.moved (u := U) (U := U.calling g mk a) (Vm.Alike.refl U.vm) q.2.2.2.1, va_AO.moved (u := U) (U := U.calling g mk a) (Vm.Alike.refl U.vm) q.2.2.2.2.1, q.2.2.2.2.2.1, fun x hx => va_Nw.same (u := U) (U := U.calling g mk a) rfl rfl (q.2.2.2.2.2.2 x hx)⟩, fun U hU hW => ⟨rfl, by rw [hU]; exact hP, hD, va_K.moved hW.alike C.2.2.2.2.2.2.2.1, va_AO.moved hW.alike C.2.2.2.2.2.2.2.2.1.1, by rw [hU]; exact Nat.le_trans C.2.2.2.2.2.2.2.2.1.2.1 hS.1, fun x hx => va_Nw.warmM hW (C.2.2.2.2.2.2.2.2.1.2.2 x hx)⟩⟩ rfl hn (hl.1.trans hlo) rfl (lv_room hr) dd ⟨by have := C.2.2.2.2.2.2.2.2.2.2.2.1; omega, by have := C.2.2.2.2.2.2.2.2.2.2.2.2; omega⟩
  intro T hT2 Xs
  obtain ⟨v, st₀, t, T', L, h0, X', hL, e1, e2, ⟨⟨ws', hv, hb, hP', hD'⟩, hz, hk⟩, step⟩ := hrun T hT2 Xs
  cases hv
  rw [h0] at hz hk
  obtain ⟨t2, a1, b1⟩ := k ws' hb T'.heap (locs ++ L) ls hl (by rw [e1]; exact hP') hD' ⟨Nat.le_trans hS.1 (by rw [e1]; exact hz), fun q h1 h2 => by rw [e1, hk q (Nat.lt_of_lt_of_le h1 hS.1) h2]; exact hS.2.1 q h1 h2, fun q hq' => by
      rcases List.mem_append.mp hq' with h | h
      · exact hS.2.2 q h
      · exact hL q h⟩ T' rfl X'
  exact ⟨t2, step t2 a1, b1⟩
end KK
