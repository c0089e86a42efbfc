/-! what the law's entry gives: classes, arrays' classes, the two tables of Bodies -/
theorem arr_known {args : Array Value} {s : State} {ty : FieldType} (h : (Cond.arrayClass ty).before args s = true) : ∃ cA : ClassId, ArrOfT s cA ty ∧ s.vm.findClass ("[" ++ ty.toString) = some cA := by
  obtain ⟨c, k, comp, h1, h2, h3⟩ := Cond.arrayClass_spec h
  exact ⟨c, fun n z => ⟨fun k h => (by cases h), k, h2, comp, h3⟩, h1⟩
theorem shelf_known {args : Array Value} {s : State} (h : (Cond.arrayOver (.object "ThreeThrough$Shelf")).before args s = true) : ∃ cA : ClassId, ArrOfT s cA (.object "ThreeThrough$Shelf") ∧ va_RA s cA (.object "ThreeThrough$Shelf") := by
  obtain ⟨comp, c, k, h1, h2, h3, h4, h5⟩ := Cond.arrayOver_spec h
  exact ⟨c, fun n z => ⟨fun k h => (by cases h), k, h3, comp, h4⟩, k, comp, h3, h4, h1, h5⟩
set_option maxRecDepth 100000 in
theorem know_all {args : Array Value} {s : State} (hws : ∀ w ∈ WS, w.before args s = true) (hao : (Cond.arrayOver (.object "ThreeThrough$Shelf")).before args s = true) : ∃ (ka dC : Nat → ClassId) (dI : Nat → Nat → Nat), va_K (dC, dI) vwCl (tyG ((fun _ => 0), ka, dC, dI)) s := by
  obtain ⟨c0, i0, k0⟩ := u_known (C := RX0) (T := TX0) (N := 6) (n := 6) hws inX0 (hws _ we362)
  obtain ⟨c1, i1, k1⟩ := u_known (C := RX1) (T := TX1) (N := 6) (n := 6) hws inX1 (hws _ we332)
  obtain ⟨c2, i2, k2⟩ := u_known (C := RX2) (T := TX2) (N := 11) (n := 11) hws inX2 (hws _ we259)
  obtain ⟨c3, i3, k3⟩ := u_known (C := RX3) (T := TX3) (N := 4) (n := 4) hws inX3 (hws _ we236)
  obtain ⟨c4, i4, k4⟩ := u_known (C := RX4) (T := TX4) (N := 2) (n := 2) hws inX4 (hws _ we120)
  obtain ⟨c5, i5, k5⟩ := u_known (C := RX5) (T := TX5) (N := 5) (n := 5) hws inX5 (hws _ we175)
  obtain ⟨c6, i6, k6⟩ := u_known (C := RX6) (T := TX6) (N := 4) (n := 4) hws inX6 (hws _ we169)
  obtain ⟨c7, i7, k7⟩ := u_known (C := RX7) (T := TX7) (N := 7) (n := 7) hws inX7 (hws _ we304)
  obtain ⟨c8, i8, k8⟩ := u_known (C := RX8) (T := TX8) (N := 4) (n := 4) hws inX8 (hws _ we137)
  obtain ⟨c9, i9, k9⟩ := u_known (C := RX9) (T := TX9) (N := 5) (n := 5) hws inX9 (hws _ we198)
  obtain ⟨c10, i10, k10⟩ := u_known (C := RX10) (T := TX10) (N := 4) (n := 4) hws inX10 (hws _ we392)
  obtain ⟨c11, i11, k11⟩ := u_known (C := RX11) (T := TX11) (N := 14) (n := 14) hws inX11 (hws _ we112)
  obtain ⟨c12, i12, k12⟩ := u_known (C := RX12) (T := TX12) (N := 56) (n := 56) hws inX12 (hws _ we1055)
  obtain ⟨a20, b20, e20⟩ := arr_known (hws _ we135)
  obtain ⟨a21, b21, e21⟩ := arr_known (hws _ we389)
  obtain ⟨a22, b22, e22⟩ := arr_known (hws _ we1228)
  obtain ⟨a23, b23, e23⟩ := arr_known (hws _ we1229)
  obtain ⟨a24, b24, e24⟩ := arr_known (hws _ we1230)
  obtain ⟨a25, b25, e25⟩ := shelf_known hao
  refine ⟨fun k => if k = 20 then a20 else if k = 21 then a21 else if k = 22 then a22 else if k = 23 then a23 else if k = 24 then a24 else a25, fun k => [c0, c1, c2, c3, c4, c5, c6, c7, c8, c9, c10, c11, c12].getD k c0, fun k => [i0, i1, i2, i3, i4, i5, i6, i7, i8, i9, i10, i11, i12].getD k i0, fun c q hq => ?_, fun k q hq => ?_⟩
  · match c, hq with
    | 0, hq => cases hq; exact k0
    | 1, hq => cases hq; exact k1
    | 2, hq => cases hq; exact k2
    | 3, hq => cases hq; exact k3
    | 4, hq => cases hq; exact k4
    | 5, hq => cases hq; exact k5
    | 6, hq => cases hq; exact k6
    | 7, hq => cases hq; exact k7
    | 8, hq => cases hq; exact k8
    | 9, hq => cases hq; exact k9
    | 10, hq => cases hq; exact k10
    | 11, hq => cases hq; exact k11
    | 12, hq => cases hq; exact k12
    | n + 13, hq => simp [vwCl] at hq
  · match k, hq with
    | 0, hq => cases hq; exact ⟨b20, e20⟩
    | 1, hq => cases hq; exact ⟨b21, e21⟩
    | 2, hq => cases hq; exact ⟨b22, e22⟩
    | 3, hq => cases hq; exact ⟨b23, e23⟩
    | 4, hq => cases hq; exact ⟨b24, e24⟩
    | 5, hq => cases hq; exact ⟨b25, e25⟩
    | n + 6, hq => simp [tyG] at hq
theorem tbabove_mem : ∀ j, j < 8 → Cond.eq (.elem (.static "ThreeThrough$Bodies" "ABOVE" "[I") (.int (Int32.ofNat j))) (.int (abvL.getD j 0)) ∈ flatC (Jvm.Cond.and given_1 narrow_1) := by decide +kernel
theorem tbabove_known {args : Array Value} {s : State} {A : Nat → Prop} (hl : (Cond.laysStatic "ThreeThrough$Bodies" "ABOVE" "[I").before args s = true) (hini : (Cond.initialized "ThreeThrough$Bodies").before args s = true) (hgv : (Jvm.Cond.and given_1 narrow_1).before args s = true) (hA : ∀ a : Nat, a < s.heap.size → ¬ A a) : ∃ t : Nat, va_Z "ThreeThrough$Bodies" "ABOVE" "[I" (.ref t) A s s.heap ∧ va_T .int t 8 (fun j => .int (abvL.getD j 0)) A s s.heap := by
  have hf := flat_of_before _ hgv
  have hlen : (Term.length (.static "ThreeThrough$Bodies" "ABOVE" "[I")).eval args s none [] s = some (.int (Int32.ofNat 8)) := va_eqt (z := 8) (hf (.eq (.length (.static "ThreeThrough$Bodies" "ABOVE" "[I")) (.int 8)) (by decide +kernel))
  obtain ⟨t, e, hT⟩ := va_Tof (A := A) (tm := (.static "ThreeThrough$Bodies" "ABOVE" "[I")) (N := 8) (f := fun j => .int (abvL.getD j 0)) (by decide) (hf (.arrayOf (.static "ThreeThrough$Bodies" "ABOVE" "[I") .int) (by decide +kernel)) hlen (fun j hj => va_eqt (hf _ (tbabove_mem j hj))) hA
  exact ⟨t, va_Zof hl hini e hA, hT⟩
theorem tbown_mem : ∀ j, j < 32 → Cond.eq (.elem (.static "ThreeThrough$Bodies" "OWN" "[I") (.int (Int32.ofNat j))) (.int (ownL.getD j 0)) ∈ flatC (Jvm.Cond.and given_1 narrow_1) := by decide +kernel
theorem tbown_known {args : Array Value} {s : State} {A : Nat → Prop} (hl : (Cond.laysStatic "ThreeThrough$Bodies" "OWN" "[I").before args s = true) (hini : (Cond.initialized "ThreeThrough$Bodies").before args s = true) (hgv : (Jvm.Cond.and given_1 narrow_1).before args s = true) (hA : ∀ a : Nat, a < s.heap.size → ¬ A a) : ∃ t : Nat, va_Z "ThreeThrough$Bodies" "OWN" "[I" (.ref t) A s s.heap ∧ va_T .int t 32 (fun j => .int (ownL.getD j 0)) A s s.heap := by
  have hf := flat_of_before _ hgv
  have hlen : (Term.length (.static "ThreeThrough$Bodies" "OWN" "[I")).eval args s none [] s = some (.int (Int32.ofNat 32)) := va_eqt (z := 32) (hf (.eq (.length (.static "ThreeThrough$Bodies" "OWN" "[I")) (.int 32)) (by decide +kernel))
  obtain ⟨t, e, hT⟩ := va_Tof (A := A) (tm := (.static "ThreeThrough$Bodies" "OWN" "[I")) (N := 32) (f := fun j => .int (ownL.getD j 0)) (by decide) (hf (.arrayOf (.static "ThreeThrough$Bodies" "OWN" "[I") .int) (by decide +kernel)) hlen (fun j hj => va_eqt (hf _ (tbown_mem j hj))) hA
  exact ⟨t, va_Zof hl hini e hA, hT⟩
theorem arrV_agree {c : ClassId} {N : Nat} {f g : Nat → Value} (h : ∀ j, j < N → f j = g j) : arrV c N f = arrV c N g := by
  unfold arrV
  have e : (fun j : Fin N => f j.val) = (fun j : Fin N => g j.val) := funext (fun j => h j.val j.isLt)
  rw [e]
theorem nsk_known {args : Array Value} {s : State} (hts : ∀ w ∈ lw_tbl, w.before args s = true) : nsk s := by
  intro q hq
  simp only [nstK, List.mem_cons, List.not_mem_nil, or_false] at hq
  rcases hq with rfl | rfl | rfl | rfl | rfl | rfl | rfl | rfl
  · exact va_Nw.of rfl (hts _ (List.mem_of_getElem? (i := 121) (by decide +kernel)))
  · exact va_Nw.of rfl (hts _ (List.mem_of_getElem? (i := 138) (by decide +kernel)))
  · exact va_Nw.of rfl (hts _ (List.mem_of_getElem? (i := 176) (by decide +kernel)))
  · exact va_Nw.of rfl (hts _ (List.mem_of_getElem? (i := 204) (by decide +kernel)))
  · exact va_Nw.of rfl (hts _ (List.mem_of_getElem? (i := 237) (by decide +kernel)))
  · exact va_Nw.of rfl (hts _ (List.mem_of_getElem? (i := 333) (by decide +kernel)))
  · exact va_Nw.of rfl (hts _ (List.mem_of_getElem? (i := 363) (by decide +kernel)))
  · exact va_Nw.of rfl (hts _ (List.mem_of_getElem? (i := 393) (by decide +kernel)))
theorem nst_known {args : Array Value} {s : State} (hts : ∀ w ∈ lw_tbl, w.before args s = true) : nst s := by
  intro q hq
  simp only [nsts, List.mem_cons, List.not_mem_nil, or_false] at hq
  rcases hq with rfl | rfl | rfl | rfl | rfl
  · exact va_Nw.of rfl (hts _ (List.mem_of_getElem? (i := 475) (by decide +kernel)))
  · exact va_Nw.of rfl (hts _ (List.mem_of_getElem? (i := 691) (by decide +kernel)))
  · exact va_Nw.of rfl (hts _ (List.mem_of_getElem? (i := 709) (by decide +kernel)))
  · exact va_Nw.of rfl (hts _ (List.mem_of_getElem? (i := 749) (by decide +kernel)))
  · exact va_Nw.of rfl (hts _ (List.mem_of_getElem? (i := 763) (by decide +kernel)))
