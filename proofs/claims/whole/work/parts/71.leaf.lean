set_option maxHeartbeats 4000000 in
set_option maxRecDepth 100000 in
theorem sX4_init {G : GG} {z : Nat} {ws : va_W} {o a : Nat} (ho : ws[o]? = some (a, .inr (4, [.null, .int 0]))) : KO G z 1 1 3 yX4_init cX4_init 1 [.ref a] ws (fun w => ∃ q1 : Nat, w = nf ws o (a, .inr (4, [.ref q1, .int 0])) [(q1, .inl (G.2.1 20, 3, .inl (fun _ => 0)))]) := by
  refine KO_of [some (.ref a)] (by decide +kernel) rfl (Nat.le_of_ble_eq_true rfl) rfl ?_
  intro X C hI
  have ho1 : o < ws.length := (List.getElem?_eq_some_iff.mp ho).1
  refine k_world (nf_in ho) ?_
  refine k_aload_n C dX4_init_0 rfl ?_
  refine k_obj C ⟨we124, we117, we118⟩ rfl (by decide) dX4_init_1 ?_
  refine k_aload_n C dX4_init_4 rfl ?_
  refine k_iconst (3) C dX4_init_5 (by decide) ?_
  refine k_newa (atype := .int) (N := 3) (3, .inl (fun _ => 0)) 0 20 C rfl we135 rfl (fun _ h => h) (fun _ => rfl) (by decide +kernel) (by decide +kernel) (by decide +kernel) ⟨Nat.le_of_ble_eq_true rfl, Nat.le_of_ble_eq_true rfl⟩ dX4_init_6 (fun q1 => ?_)
  refine k_world (ws' := nf ws o (a, .inr (4, [.null, .int 0])) [(q1, .inl (G.2.1 20, 3, .inl (fun _ => 0)))]) nf_app ?_
  refine k_putF (ty0 := tyX4) (k0 := 0) C hI ⟨rfl, by decide⟩ inX4 tyX4_ok nmX4 ⟨rfl, rfl⟩ we125 (nf_at ho1) (Nat.le_of_ble_eq_true rfl) ⟨rfl, rfl⟩ dX4_init_8 ?_
  refine k_world (ws' := nf ws o (a, .inr (4, [.ref q1, .int 0])) [(q1, .inl (G.2.1 20, 3, .inl (fun _ => 0)))]) (nf_set _ ho1) ?_
  exact k_vret C dX4_init_11 (Nat.le_of_ble_eq_true rfl) (Nat.le_of_ble_eq_true rfl) ⟨q1, rfl⟩
set_option maxHeartbeats 4000000 in
set_option maxRecDepth 100000 in
theorem sX8_init {G : GG} {z : Nat} {ws : va_W} {o a : Nat} (ho : ws[o]? = some (a, .inr (8, [.null, .null, .null, .int 0]))) : KO G z 1 3 36 yX8_init cX8_init 1 [.ref a] ws (fun w => ∃ q1 q2 q3 : Nat, w = nf ws o (a, .inr (8, [.ref q1, .ref q2, .ref q3, .int 0])) [(q1, .inl (G.2.1 20, 12, .inl (fun _ => 0))), (q2, .inl (G.2.1 20, 12, .inl (fun _ => 0))), (q3, .inl (G.2.1 20, 12, .inl (fun _ => 0)))]) := by
  refine KO_of [some (.ref a)] (by decide +kernel) rfl (Nat.le_of_ble_eq_true rfl) rfl ?_
  intro X C hI
  have ho1 : o < ws.length := (List.getElem?_eq_some_iff.mp ho).1
  refine k_world (nf_in ho) ?_
  refine k_aload_n C dX8_init_0 rfl ?_
  refine k_obj C ⟨we141, we117, we118⟩ rfl (by decide) dX8_init_1 ?_
  refine k_aload_n C dX8_init_4 rfl ?_
  refine k_bipush (12) C dX8_init_5 (by decide) ?_
  refine k_newa (atype := .int) (N := 12) (12, .inl (fun _ => 0)) 0 20 C rfl we135 rfl (fun _ h => h) (fun _ => rfl) (by decide +kernel) (by decide +kernel) (by decide +kernel) ⟨Nat.le_of_ble_eq_true rfl, Nat.le_of_ble_eq_true rfl⟩ dX8_init_7 (fun q1 => ?_)
  refine k_world (ws' := nf ws o (a, .inr (8, [.null, .null, .null, .int 0])) [(q1, .inl (G.2.1 20, 12, .inl (fun _ => 0)))]) nf_app ?_
  refine k_putF (ty0 := tyX8) (k0 := 0) C hI ⟨rfl, by decide⟩ inX8 tyX8_ok nmX8 ⟨rfl, rfl⟩ we142 (nf_at ho1) (Nat.le_of_ble_eq_true rfl) ⟨rfl, rfl⟩ dX8_init_9 ?_
  refine k_world (ws' := nf ws o (a, .inr (8, [.ref q1, .null, .null, .int 0])) [(q1, .inl (G.2.1 20, 12, .inl (fun _ => 0)))]) (nf_set _ ho1) ?_
  refine k_aload_n C dX8_init_12 rfl ?_
  refine k_bipush (12) C dX8_init_13 (by decide) ?_
  refine k_newa (atype := .int) (N := 12) (12, .inl (fun _ => 0)) 0 20 C rfl we135 rfl (fun _ h => h) (fun _ => rfl) (by decide +kernel) (by decide +kernel) (by decide +kernel) ⟨Nat.le_of_ble_eq_true rfl, Nat.le_of_ble_eq_true rfl⟩ dX8_init_15 (fun q2 => ?_)
  refine k_world (ws' := nf ws o (a, .inr (8, [.ref q1, .null, .null, .int 0])) [(q1, .inl (G.2.1 20, 12, .inl (fun _ => 0))), (q2, .inl (G.2.1 20, 12, .inl (fun _ => 0)))]) nf_app ?_
  refine k_putF (ty0 := tyX8) (k0 := 1) C hI ⟨rfl, by decide⟩ inX8 tyX8_ok nmX8 ⟨rfl, rfl⟩ we145 (nf_at ho1) (Nat.le_of_ble_eq_true rfl) ⟨rfl, rfl⟩ dX8_init_17 ?_
  refine k_world (ws' := nf ws o (a, .inr (8, [.ref q1, .ref q2, .null, .int 0])) [(q1, .inl (G.2.1 20, 12, .inl (fun _ => 0))), (q2, .inl (G.2.1 20, 12, .inl (fun _ => 0)))]) (nf_set _ ho1) ?_
  refine k_aload_n C dX8_init_20 rfl ?_
  refine k_bipush (12) C dX8_init_21 (by decide) ?_
  refine k_newa (atype := .int) (N := 12) (12, .inl (fun _ => 0)) 0 20 C rfl we135 rfl (fun _ h => h) (fun _ => rfl) (by decide +kernel) (by decide +kernel) (by decide +kernel) ⟨Nat.le_of_ble_eq_true rfl, Nat.le_of_ble_eq_true rfl⟩ dX8_init_23 (fun q3 => ?_)
  refine k_world (ws' := nf ws o (a, .inr (8, [.ref q1, .ref q2, .null, .int 0])) [(q1, .inl (G.2.1 20, 12, .inl (fun _ => 0))), (q2, .inl (G.2.1 20, 12, .inl (fun _ => 0))), (q3, .inl (G.2.1 20, 12, .inl (fun _ => 0)))]) nf_app ?_
  refine k_putF (ty0 := tyX8) (k0 := 2) C hI ⟨rfl, by decide⟩ inX8 tyX8_ok nmX8 ⟨rfl, rfl⟩ we148 (nf_at ho1) (Nat.le_of_ble_eq_true rfl) ⟨rfl, rfl⟩ dX8_init_25 ?_
  refine k_world (ws' := nf ws o (a, .inr (8, [.ref q1, .ref q2, .ref q3, .int 0])) [(q1, .inl (G.2.1 20, 12, .inl (fun _ => 0))), (q2, .inl (G.2.1 20, 12, .inl (fun _ => 0))), (q3, .inl (G.2.1 20, 12, .inl (fun _ => 0)))]) (nf_set _ ho1) ?_
  exact k_vret C dX8_init_28 (Nat.le_of_ble_eq_true rfl) (Nat.le_of_ble_eq_true rfl) ⟨q1, q2, q3, rfl⟩
set_option maxHeartbeats 4000000 in
set_option maxRecDepth 100000 in
theorem sX5_init {G : GG} {z : Nat} {ws : va_W} {o a : Nat} (ho : ws[o]? = some (a, .inr (5, [.null, .null, .null, .int 0, .int 0]))) : KO G z 1 3 363 yX5_init cX5_init 1 [.ref a] ws (fun w => ∃ q1 q2 q3 : Nat, w = nf ws o (a, .inr (5, [.ref q1, .ref q2, .ref q3, .int 0, .int 0])) [(q1, .inl (G.2.1 20, 121, .inl (fun _ => 0))), (q2, .inl (G.2.1 20, 121, .inl (fun _ => 0))), (q3, .inl (G.2.1 20, 121, .inl (fun _ => 0)))]) := by
  refine KO_of [some (.ref a)] (by decide +kernel) rfl (Nat.le_of_ble_eq_true rfl) rfl ?_
  intro X C hI
  have ho1 : o < ws.length := (List.getElem?_eq_some_iff.mp ho).1
  refine k_world (nf_in ho) ?_
  refine k_aload_n C dX5_init_0 rfl ?_
  refine k_obj C ⟨we179, we117, we118⟩ rfl (by decide) dX5_init_1 ?_
  refine k_aload_n C dX5_init_4 rfl ?_
  refine k_bipush (121) C dX5_init_5 (by decide) ?_
  refine k_newa (atype := .int) (N := 121) (121, .inl (fun _ => 0)) 0 20 C rfl we135 rfl (fun _ h => h) (fun _ => rfl) (by decide +kernel) (by decide +kernel) (by decide +kernel) ⟨Nat.le_of_ble_eq_true rfl, Nat.le_of_ble_eq_true rfl⟩ dX5_init_7 (fun q1 => ?_)
  refine k_world (ws' := nf ws o (a, .inr (5, [.null, .null, .null, .int 0, .int 0])) [(q1, .inl (G.2.1 20, 121, .inl (fun _ => 0)))]) nf_app ?_
  refine k_putF (ty0 := tyX5) (k0 := 0) C hI ⟨rfl, by decide⟩ inX5 tyX5_ok nmX5 ⟨rfl, rfl⟩ we180 (nf_at ho1) (Nat.le_of_ble_eq_true rfl) ⟨rfl, rfl⟩ dX5_init_9 ?_
  refine k_world (ws' := nf ws o (a, .inr (5, [.ref q1, .null, .null, .int 0, .int 0])) [(q1, .inl (G.2.1 20, 121, .inl (fun _ => 0)))]) (nf_set _ ho1) ?_
  refine k_aload_n C dX5_init_12 rfl ?_
  refine k_bipush (121) C dX5_init_13 (by decide) ?_
  refine k_newa (atype := .int) (N := 121) (121, .inl (fun _ => 0)) 0 20 C rfl we135 rfl (fun _ h => h) (fun _ => rfl) (by decide +kernel) (by decide +kernel) (by decide +kernel) ⟨Nat.le_of_ble_eq_true rfl, Nat.le_of_ble_eq_true rfl⟩ dX5_init_15 (fun q2 => ?_)
  refine k_world (ws' := nf ws o (a, .inr (5, [.ref q1, .null, .null, .int 0, .int 0])) [(q1, .inl (G.2.1 20, 121, .inl (fun _ => 0))), (q2, .inl (G.2.1 20, 121, .inl (fun _ => 0)))]) nf_app ?_
  refine k_putF (ty0 := tyX5) (k0 := 1) C hI ⟨rfl, by decide⟩ inX5 tyX5_ok nmX5 ⟨rfl, rfl⟩ we181 (nf_at ho1) (Nat.le_of_ble_eq_true rfl) ⟨rfl, rfl⟩ dX5_init_17 ?_
  refine k_world (ws' := nf ws o (a, .inr (5, [.ref q1, .ref q2, .null, .int 0, .int 0])) [(q1, .inl (G.2.1 20, 121, .inl (fun _ => 0))), (q2, .inl (G.2.1 20, 121, .inl (fun _ => 0)))]) (nf_set _ ho1) ?_
  refine k_aload_n C dX5_init_20 rfl ?_
  refine k_bipush (121) C dX5_init_21 (by decide) ?_
  refine k_newa (atype := .int) (N := 121) (121, .inl (fun _ => 0)) 0 20 C rfl we135 rfl (fun _ h => h) (fun _ => rfl) (by decide +kernel) (by decide +kernel) (by decide +kernel) ⟨Nat.le_of_ble_eq_true rfl, Nat.le_of_ble_eq_true rfl⟩ dX5_init_23 (fun q3 => ?_)
  refine k_world (ws' := nf ws o (a, .inr (5, [.ref q1, .ref q2, .null, .int 0, .int 0])) [(q1, .inl (G.2.1 20, 121, .inl (fun _ => 0))), (q2, .inl (G.2.1 20, 121, .inl (fun _ => 0))), (q3, .inl (G.2.1 20, 121, .inl (fun _ => 0)))]) nf_app ?_
  refine k_putF (ty0 := tyX5) (k0 := 2) C hI ⟨rfl, by decide⟩ inX5 tyX5_ok nmX5 ⟨rfl, rfl⟩ we182 (nf_at ho1) (Nat.le_of_ble_eq_true rfl) ⟨rfl, rfl⟩ dX5_init_25 ?_
  refine k_world (ws' := nf ws o (a, .inr (5, [.ref q1, .ref q2, .ref q3, .int 0, .int 0])) [(q1, .inl (G.2.1 20, 121, .inl (fun _ => 0))), (q2, .inl (G.2.1 20, 121, .inl (fun _ => 0))), (q3, .inl (G.2.1 20, 121, .inl (fun _ => 0)))]) (nf_set _ ho1) ?_
  exact k_vret C dX5_init_28 (Nat.le_of_ble_eq_true rfl) (Nat.le_of_ble_eq_true rfl) ⟨q1, q2, q3, rfl⟩
set_option maxHeartbeats 4000000 in
set_option maxRecDepth 100000 in
theorem sX3_init {G : GG} {z : Nat} {ws : va_W} {o a : Nat} (ho : ws[o]? = some (a, .inr (3, [.null, .int 0, .int 0, .int 0]))) : KO G z 1 1 12 yX3_init cX3_init 1 [.ref a] ws (fun w => ∃ q1 : Nat, w = nf ws o (a, .inr (3, [.ref q1, .int 0, .int 0, .int 0])) [(q1, .inl (G.2.1 20, 12, .inl (fun _ => 0)))]) := by
  refine KO_of [some (.ref a)] (by decide +kernel) rfl (Nat.le_of_ble_eq_true rfl) rfl ?_
  intro X C hI
  have ho1 : o < ws.length := (List.getElem?_eq_some_iff.mp ho).1
  refine k_world (nf_in ho) ?_
  refine k_aload_n C dX3_init_0 rfl ?_
  refine k_obj C ⟨we240, we117, we118⟩ rfl (by decide) dX3_init_1 ?_
  refine k_aload_n C dX3_init_4 rfl ?_
  refine k_bipush (12) C dX3_init_5 (by decide) ?_
  refine k_newa (atype := .int) (N := 12) (12, .inl (fun _ => 0)) 0 20 C rfl we135 rfl (fun _ h => h) (fun _ => rfl) (by decide +kernel) (by decide +kernel) (by decide +kernel) ⟨Nat.le_of_ble_eq_true rfl, Nat.le_of_ble_eq_true rfl⟩ dX3_init_7 (fun q1 => ?_)
  refine k_world (ws' := nf ws o (a, .inr (3, [.null, .int 0, .int 0, .int 0])) [(q1, .inl (G.2.1 20, 12, .inl (fun _ => 0)))]) nf_app ?_
  refine k_putF (ty0 := tyX3) (k0 := 0) C hI ⟨rfl, by decide⟩ inX3 tyX3_ok nmX3 ⟨rfl, rfl⟩ we241 (nf_at ho1) (Nat.le_of_ble_eq_true rfl) ⟨rfl, rfl⟩ dX3_init_9 ?_
  refine k_world (ws' := nf ws o (a, .inr (3, [.ref q1, .int 0, .int 0, .int 0])) [(q1, .inl (G.2.1 20, 12, .inl (fun _ => 0)))]) (nf_set _ ho1) ?_
  exact k_vret C dX3_init_12 (Nat.le_of_ble_eq_true rfl) (Nat.le_of_ble_eq_true rfl) ⟨q1, rfl⟩
set_option maxHeartbeats 4000000 in
set_option maxRecDepth 100000 in
theorem sX2_init {G : GG} {z : Nat} {ws : va_W} {o a p1 p2 p3 : Nat} (ho : ws[o]? = some (a, .inr (2, [.null, .null, .null, .null, .null, .int 0, .long 0, .int 0, .int 0, .int 0, .int 0]))) : KO G z 1 2 24 yX2_init cX2_init 4 [.ref a, .ref p1, .ref p2, .ref p3] ws (fun w => ∃ q1 q2 : Nat, w = nf ws o (a, .inr (2, [.ref p1, .ref p2, .ref p3, .ref q1, .ref q2, .int 0, .long 0, .int 0, .int 0, .int 0, .int 0])) [(q1, .inl (G.2.1 20, 12, .inl (fun _ => 0))), (q2, .inl (G.2.1 20, 12, .inl (fun _ => 0)))]) := by
  refine KO_of [some (.ref a), some (.ref p1), some (.ref p2), some (.ref p3)] (by decide +kernel) rfl (Nat.le_of_ble_eq_true rfl) rfl ?_
  intro X C hI
  have ho1 : o < ws.length := (List.getElem?_eq_some_iff.mp ho).1
  refine k_world (nf_in ho) ?_
  refine k_aload_n C dX2_init_0 rfl ?_
  refine k_obj C ⟨we263, we117, we118⟩ rfl (by decide) dX2_init_1 ?_
  refine k_aload_n C dX2_init_4 rfl ?_
  refine k_bipush (12) C dX2_init_5 (by decide) ?_
  refine k_newa (atype := .int) (N := 12) (12, .inl (fun _ => 0)) 0 20 C rfl we135 rfl (fun _ h => h) (fun _ => rfl) (by decide +kernel) (by decide +kernel) (by decide +kernel) ⟨Nat.le_of_ble_eq_true rfl, Nat.le_of_ble_eq_true rfl⟩ dX2_init_7 (fun q1 => ?_)
  refine k_world (ws' := nf ws o (a, .inr (2, [.null, .null, .null, .null, .null, .int 0, .long 0, .int 0, .int 0, .int 0, .int 0])) [(q1, .inl (G.2.1 20, 12, .inl (fun _ => 0)))]) nf_app ?_
  refine k_putF (ty0 := tyX2) (k0 := 3) C hI ⟨rfl, by decide⟩ inX2 tyX2_ok nmX2 ⟨rfl, rfl⟩ we267 (nf_at ho1) (Nat.le_of_ble_eq_true rfl) ⟨rfl, rfl⟩ dX2_init_9 ?_
  refine k_world (ws' := nf ws o (a, .inr (2, [.null, .null, .null, .ref q1, .null, .int 0, .long 0, .int 0, .int 0, .int 0, .int 0])) [(q1, .inl (G.2.1 20, 12, .inl (fun _ => 0)))]) (nf_set _ ho1) ?_
  refine k_aload_n C dX2_init_12 rfl ?_
  refine k_bipush (12) C dX2_init_13 (by decide) ?_
  refine k_newa (atype := .int) (N := 12) (12, .inl (fun _ => 0)) 0 20 C rfl we135 rfl (fun _ h => h) (fun _ => rfl) (by decide +kernel) (by decide +kernel) (by decide +kernel) ⟨Nat.le_of_ble_eq_true rfl, Nat.le_of_ble_eq_true rfl⟩ dX2_init_15 (fun q2 => ?_)
  refine k_world (ws' := nf ws o (a, .inr (2, [.null, .null, .null, .ref q1, .null, .int 0, .long 0, .int 0, .int 0, .int 0, .int 0])) [(q1, .inl (G.2.1 20, 12, .inl (fun _ => 0))), (q2, .inl (G.2.1 20, 12, .inl (fun _ => 0)))]) nf_app ?_
  refine k_putF (ty0 := tyX2) (k0 := 4) C hI ⟨rfl, by decide⟩ inX2 tyX2_ok nmX2 ⟨rfl, rfl⟩ we269 (nf_at ho1) (Nat.le_of_ble_eq_true rfl) ⟨rfl, rfl⟩ dX2_init_17 ?_
  refine k_world (ws' := nf ws o (a, .inr (2, [.null, .null, .null, .ref q1, .ref q2, .int 0, .long 0, .int 0, .int 0, .int 0, .int 0])) [(q1, .inl (G.2.1 20, 12, .inl (fun _ => 0))), (q2, .inl (G.2.1 20, 12, .inl (fun _ => 0)))]) (nf_set _ ho1) ?_
  refine k_aload_n C dX2_init_20 rfl ?_
  refine k_aload_n C dX2_init_21 rfl ?_
  refine k_putF (ty0 := tyX2) (k0 := 0) C hI ⟨rfl, by decide⟩ inX2 tyX2_ok nmX2 ⟨rfl, rfl⟩ we264 (nf_at ho1) (Nat.le_of_ble_eq_true rfl) ⟨rfl, rfl⟩ dX2_init_22 ?_
  refine k_world (ws' := nf ws o (a, .inr (2, [.ref p1, .null, .null, .ref q1, .ref q2, .int 0, .long 0, .int 0, .int 0, .int 0, .int 0])) [(q1, .inl (G.2.1 20, 12, .inl (fun _ => 0))), (q2, .inl (G.2.1 20, 12, .inl (fun _ => 0)))]) (nf_set _ ho1) ?_
  refine k_aload_n C dX2_init_25 rfl ?_
  refine k_aload_n C dX2_init_26 rfl ?_
  refine k_putF (ty0 := tyX2) (k0 := 1) C hI ⟨rfl, by decide⟩ inX2 tyX2_ok nmX2 ⟨rfl, rfl⟩ we265 (nf_at ho1) (Nat.le_of_ble_eq_true rfl) ⟨rfl, rfl⟩ dX2_init_27 ?_
  refine k_world (ws' := nf ws o (a, .inr (2, [.ref p1, .ref p2, .null, .ref q1, .ref q2, .int 0, .long 0, .int 0, .int 0, .int 0, .int 0])) [(q1, .inl (G.2.1 20, 12, .inl (fun _ => 0))), (q2, .inl (G.2.1 20, 12, .inl (fun _ => 0)))]) (nf_set _ ho1) ?_
  refine k_aload_n C dX2_init_30 rfl ?_
  refine k_aload_n C dX2_init_31 rfl ?_
  refine k_putF (ty0 := tyX2) (k0 := 2) C hI ⟨rfl, by decide⟩ inX2 tyX2_ok nmX2 ⟨rfl, rfl⟩ we266 (nf_at ho1) (Nat.le_of_ble_eq_true rfl) ⟨rfl, rfl⟩ dX2_init_32 ?_
  refine k_world (ws' := nf ws o (a, .inr (2, [.ref p1, .ref p2, .ref p3, .ref q1, .ref q2, .int 0, .long 0, .int 0, .int 0, .int 0, .int 0])) [(q1, .inl (G.2.1 20, 12, .inl (fun _ => 0))), (q2, .inl (G.2.1 20, 12, .inl (fun _ => 0)))]) (nf_set _ ho1) ?_
  exact k_vret C dX2_init_35 (Nat.le_of_ble_eq_true rfl) (Nat.le_of_ble_eq_true rfl) ⟨q1, q2, rfl⟩
set_option maxHeartbeats 4000000 in
set_option maxRecDepth 100000 in
theorem sX7_init {G : GG} {z : Nat} {ws : va_W} {o a p1 p2 p3 : Nat} (ho : ws[o]? = some (a, .inr (7, [.null, .null, .null, .null, .null, .int 0, .int 0]))) : KO G z 1 2 1056 yX7_init cX7_init 4 [.ref a, .ref p1, .ref p2, .ref p3] ws (fun w => ∃ q1 q2 : Nat, w = nf ws o (a, .inr (7, [.ref p1, .ref p2, .ref p3, .ref q1, .ref q2, .int 0, .int 0])) [(q1, .inl (G.2.1 20, 1024, .inl (fun _ => 0))), (q2, .inl (G.2.1 20, 32, .inl (fun _ => 0)))]) := by
  refine KO_of [some (.ref a), some (.ref p1), some (.ref p2), some (.ref p3)] (by decide +kernel) rfl (Nat.le_of_ble_eq_true rfl) rfl ?_
  intro X C hI
  have ho1 : o < ws.length := (List.getElem?_eq_some_iff.mp ho).1
  refine k_world (nf_in ho) ?_
  refine k_aload_n C dX7_init_0 rfl ?_
  refine k_obj C ⟨we308, we117, we118⟩ rfl (by decide) dX7_init_1 ?_
  refine k_aload_n C dX7_init_4 rfl ?_
  refine k_sipush (1024) C dX7_init_5 (by decide) ?_
  refine k_newa (atype := .int) (N := 1024) (1024, .inl (fun _ => 0)) 0 20 C rfl we135 rfl (fun _ h => h) (fun _ => rfl) (by decide +kernel) (by decide +kernel) (by decide +kernel) ⟨Nat.le_of_ble_eq_true rfl, Nat.le_of_ble_eq_true rfl⟩ dX7_init_8 (fun q1 => ?_)
  refine k_world (ws' := nf ws o (a, .inr (7, [.null, .null, .null, .null, .null, .int 0, .int 0])) [(q1, .inl (G.2.1 20, 1024, .inl (fun _ => 0)))]) nf_app ?_
  refine k_putF (ty0 := tyX7) (k0 := 3) C hI ⟨rfl, by decide⟩ inX7 tyX7_ok nmX7 ⟨rfl, rfl⟩ we312 (nf_at ho1) (Nat.le_of_ble_eq_true rfl) ⟨rfl, rfl⟩ dX7_init_10 ?_
  refine k_world (ws' := nf ws o (a, .inr (7, [.null, .null, .null, .ref q1, .null, .int 0, .int 0])) [(q1, .inl (G.2.1 20, 1024, .inl (fun _ => 0)))]) (nf_set _ ho1) ?_
  refine k_aload_n C dX7_init_13 rfl ?_
  refine k_bipush (32) C dX7_init_14 (by decide) ?_
  refine k_newa (atype := .int) (N := 32) (32, .inl (fun _ => 0)) 0 20 C rfl we135 rfl (fun _ h => h) (fun _ => rfl) (by decide +kernel) (by decide +kernel) (by decide +kernel) ⟨Nat.le_of_ble_eq_true rfl, Nat.le_of_ble_eq_true rfl⟩ dX7_init_16 (fun q2 => ?_)
  refine k_world (ws' := nf ws o (a, .inr (7, [.null, .null, .null, .ref q1, .null, .int 0, .int 0])) [(q1, .inl (G.2.1 20, 1024, .inl (fun _ => 0))), (q2, .inl (G.2.1 20, 32, .inl (fun _ => 0)))]) nf_app ?_
  refine k_putF (ty0 := tyX7) (k0 := 4) C hI ⟨rfl, by decide⟩ inX7 tyX7_ok nmX7 ⟨rfl, rfl⟩ we313 (nf_at ho1) (Nat.le_of_ble_eq_true rfl) ⟨rfl, rfl⟩ dX7_init_18 ?_
  refine k_world (ws' := nf ws o (a, .inr (7, [.null, .null, .null, .ref q1, .ref q2, .int 0, .int 0])) [(q1, .inl (G.2.1 20, 1024, .inl (fun _ => 0))), (q2, .inl (G.2.1 20, 32, .inl (fun _ => 0)))]) (nf_set _ ho1) ?_
  refine k_aload_n C dX7_init_21 rfl ?_
  refine k_aload_n C dX7_init_22 rfl ?_
  refine k_putF (ty0 := tyX7) (k0 := 0) C hI ⟨rfl, by decide⟩ inX7 tyX7_ok nmX7 ⟨rfl, rfl⟩ we309 (nf_at ho1) (Nat.le_of_ble_eq_true rfl) ⟨rfl, rfl⟩ dX7_init_23 ?_
  refine k_world (ws' := nf ws o (a, .inr (7, [.ref p1, .null, .null, .ref q1, .ref q2, .int 0, .int 0])) [(q1, .inl (G.2.1 20, 1024, .inl (fun _ => 0))), (q2, .inl (G.2.1 20, 32, .inl (fun _ => 0)))]) (nf_set _ ho1) ?_
  refine k_aload_n C dX7_init_26 rfl ?_
  refine k_aload_n C dX7_init_27 rfl ?_
  refine k_putF (ty0 := tyX7) (k0 := 1) C hI ⟨rfl, by decide⟩ inX7 tyX7_ok nmX7 ⟨rfl, rfl⟩ we310 (nf_at ho1) (Nat.le_of_ble_eq_true rfl) ⟨rfl, rfl⟩ dX7_init_28 ?_
  refine k_world (ws' := nf ws o (a, .inr (7, [.ref p1, .ref p2, .null, .ref q1, .ref q2, .int 0, .int 0])) [(q1, .inl (G.2.1 20, 1024, .inl (fun _ => 0))), (q2, .inl (G.2.1 20, 32, .inl (fun _ => 0)))]) (nf_set _ ho1) ?_
  refine k_aload_n C dX7_init_31 rfl ?_
  refine k_aload_n C dX7_init_32 rfl ?_
  refine k_putF (ty0 := tyX7) (k0 := 2) C hI ⟨rfl, by decide⟩ inX7 tyX7_ok nmX7 ⟨rfl, rfl⟩ we311 (nf_at ho1) (Nat.le_of_ble_eq_true rfl) ⟨rfl, rfl⟩ dX7_init_33 ?_
  refine k_world (ws' := nf ws o (a, .inr (7, [.ref p1, .ref p2, .ref p3, .ref q1, .ref q2, .int 0, .int 0])) [(q1, .inl (G.2.1 20, 1024, .inl (fun _ => 0))), (q2, .inl (G.2.1 20, 32, .inl (fun _ => 0)))]) (nf_set _ ho1) ?_
  exact k_vret C dX7_init_36 (Nat.le_of_ble_eq_true rfl) (Nat.le_of_ble_eq_true rfl) ⟨q1, q2, rfl⟩
set_option maxHeartbeats 4000000 in
set_option maxRecDepth 100000 in
theorem sX1_init {G : GG} {z : Nat} {ws : va_W} {o a : Nat} (ho : ws[o]? = some (a, .inr (1, [.null, .null, .null, .null, .int 0, .int 0]))) : KO G z 1 4 160 yX1_init cX1_init 1 [.ref a] ws (fun w => ∃ q1 q2 q3 q4 : Nat, w = nf ws o (a, .inr (1, [.ref q1, .ref q2, .ref q3, .ref q4, .int 0, .int 0])) [(q1, .inl (G.2.1 20, 40, .inl (fun _ => 0))), (q2, .inl (G.2.1 20, 40, .inl (fun _ => 0))), (q3, .inl (G.2.1 20, 40, .inl (fun _ => 0))), (q4, .inl (G.2.1 20, 40, .inl (fun _ => 0)))]) := by
  refine KO_of [some (.ref a)] (by decide +kernel) rfl (Nat.le_of_ble_eq_true rfl) rfl ?_
  intro X C hI
  have ho1 : o < ws.length := (List.getElem?_eq_some_iff.mp ho).1
  refine k_world (nf_in ho) ?_
  refine k_aload_n C dX1_init_0 rfl ?_
  refine k_obj C ⟨we336, we117, we118⟩ rfl (by decide) dX1_init_1 ?_
  refine k_aload_n C dX1_init_4 rfl ?_
  refine k_bipush (40) C dX1_init_5 (by decide) ?_
  refine k_newa (atype := .int) (N := 40) (40, .inl (fun _ => 0)) 0 20 C rfl we135 rfl (fun _ h => h) (fun _ => rfl) (by decide +kernel) (by decide +kernel) (by decide +kernel) ⟨Nat.le_of_ble_eq_true rfl, Nat.le_of_ble_eq_true rfl⟩ dX1_init_7 (fun q1 => ?_)
  refine k_world (ws' := nf ws o (a, .inr (1, [.null, .null, .null, .null, .int 0, .int 0])) [(q1, .inl (G.2.1 20, 40, .inl (fun _ => 0)))]) nf_app ?_
  refine k_putF (ty0 := tyX1) (k0 := 0) C hI ⟨rfl, by decide⟩ inX1 tyX1_ok nmX1 ⟨rfl, rfl⟩ we337 (nf_at ho1) (Nat.le_of_ble_eq_true rfl) ⟨rfl, rfl⟩ dX1_init_9 ?_
  refine k_world (ws' := nf ws o (a, .inr (1, [.ref q1, .null, .null, .null, .int 0, .int 0])) [(q1, .inl (G.2.1 20, 40, .inl (fun _ => 0)))]) (nf_set _ ho1) ?_
  refine k_aload_n C dX1_init_12 rfl ?_
  refine k_bipush (40) C dX1_init_13 (by decide) ?_
  refine k_newa (atype := .int) (N := 40) (40, .inl (fun _ => 0)) 0 20 C rfl we135 rfl (fun _ h => h) (fun _ => rfl) (by decide +kernel) (by decide +kernel) (by decide +kernel) ⟨Nat.le_of_ble_eq_true rfl, Nat.le_of_ble_eq_true rfl⟩ dX1_init_15 (fun q2 => ?_)
  refine k_world (ws' := nf ws o (a, .inr (1, [.ref q1, .null, .null, .null, .int 0, .int 0])) [(q1, .inl (G.2.1 20, 40, .inl (fun _ => 0))), (q2, .inl (G.2.1 20, 40, .inl (fun _ => 0)))]) nf_app ?_
  refine k_putF (ty0 := tyX1) (k0 := 1) C hI ⟨rfl, by decide⟩ inX1 tyX1_ok nmX1 ⟨rfl, rfl⟩ we339 (nf_at ho1) (Nat.le_of_ble_eq_true rfl) ⟨rfl, rfl⟩ dX1_init_17 ?_
  refine k_world (ws' := nf ws o (a, .inr (1, [.ref q1, .ref q2, .null, .null, .int 0, .int 0])) [(q1, .inl (G.2.1 20, 40, .inl (fun _ => 0))), (q2, .inl (G.2.1 20, 40, .inl (fun _ => 0)))]) (nf_set _ ho1) ?_
  refine k_aload_n C dX1_init_20 rfl ?_
  refine k_bipush (40) C dX1_init_21 (by decide) ?_
  refine k_newa (atype := .int) (N := 40) (40, .inl (fun _ => 0)) 0 20 C rfl we135 rfl (fun _ h => h) (fun _ => rfl) (by decide +kernel) (by decide +kernel) (by decide +kernel) ⟨Nat.le_of_ble_eq_true rfl, Nat.le_of_ble_eq_true rfl⟩ dX1_init_23 (fun q3 => ?_)
  refine k_world (ws' := nf ws o (a, .inr (1, [.ref q1, .ref q2, .null, .null, .int 0, .int 0])) [(q1, .inl (G.2.1 20, 40, .inl (fun _ => 0))), (q2, .inl (G.2.1 20, 40, .inl (fun _ => 0))), (q3, .inl (G.2.1 20, 40, .inl (fun _ => 0)))]) nf_app ?_
  refine k_putF (ty0 := tyX1) (k0 := 2) C hI ⟨rfl, by decide⟩ inX1 tyX1_ok nmX1 ⟨rfl, rfl⟩ we341 (nf_at ho1) (Nat.le_of_ble_eq_true rfl) ⟨rfl, rfl⟩ dX1_init_25 ?_
  refine k_world (ws' := nf ws o (a, .inr (1, [.ref q1, .ref q2, .ref q3, .null, .int 0, .int 0])) [(q1, .inl (G.2.1 20, 40, .inl (fun _ => 0))), (q2, .inl (G.2.1 20, 40, .inl (fun _ => 0))), (q3, .inl (G.2.1 20, 40, .inl (fun _ => 0)))]) (nf_set _ ho1) ?_
  refine k_aload_n C dX1_init_28 rfl ?_
  refine k_bipush (40) C dX1_init_29 (by decide) ?_
  refine k_newa (atype := .int) (N := 40) (40, .inl (fun _ => 0)) 0 20 C rfl we135 rfl (fun _ h => h) (fun _ => rfl) (by decide +kernel) (by decide +kernel) (by decide +kernel) ⟨Nat.le_of_ble_eq_true rfl, Nat.le_of_ble_eq_true rfl⟩ dX1_init_31 (fun q4 => ?_)
  refine k_world (ws' := nf ws o (a, .inr (1, [.ref q1, .ref q2, .ref q3, .null, .int 0, .int 0])) [(q1, .inl (G.2.1 20, 40, .inl (fun _ => 0))), (q2, .inl (G.2.1 20, 40, .inl (fun _ => 0))), (q3, .inl (G.2.1 20, 40, .inl (fun _ => 0))), (q4, .inl (G.2.1 20, 40, .inl (fun _ => 0)))]) nf_app ?_
  refine k_putF (ty0 := tyX1) (k0 := 3) C hI ⟨rfl, by decide⟩ inX1 tyX1_ok nmX1 ⟨rfl, rfl⟩ we343 (nf_at ho1) (Nat.le_of_ble_eq_true rfl) ⟨rfl, rfl⟩ dX1_init_33 ?_
  refine k_world (ws' := nf ws o (a, .inr (1, [.ref q1, .ref q2, .ref q3, .ref q4, .int 0, .int 0])) [(q1, .inl (G.2.1 20, 40, .inl (fun _ => 0))), (q2, .inl (G.2.1 20, 40, .inl (fun _ => 0))), (q3, .inl (G.2.1 20, 40, .inl (fun _ => 0))), (q4, .inl (G.2.1 20, 40, .inl (fun _ => 0)))]) (nf_set _ ho1) ?_
  exact k_vret C dX1_init_36 (Nat.le_of_ble_eq_true rfl) (Nat.le_of_ble_eq_true rfl) ⟨q1, q2, q3, q4, rfl⟩
set_option maxHeartbeats 4000000 in
set_option maxRecDepth 100000 in
theorem sX0_init {G : GG} {z : Nat} {ws : va_W} {o a : Nat} (ho : ws[o]? = some (a, .inr (0, [.null, .null, .int 0, .int 0, .int 0, .int 0]))) : KO G z 1 2 74 yX0_init cX0_init 1 [.ref a] ws (fun w => ∃ q1 q2 : Nat, w = nf ws o (a, .inr (0, [.ref q1, .ref q2, .int 0, .int 0, .int 0, .int 0])) [(q1, .inl (G.2.1 20, 50, .inl (fun _ => 0))), (q2, .inl (G.2.1 20, 24, .inl (fun _ => 0)))]) := by
  refine KO_of [some (.ref a)] (by decide +kernel) rfl (Nat.le_of_ble_eq_true rfl) rfl ?_
  intro X C hI
  have ho1 : o < ws.length := (List.getElem?_eq_some_iff.mp ho).1
  refine k_world (nf_in ho) ?_
  refine k_aload_n C dX0_init_0 rfl ?_
  refine k_obj C ⟨we366, we117, we118⟩ rfl (by decide) dX0_init_1 ?_
  refine k_aload_n C dX0_init_4 rfl ?_
  refine k_bipush (50) C dX0_init_5 (by decide) ?_
  refine k_newa (atype := .int) (N := 50) (50, .inl (fun _ => 0)) 0 20 C rfl we135 rfl (fun _ h => h) (fun _ => rfl) (by decide +kernel) (by decide +kernel) (by decide +kernel) ⟨Nat.le_of_ble_eq_true rfl, Nat.le_of_ble_eq_true rfl⟩ dX0_init_7 (fun q1 => ?_)
  refine k_world (ws' := nf ws o (a, .inr (0, [.null, .null, .int 0, .int 0, .int 0, .int 0])) [(q1, .inl (G.2.1 20, 50, .inl (fun _ => 0)))]) nf_app ?_
  refine k_putF (ty0 := tyX0) (k0 := 0) C hI ⟨rfl, by decide⟩ inX0 tyX0_ok nmX0 ⟨rfl, rfl⟩ we367 (nf_at ho1) (Nat.le_of_ble_eq_true rfl) ⟨rfl, rfl⟩ dX0_init_9 ?_
  refine k_world (ws' := nf ws o (a, .inr (0, [.ref q1, .null, .int 0, .int 0, .int 0, .int 0])) [(q1, .inl (G.2.1 20, 50, .inl (fun _ => 0)))]) (nf_set _ ho1) ?_
  refine k_aload_n C dX0_init_12 rfl ?_
  refine k_bipush (24) C dX0_init_13 (by decide) ?_
  refine k_newa (atype := .int) (N := 24) (24, .inl (fun _ => 0)) 0 20 C rfl we135 rfl (fun _ h => h) (fun _ => rfl) (by decide +kernel) (by decide +kernel) (by decide +kernel) ⟨Nat.le_of_ble_eq_true rfl, Nat.le_of_ble_eq_true rfl⟩ dX0_init_15 (fun q2 => ?_)
  refine k_world (ws' := nf ws o (a, .inr (0, [.ref q1, .null, .int 0, .int 0, .int 0, .int 0])) [(q1, .inl (G.2.1 20, 50, .inl (fun _ => 0))), (q2, .inl (G.2.1 20, 24, .inl (fun _ => 0)))]) nf_app ?_
  refine k_putF (ty0 := tyX0) (k0 := 1) C hI ⟨rfl, by decide⟩ inX0 tyX0_ok nmX0 ⟨rfl, rfl⟩ we368 (nf_at ho1) (Nat.le_of_ble_eq_true rfl) ⟨rfl, rfl⟩ dX0_init_17 ?_
  refine k_world (ws' := nf ws o (a, .inr (0, [.ref q1, .ref q2, .int 0, .int 0, .int 0, .int 0])) [(q1, .inl (G.2.1 20, 50, .inl (fun _ => 0))), (q2, .inl (G.2.1 20, 24, .inl (fun _ => 0)))]) (nf_set _ ho1) ?_
  exact k_vret C dX0_init_20 (Nat.le_of_ble_eq_true rfl) (Nat.le_of_ble_eq_true rfl) ⟨q1, q2, rfl⟩
set_option maxHeartbeats 4000000 in
set_option maxRecDepth 100000 in
theorem sX10_init {G : GG} {z : Nat} {ws : va_W} {o a : Nat} (ho : ws[o]? = some (a, .inr (10, [.null, .int 0, .int 0, .int 0]))) : KO G z 1 1 60 yX10_init cX10_init 1 [.ref a] ws (fun w => ∃ q1 : Nat, w = nf ws o (a, .inr (10, [.ref q1, .int (-1), .int (-1), .int 0])) [(q1, .inl (G.2.1 21, 60, .inr (.inl (fun _ => 0))))]) := by
  refine KO_of [some (.ref a)] (by decide +kernel) rfl (Nat.le_of_ble_eq_true rfl) rfl ?_
  intro X C hI
  have ho1 : o < ws.length := (List.getElem?_eq_some_iff.mp ho).1
  refine k_world (nf_in ho) ?_
  refine k_aload_n C dX10_init_0 rfl ?_
  refine k_obj C ⟨we396, we117, we118⟩ rfl (by decide) dX10_init_1 ?_
  refine k_aload_n C dX10_init_4 rfl ?_
  refine k_bipush (60) C dX10_init_5 (by decide) ?_
  refine k_newa (atype := .long) (N := 60) (60, .inr (.inl (fun _ => 0))) 1 21 C rfl we389 rfl (fun _ h => h) (fun _ => rfl) (by decide +kernel) (by decide +kernel) (by decide +kernel) ⟨Nat.le_of_ble_eq_true rfl, Nat.le_of_ble_eq_true rfl⟩ dX10_init_7 (fun q1 => ?_)
  refine k_world (ws' := nf ws o (a, .inr (10, [.null, .int 0, .int 0, .int 0])) [(q1, .inl (G.2.1 21, 60, .inr (.inl (fun _ => 0))))]) nf_app ?_
  refine k_putF (ty0 := tyX10) (k0 := 0) C hI ⟨rfl, by decide⟩ inX10 tyX10_ok nmX10 ⟨rfl, rfl⟩ we397 (nf_at ho1) (Nat.le_of_ble_eq_true rfl) ⟨rfl, rfl⟩ dX10_init_9 ?_
  refine k_world (ws' := nf ws o (a, .inr (10, [.ref q1, .int 0, .int 0, .int 0])) [(q1, .inl (G.2.1 21, 60, .inr (.inl (fun _ => 0))))]) (nf_set _ ho1) ?_
  refine k_aload_n C dX10_init_12 rfl ?_
  refine k_iconst (-1) C dX10_init_13 (by decide) ?_
  refine k_put (ty0 := tyX10) (k0 := 1) C ⟨rfl, by decide⟩ inX10 tyX10_ok nmX10 rfl we399 (nf_at ho1) (Nat.le_of_ble_eq_true rfl) ⟨rfl, rfl⟩ dX10_init_14 ?_
  refine k_world (ws' := nf ws o (a, .inr (10, [.ref q1, .int (-1), .int 0, .int 0])) [(q1, .inl (G.2.1 21, 60, .inr (.inl (fun _ => 0))))]) (nf_set _ ho1) ?_
  refine k_aload_n C dX10_init_17 rfl ?_
  refine k_iconst (-1) C dX10_init_18 (by decide) ?_
  refine k_put (ty0 := tyX10) (k0 := 2) C ⟨rfl, by decide⟩ inX10 tyX10_ok nmX10 rfl we401 (nf_at ho1) (Nat.le_of_ble_eq_true rfl) ⟨rfl, rfl⟩ dX10_init_19 ?_
  refine k_world (ws' := nf ws o (a, .inr (10, [.ref q1, .int (-1), .int (-1), .int 0])) [(q1, .inl (G.2.1 21, 60, .inr (.inl (fun _ => 0))))]) (nf_set _ ho1) ?_
  exact k_vret C dX10_init_22 (Nat.le_of_ble_eq_true rfl) (Nat.le_of_ble_eq_true rfl) ⟨q1, rfl⟩
