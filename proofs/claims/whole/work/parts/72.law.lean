set_option maxHeartbeats 4000000 in
set_option maxRecDepth 100000 in
theorem sX9_init {G : GG} {z : Nat} {ws : va_W} {o a p1 : Nat} (ho : ws[o]? = some (a, .inr (9, [.null, .null, .int 0, .int 0, .int 0]))) : KO G z 2 4 368 yX9_init cX9_init 2 [.ref a, .ref p1] ws (fun w => ∃ q1 q2 q3 q4 : Nat, w = nf ws o (a, .inr (9, [.ref q1, .ref p1, .int 0, .int 0, .int 0])) [(q1, .inr (5, [.ref q2, .ref q3, .ref q4, .int 0, .int 0])), (q2, .inl (G.2.1 20, 121, .inl (fun _ => 0))), (q3, .inl (G.2.1 20, 121, .inl (fun _ => 0))), (q4, .inl (G.2.1 20, 121, .inl (fun _ => 0)))]) := by
  refine KO_of [some (.ref a), some (.ref p1)] (by decide +kernel) rfl (Nat.le_of_ble_eq_true rfl) rfl ?_
  intro X C hI
  have ho1 : o < ws.length := (List.getElem?_eq_some_iff.mp ho).1
  refine k_world (nf_in ho) ?_
  refine k_aload_n C dX9_init_0 rfl ?_
  refine k_obj C ⟨we202, we117, we118⟩ rfl (by decide) dX9_init_1 ?_
  refine k_aload_n C dX9_init_4 rfl ?_
  refine k_new (ci := 5) (ty := tyX5) [.null, .null, .null, .int 0, .int 0] C rfl inX5 tyX5_ok ⟨we203, we175, we99⟩ dfX5 ⟨Nat.le_of_ble_eq_true rfl, Nat.le_of_ble_eq_true rfl⟩ dX9_init_5 (fun q1 => ?_)
  refine k_world (ws' := nf ws o (a, .inr (9, [.null, .null, .int 0, .int 0, .int 0])) [(q1, .inr (5, [.null, .null, .null, .int 0, .int 0]))]) nf_app ?_
  refine k_dup C dX9_init_8 rfl ?_
  refine k_initN (host := "ThreeThrough") (np := 0) (As := []) (st := [.ref q1, .ref a]) C ⟨(List.mem_of_getElem? (i := 3) rfl), we177, we99, we178⟩ rfl (by decide +kernel) ⟨by decide, by decide⟩ ⟨Nat.le_of_ble_eq_true rfl, Nat.le_of_ble_eq_true rfl⟩ dX9_init_9 (sX5_init (o := ws.length + 0) (nf_at2 0)) rfl rfl rfl (Nat.le_of_ble_eq_true rfl) (fun w hw => ?_)
  obtain ⟨q2, q3, q4, rfl⟩ := hw
  refine k_world (ws' := nf ws o (a, .inr (9, [.null, .null, .int 0, .int 0, .int 0])) [(q1, .inr (5, [.ref q2, .ref q3, .ref q4, .int 0, .int 0])), (q2, .inl (G.2.1 20, 121, .inl (fun _ => 0))), (q3, .inl (G.2.1 20, 121, .inl (fun _ => 0))), (q4, .inl (G.2.1 20, 121, .inl (fun _ => 0)))]) ((congrArg (· ++ _) (nf_set2 0 _)).trans nf_app) ?_
  refine k_putF (ty0 := tyX9) (k0 := 0) C hI ⟨rfl, by decide⟩ inX9 tyX9_ok nmX9 ⟨rfl, rfl⟩ we205 (nf_at ho1) (Nat.le_of_ble_eq_true rfl) ⟨rfl, rfl⟩ dX9_init_12 ?_
  refine k_world (ws' := nf ws o (a, .inr (9, [.ref q1, .null, .int 0, .int 0, .int 0])) [(q1, .inr (5, [.ref q2, .ref q3, .ref q4, .int 0, .int 0])), (q2, .inl (G.2.1 20, 121, .inl (fun _ => 0))), (q3, .inl (G.2.1 20, 121, .inl (fun _ => 0))), (q4, .inl (G.2.1 20, 121, .inl (fun _ => 0)))]) (nf_set _ ho1) ?_
  refine k_aload_n C dX9_init_15 rfl ?_
  refine k_aload_n C dX9_init_16 rfl ?_
  refine k_putF (ty0 := tyX9) (k0 := 1) C hI ⟨rfl, by decide⟩ inX9 tyX9_ok nmX9 ⟨rfl, rfl⟩ we207 (nf_at ho1) (Nat.le_of_ble_eq_true rfl) ⟨rfl, rfl⟩ dX9_init_17 ?_
  refine k_world (ws' := nf ws o (a, .inr (9, [.ref q1, .ref p1, .int 0, .int 0, .int 0])) [(q1, .inr (5, [.ref q2, .ref q3, .ref q4, .int 0, .int 0])), (q2, .inl (G.2.1 20, 121, .inl (fun _ => 0))), (q3, .inl (G.2.1 20, 121, .inl (fun _ => 0))), (q4, .inl (G.2.1 20, 121, .inl (fun _ => 0)))]) (nf_set _ ho1) ?_
  exact k_vret C dX9_init_20 (Nat.le_of_ble_eq_true rfl) (Nat.le_of_ble_eq_true rfl) ⟨q1, q2, q3, q4, rfl⟩
set_option maxHeartbeats 4000000 in
set_option maxRecDepth 100000 in
theorem sX6_init {G : GG} {z : Nat} {ws : va_W} {o a p1 : Nat} (ho : ws[o]? = some (a, .inr (6, [.null, .null, .null, .null]))) : KO G z 3 14 1115 yX6_init cX6_init 2 [.ref a, .ref p1] ws (fun w => ∃ q1 q2 q3 q4 q5 q6 q7 q8 q9 q10 q11 q12 q13 q14 : Nat, w = nf ws o (a, .inr (6, [.ref q1, .ref q2, .ref q6, .ref q10])) [(q1, .inl (G.2.1 20, 6, .inl (fun _ => 0))), (q2, .inr (5, [.ref q3, .ref q4, .ref q5, .int 0, .int 0])), (q3, .inl (G.2.1 20, 121, .inl (fun _ => 0))), (q4, .inl (G.2.1 20, 121, .inl (fun _ => 0))), (q5, .inl (G.2.1 20, 121, .inl (fun _ => 0))), (q6, .inr (5, [.ref q7, .ref q8, .ref q9, .int 0, .int 0])), (q7, .inl (G.2.1 20, 121, .inl (fun _ => 0))), (q8, .inl (G.2.1 20, 121, .inl (fun _ => 0))), (q9, .inl (G.2.1 20, 121, .inl (fun _ => 0))), (q10, .inr (9, [.ref q11, .ref p1, .int 0, .int 0, .int 0])), (q11, .inr (5, [.ref q12, .ref q13, .ref q14, .int 0, .int 0])), (q12, .inl (G.2.1 20, 121, .inl (fun _ => 0))), (q13, .inl (G.2.1 20, 121, .inl (fun _ => 0))), (q14, .inl (G.2.1 20, 121, .inl (fun _ => 0)))]) := by
  refine KO_of [some (.ref a), some (.ref p1)] (by decide +kernel) rfl (Nat.le_of_ble_eq_true rfl) rfl ?_
  intro X C hI
  have ho1 : o < ws.length := (List.getElem?_eq_some_iff.mp ho).1
  refine k_world (nf_in ho) ?_
  refine k_aload_n C dX6_init_0 rfl ?_
  refine k_obj C ⟨we173, we117, we118⟩ rfl (by decide) dX6_init_1 ?_
  refine k_aload_n C dX6_init_4 rfl ?_
  refine k_bipush (6) C dX6_init_5 (by decide) ?_
  refine k_newa (atype := .int) (N := 6) (6, .inl (fun _ => 0)) 0 20 C rfl we135 rfl (fun _ h => h) (fun _ => rfl) (by decide +kernel) (by decide +kernel) (by decide +kernel) ⟨Nat.le_of_ble_eq_true rfl, Nat.le_of_ble_eq_true rfl⟩ dX6_init_7 (fun q1 => ?_)
  refine k_world (ws' := nf ws o (a, .inr (6, [.null, .null, .null, .null])) [(q1, .inl (G.2.1 20, 6, .inl (fun _ => 0)))]) nf_app ?_
  refine k_putF (ty0 := tyX6) (k0 := 0) C hI ⟨rfl, by decide⟩ inX6 tyX6_ok nmX6 ⟨rfl, rfl⟩ we222 (nf_at ho1) (Nat.le_of_ble_eq_true rfl) ⟨rfl, rfl⟩ dX6_init_9 ?_
  refine k_world (ws' := nf ws o (a, .inr (6, [.ref q1, .null, .null, .null])) [(q1, .inl (G.2.1 20, 6, .inl (fun _ => 0)))]) (nf_set _ ho1) ?_
  refine k_aload_n C dX6_init_12 rfl ?_
  refine k_new (ci := 5) (ty := tyX5) [.null, .null, .null, .int 0, .int 0] C rfl inX5 tyX5_ok ⟨we174, we175, we99⟩ dfX5 ⟨Nat.le_of_ble_eq_true rfl, Nat.le_of_ble_eq_true rfl⟩ dX6_init_13 (fun q2 => ?_)
  refine k_world (ws' := nf ws o (a, .inr (6, [.ref q1, .null, .null, .null])) [(q1, .inl (G.2.1 20, 6, .inl (fun _ => 0))), (q2, .inr (5, [.null, .null, .null, .int 0, .int 0]))]) nf_app ?_
  refine k_dup C dX6_init_16 rfl ?_
  refine k_initN (host := "ThreeThrough") (np := 0) (As := []) (st := [.ref q2, .ref a]) C ⟨(List.mem_of_getElem? (i := 2) rfl), we177, we99, we178⟩ rfl (by decide +kernel) ⟨by decide, by decide⟩ ⟨Nat.le_of_ble_eq_true rfl, Nat.le_of_ble_eq_true rfl⟩ dX6_init_17 (sX5_init (o := ws.length + 1) (nf_at2 1)) rfl rfl rfl (Nat.le_of_ble_eq_true rfl) (fun w hw => ?_)
  obtain ⟨q3, q4, q5, rfl⟩ := hw
  refine k_world (ws' := nf ws o (a, .inr (6, [.ref q1, .null, .null, .null])) [(q1, .inl (G.2.1 20, 6, .inl (fun _ => 0))), (q2, .inr (5, [.ref q3, .ref q4, .ref q5, .int 0, .int 0])), (q3, .inl (G.2.1 20, 121, .inl (fun _ => 0))), (q4, .inl (G.2.1 20, 121, .inl (fun _ => 0))), (q5, .inl (G.2.1 20, 121, .inl (fun _ => 0)))]) ((congrArg (· ++ _) (nf_set2 1 _)).trans nf_app) ?_
  refine k_putF (ty0 := tyX6) (k0 := 1) C hI ⟨rfl, by decide⟩ inX6 tyX6_ok nmX6 ⟨rfl, rfl⟩ we223 (nf_at ho1) (Nat.le_of_ble_eq_true rfl) ⟨rfl, rfl⟩ dX6_init_20 ?_
  refine k_world (ws' := nf ws o (a, .inr (6, [.ref q1, .ref q2, .null, .null])) [(q1, .inl (G.2.1 20, 6, .inl (fun _ => 0))), (q2, .inr (5, [.ref q3, .ref q4, .ref q5, .int 0, .int 0])), (q3, .inl (G.2.1 20, 121, .inl (fun _ => 0))), (q4, .inl (G.2.1 20, 121, .inl (fun _ => 0))), (q5, .inl (G.2.1 20, 121, .inl (fun _ => 0)))]) (nf_set _ ho1) ?_
  refine k_aload_n C dX6_init_23 rfl ?_
  refine k_new (ci := 5) (ty := tyX5) [.null, .null, .null, .int 0, .int 0] C rfl inX5 tyX5_ok ⟨we174, we175, we99⟩ dfX5 ⟨Nat.le_of_ble_eq_true rfl, Nat.le_of_ble_eq_true rfl⟩ dX6_init_24 (fun q6 => ?_)
  refine k_world (ws' := nf ws o (a, .inr (6, [.ref q1, .ref q2, .null, .null])) [(q1, .inl (G.2.1 20, 6, .inl (fun _ => 0))), (q2, .inr (5, [.ref q3, .ref q4, .ref q5, .int 0, .int 0])), (q3, .inl (G.2.1 20, 121, .inl (fun _ => 0))), (q4, .inl (G.2.1 20, 121, .inl (fun _ => 0))), (q5, .inl (G.2.1 20, 121, .inl (fun _ => 0))), (q6, .inr (5, [.null, .null, .null, .int 0, .int 0]))]) nf_app ?_
  refine k_dup C dX6_init_27 rfl ?_
  refine k_initN (host := "ThreeThrough") (np := 0) (As := []) (st := [.ref q6, .ref a]) C ⟨(List.mem_of_getElem? (i := 2) rfl), we177, we99, we178⟩ rfl (by decide +kernel) ⟨by decide, by decide⟩ ⟨Nat.le_of_ble_eq_true rfl, Nat.le_of_ble_eq_true rfl⟩ dX6_init_28 (sX5_init (o := ws.length + 5) (nf_at2 5)) rfl rfl rfl (Nat.le_of_ble_eq_true rfl) (fun w hw => ?_)
  obtain ⟨q7, q8, q9, rfl⟩ := hw
  refine k_world (ws' := nf ws o (a, .inr (6, [.ref q1, .ref q2, .null, .null])) [(q1, .inl (G.2.1 20, 6, .inl (fun _ => 0))), (q2, .inr (5, [.ref q3, .ref q4, .ref q5, .int 0, .int 0])), (q3, .inl (G.2.1 20, 121, .inl (fun _ => 0))), (q4, .inl (G.2.1 20, 121, .inl (fun _ => 0))), (q5, .inl (G.2.1 20, 121, .inl (fun _ => 0))), (q6, .inr (5, [.ref q7, .ref q8, .ref q9, .int 0, .int 0])), (q7, .inl (G.2.1 20, 121, .inl (fun _ => 0))), (q8, .inl (G.2.1 20, 121, .inl (fun _ => 0))), (q9, .inl (G.2.1 20, 121, .inl (fun _ => 0)))]) ((congrArg (· ++ _) (nf_set2 5 _)).trans nf_app) ?_
  refine k_putF (ty0 := tyX6) (k0 := 2) C hI ⟨rfl, by decide⟩ inX6 tyX6_ok nmX6 ⟨rfl, rfl⟩ we224 (nf_at ho1) (Nat.le_of_ble_eq_true rfl) ⟨rfl, rfl⟩ dX6_init_31 ?_
  refine k_world (ws' := nf ws o (a, .inr (6, [.ref q1, .ref q2, .ref q6, .null])) [(q1, .inl (G.2.1 20, 6, .inl (fun _ => 0))), (q2, .inr (5, [.ref q3, .ref q4, .ref q5, .int 0, .int 0])), (q3, .inl (G.2.1 20, 121, .inl (fun _ => 0))), (q4, .inl (G.2.1 20, 121, .inl (fun _ => 0))), (q5, .inl (G.2.1 20, 121, .inl (fun _ => 0))), (q6, .inr (5, [.ref q7, .ref q8, .ref q9, .int 0, .int 0])), (q7, .inl (G.2.1 20, 121, .inl (fun _ => 0))), (q8, .inl (G.2.1 20, 121, .inl (fun _ => 0))), (q9, .inl (G.2.1 20, 121, .inl (fun _ => 0)))]) (nf_set _ ho1) ?_
  refine k_aload_n C dX6_init_34 rfl ?_
  refine k_new (ci := 9) (ty := tyX9) [.null, .null, .int 0, .int 0, .int 0] C rfl inX9 tyX9_ok ⟨we197, we198, we100⟩ dfX9 ⟨Nat.le_of_ble_eq_true rfl, Nat.le_of_ble_eq_true rfl⟩ dX6_init_35 (fun q10 => ?_)
  refine k_world (ws' := nf ws o (a, .inr (6, [.ref q1, .ref q2, .ref q6, .null])) [(q1, .inl (G.2.1 20, 6, .inl (fun _ => 0))), (q2, .inr (5, [.ref q3, .ref q4, .ref q5, .int 0, .int 0])), (q3, .inl (G.2.1 20, 121, .inl (fun _ => 0))), (q4, .inl (G.2.1 20, 121, .inl (fun _ => 0))), (q5, .inl (G.2.1 20, 121, .inl (fun _ => 0))), (q6, .inr (5, [.ref q7, .ref q8, .ref q9, .int 0, .int 0])), (q7, .inl (G.2.1 20, 121, .inl (fun _ => 0))), (q8, .inl (G.2.1 20, 121, .inl (fun _ => 0))), (q9, .inl (G.2.1 20, 121, .inl (fun _ => 0))), (q10, .inr (9, [.null, .null, .int 0, .int 0, .int 0]))]) nf_app ?_
  refine k_dup C dX6_init_38 rfl ?_
  refine k_aload_n C dX6_init_39 rfl ?_
  refine k_init (np := 1) (As := [.ref p1]) (st := [.ref q10, .ref a]) C ⟨we199, we200, we100, we201⟩ rfl (by decide +kernel) ⟨by decide, by decide⟩ ⟨Nat.le_of_ble_eq_true rfl, Nat.le_of_ble_eq_true rfl⟩ dX6_init_40 (sX9_init (o := ws.length + 9) (nf_at2 9)) rfl rfl rfl (Nat.le_of_ble_eq_true rfl) (fun w hw => ?_)
  obtain ⟨q11, q12, q13, q14, rfl⟩ := hw
  refine k_world (ws' := nf ws o (a, .inr (6, [.ref q1, .ref q2, .ref q6, .null])) [(q1, .inl (G.2.1 20, 6, .inl (fun _ => 0))), (q2, .inr (5, [.ref q3, .ref q4, .ref q5, .int 0, .int 0])), (q3, .inl (G.2.1 20, 121, .inl (fun _ => 0))), (q4, .inl (G.2.1 20, 121, .inl (fun _ => 0))), (q5, .inl (G.2.1 20, 121, .inl (fun _ => 0))), (q6, .inr (5, [.ref q7, .ref q8, .ref q9, .int 0, .int 0])), (q7, .inl (G.2.1 20, 121, .inl (fun _ => 0))), (q8, .inl (G.2.1 20, 121, .inl (fun _ => 0))), (q9, .inl (G.2.1 20, 121, .inl (fun _ => 0))), (q10, .inr (9, [.ref q11, .ref p1, .int 0, .int 0, .int 0])), (q11, .inr (5, [.ref q12, .ref q13, .ref q14, .int 0, .int 0])), (q12, .inl (G.2.1 20, 121, .inl (fun _ => 0))), (q13, .inl (G.2.1 20, 121, .inl (fun _ => 0))), (q14, .inl (G.2.1 20, 121, .inl (fun _ => 0)))]) ((congrArg (· ++ _) (nf_set2 9 _)).trans nf_app) ?_
  refine k_putF (ty0 := tyX6) (k0 := 3) C hI ⟨rfl, by decide⟩ inX6 tyX6_ok nmX6 ⟨rfl, rfl⟩ we225 (nf_at ho1) (Nat.le_of_ble_eq_true rfl) ⟨rfl, rfl⟩ dX6_init_43 ?_
  refine k_world (ws' := nf ws o (a, .inr (6, [.ref q1, .ref q2, .ref q6, .ref q10])) [(q1, .inl (G.2.1 20, 6, .inl (fun _ => 0))), (q2, .inr (5, [.ref q3, .ref q4, .ref q5, .int 0, .int 0])), (q3, .inl (G.2.1 20, 121, .inl (fun _ => 0))), (q4, .inl (G.2.1 20, 121, .inl (fun _ => 0))), (q5, .inl (G.2.1 20, 121, .inl (fun _ => 0))), (q6, .inr (5, [.ref q7, .ref q8, .ref q9, .int 0, .int 0])), (q7, .inl (G.2.1 20, 121, .inl (fun _ => 0))), (q8, .inl (G.2.1 20, 121, .inl (fun _ => 0))), (q9, .inl (G.2.1 20, 121, .inl (fun _ => 0))), (q10, .inr (9, [.ref q11, .ref p1, .int 0, .int 0, .int 0])), (q11, .inr (5, [.ref q12, .ref q13, .ref q14, .int 0, .int 0])), (q12, .inl (G.2.1 20, 121, .inl (fun _ => 0))), (q13, .inl (G.2.1 20, 121, .inl (fun _ => 0))), (q14, .inl (G.2.1 20, 121, .inl (fun _ => 0)))]) (nf_set _ ho1) ?_
  exact k_vret C dX6_init_46 (Nat.le_of_ble_eq_true rfl) (Nat.le_of_ble_eq_true rfl) ⟨q1, q2, q3, q4, q5, q6, q7, q8, q9, q10, q11, q12, q13, q14, rfl⟩
