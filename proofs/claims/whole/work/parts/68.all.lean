/-! every run of calls -/
set_option maxRecDepth 20000 in
theorem law_all {L : Nat} (hL : L ≤ 3072) (xs : Nat → Int32) {h0 : Hp} (I0 : Inv h0) : eL_law_18 L xs 0 55 (fun v => v = 1) 0 h0 := by
  refine iL_law_18 (I := fun x3 h => ∃ i : Nat, x3 = nI i ∧ i ≤ L ∧ Inv h) (μ := fun x3 _ => L + 1 - x3.toNatClampNeg) ?_ 0 h0 ⟨0, rfl, by omega, I0⟩
  rintro x3 h ⟨i, rfl, hi, I⟩ K hK
  unfold fL_law_18
  by_cases c : (Int32.ofNat L) - 6 < nI i
  · rw [if_pos c]
  · rw [if_neg c]
    have le : i + 6 ≤ L := by
      rw [Int32.lt_iff_toInt_lt, show (Int32.ofNat L) - 6 = nI L - nI 6 from rfl, pk_sub_toInt (by omega) (by omega), nI_toInt (by omega)] at c
      omega
    have p0 : vp_in (nI i) L := (vp_nI (by omega)).mpr (by omega)
    have p1 : vp_in (nI i + 1) L := by rw [show nI i + 1 = nI (i + 1) from nI_add i 1]; exact (vp_nI (by omega)).mpr (by omega)
    have p2 : vp_in (nI i + 2) L := by rw [show nI i + 2 = nI (i + 2) from nI_add i 2]; exact (vp_nI (by omega)).mpr (by omega)
    have p3 : vp_in (nI i + 3) L := by rw [show nI i + 3 = nI (i + 3) from nI_add i 3]; exact (vp_nI (by omega)).mpr (by omega)
    have p4 : vp_in (nI i + 4) L := by rw [show nI i + 4 = nI (i + 4) from nI_add i 4]; exact (vp_nI (by omega)).mpr (by omega)
    have p5 : vp_in (nI i + 5) L := by rw [show nI i + 5 = nI (i + 5) from nI_add i 5]; exact (vp_nI (by omega)).mpr (by omega)
    have hR : ∀ h', Inv h' → ∀ v : Int32, v = nI i + 6 → K v h' := by
      intro h' I' v hv
      rw [show nI i + 6 = nI (i + 6) from nI_add i 6] at hv
      exact hK v h' ⟨i + 6, hv, le, I'⟩ (by rw [hv, nI_clamp (by omega), nI_clamp (by omega)]; omega)
    refine ⟨p0, fun v2 _ => ?_⟩
    by_cases s0 : v2 = (0 : Int32)
    · rw [if_pos s0]
      unfold jL_law_200
      exact ⟨p1, ok_gate (R := fun h2 => ∀ v : Int32, v = nI i + 6 → K v h2) I _ p1 hR⟩
    rw [if_neg s0]
    by_cases s1 : v2 = (1 : Int32)
    · rw [if_pos s1]
      unfold jL_law_223
      exact ⟨p1, p2, ok_person (R := fun h2 => ∀ v : Int32, v = nI i + 6 → K v h2) I _ _ p1 p2 hR⟩
    rw [if_neg s1]
    by_cases s2 : v2 = (2 : Int32)
    · rw [if_pos s2]
      unfold jL_law_256
      exact ⟨p1, p2, p3, ok_people (R := fun h2 => ∀ v : Int32, v = nI i + 6 → K v h2) I _ _ _ p1 p2 p3 hR⟩
    rw [if_neg s2]
    by_cases s3 : v2 = (3 : Int32)
    · rw [if_pos s3]
      unfold jL_law_299
      exact ⟨p1, p2, p3, ok_mend (R := fun h2 => ∀ v : Int32, v = nI i + 6 → K v h2) I _ _ _ p1 p2 p3 hR⟩
    rw [if_neg s3]
    by_cases s4 : v2 = (4 : Int32)
    · rw [if_pos s4]
      unfold jL_law_342
      exact ⟨p1, p2, ok_of (R := fun h2 => ∀ v : Int32, v = nI i + 6 → K v h2) I _ _ p1 p2 hR⟩
    rw [if_neg s4]
    by_cases s5 : v2 = (5 : Int32)
    · rw [if_pos s5]
      unfold jL_law_375
      exact ⟨p1, ok_feed (R := fun h2 => ∀ v : Int32, v = nI i + 6 → K v h2) I _ p1 hR⟩
    rw [if_neg s5]
    by_cases s6 : v2 = (6 : Int32)
    · rw [if_pos s6]
      unfold jL_law_398
      exact ⟨p1, ok_law (R := fun h2 => ∀ v : Int32, v = nI i + 6 → K v h2) I _ p1 hR⟩
    rw [if_neg s6]
    by_cases s7 : v2 = (7 : Int32)
    · rw [if_pos s7]
      unfold jL_law_421
      exact ⟨p1, p2, p3, ok_may (R := fun h2 => ∀ v : Int32, v = nI i + 6 → K v h2) I _ _ _ p1 p2 p3 hR⟩
    rw [if_neg s7]
    by_cases s8 : v2 = (8 : Int32)
    · rw [if_pos s8]
      unfold jL_law_464
      exact ⟨p1, p2, ok_comes (R := fun h2 => ∀ v : Int32, v = nI i + 6 → K v h2) I _ _ p1 p2 hR⟩
    rw [if_neg s8]
    by_cases s9 : v2 = (9 : Int32)
    · rw [if_pos s9]
      unfold jL_law_497
      exact ⟨p1, p2, ok_pass (R := fun h2 => ∀ v : Int32, v = nI i + 6 → K v h2) I _ _ p1 p2 hR⟩
    rw [if_neg s9]
    by_cases s10 : v2 = (10 : Int32)
    · rw [if_pos s10]
      unfold jL_law_530
      exact ⟨p1, ok_tick (R := fun h2 => ∀ v : Int32, v = nI i + 6 → K v h2) I _ p1 hR⟩
    rw [if_neg s10]
    by_cases s11 : v2 = (11 : Int32)
    · rw [if_pos s11]
      unfold jL_law_553
      exact ⟨p1, p2, p3, ok_day (R := fun h2 => ∀ v : Int32, v = nI i + 6 → K v h2) I _ _ _ p1 p2 p3 hR⟩
    rw [if_neg s11]
    by_cases s12 : v2 = (12 : Int32)
    · rw [if_pos s12]
      unfold jL_law_596
      exact ⟨p1, p2, ok_sum (R := fun h2 => ∀ v : Int32, v = nI i + 6 → K v h2) I _ _ p1 p2 hR⟩
    rw [if_neg s12]
    by_cases s13 : v2 = (13 : Int32)
    · rw [if_pos s13]
      unfold jL_law_629
      exact ok_best (R := fun h2 => ∀ v : Int32, v = nI i + 6 → K v h2) I hR
    rw [if_neg s13]
    by_cases s14 : v2 = (14 : Int32)
    · rw [if_pos s14]
      unfold jL_law_642
      exact ⟨p1, ok_reach (R := fun h2 => ∀ v : Int32, v = nI i + 6 → K v h2) I _ p1 hR⟩
    rw [if_neg s14]
    by_cases s15 : v2 = (15 : Int32)
    · rw [if_pos s15]
      unfold jL_law_666
      exact ⟨p1, p2, ok_steps (R := fun h2 => ∀ v : Int32, v = nI i + 6 → K v h2) I _ _ p1 p2 hR⟩
    rw [if_neg s15]
    by_cases s16 : v2 = (16 : Int32)
    · rw [if_pos s16]
      unfold jL_law_699
      exact ⟨p1, p2, ok_boat (R := fun h2 => ∀ v : Int32, v = nI i + 6 → K v h2) I _ _ p1 p2 hR⟩
    rw [if_neg s16]
    by_cases s17 : v2 = (17 : Int32)
    · rw [if_pos s17]
      unfold jL_law_732
      exact ⟨p1, p2, ok_escort (R := fun h2 => ∀ v : Int32, v = nI i + 6 → K v h2) I _ _ p1 p2 hR⟩
    rw [if_neg s17]
    by_cases s18 : v2 = (18 : Int32)
    · rw [if_pos s18]
      unfold jL_law_765
      exact ⟨p1, ok_soon (R := fun h2 => ∀ v : Int32, v = nI i + 6 → K v h2) I _ p1 hR⟩
    rw [if_neg s18]
    by_cases s19 : v2 = (19 : Int32)
    · rw [if_pos s19]
      unfold jL_law_788
      exact ⟨p1, p2, p3, ok_waits (R := fun h2 => ∀ v : Int32, v = nI i + 6 → K v h2) I _ _ _ p1 p2 p3 hR⟩
    rw [if_neg s19]
    by_cases s20 : v2 = (20 : Int32)
    · rw [if_pos s20]
      unfold jL_law_832
      exact ⟨p1, p2, p3, ok_drawn (R := fun h2 => ∀ v : Int32, v = nI i + 6 → K v h2) I _ _ _ p1 p2 p3 hR⟩
    rw [if_neg s20]
    by_cases s21 : v2 = (21 : Int32)
    · rw [if_pos s21]
      unfold jL_law_875
      exact ⟨p1, p2, ok_judge (R := fun h2 => ∀ v : Int32, v = nI i + 6 → K v h2) I _ _ p1 p2 hR⟩
    rw [if_neg s21]
    by_cases s22 : v2 = (22 : Int32)
    · rw [if_pos s22]
      unfold jL_law_908
      exact ⟨p1, p2, ok_within (R := fun h2 => ∀ v : Int32, v = nI i + 6 → K v h2) I _ _ p1 p2 hR⟩
    rw [if_neg s22]
    by_cases s23 : v2 = (23 : Int32)
    · rw [if_pos s23]
      unfold jL_law_941
      exact ⟨p1, p2, p3, ok_turned (R := fun h2 => ∀ v : Int32, v = nI i + 6 → K v h2) I _ _ _ p1 p2 p3 hR⟩
    rw [if_neg s23]
    by_cases s24 : v2 = (24 : Int32)
    · rw [if_pos s24]
      unfold jL_law_984
      exact ok_image (R := fun h2 => ∀ v : Int32, v = nI i + 6 → K v h2) I hR
    rw [if_neg s24]
    by_cases s25 : v2 = (25 : Int32)
    · rw [if_pos s25]
      unfold jL_law_997
      exact ok_back (R := fun h2 => ∀ v : Int32, v = nI i + 6 → K v h2) I hR
    rw [if_neg s25]
    by_cases s26 : v2 = (26 : Int32)
    · rw [if_pos s26]
      unfold jL_law_1010
      exact ok_undo (R := fun h2 => ∀ v : Int32, v = nI i + 6 → K v h2) I hR
    rw [if_neg s26]
    by_cases s27 : v2 = (27 : Int32)
    · rw [if_pos s27]
      unfold jL_law_1023
      exact ok_redo (R := fun h2 => ∀ v : Int32, v = nI i + 6 → K v h2) I hR
    rw [if_neg s27]
    by_cases s28 : v2 = (28 : Int32)
    · rw [if_pos s28]
      unfold jL_law_1036
      exact ⟨p1, ok_body (R := fun h2 => ∀ v : Int32, v = nI i + 6 → K v h2) I _ p1 hR⟩
    rw [if_neg s28]
    by_cases s29 : v2 = (29 : Int32)
    · rw [if_pos s29]
      unfold jL_law_1059
      exact ⟨p1, p2, p3, ok_act (R := fun h2 => ∀ v : Int32, v = nI i + 6 → K v h2) I _ _ _ p1 p2 p3 hR⟩
    rw [if_neg s29]
    by_cases s30 : v2 = (30 : Int32)
    · rw [if_pos s30]
      unfold jL_law_1102
      exact ⟨p1, ok_trace (R := fun h2 => ∀ v : Int32, v = nI i + 6 → K v h2) I _ p1 hR⟩
    rw [if_neg s30]
    by_cases s31 : v2 = (31 : Int32)
    · rw [if_pos s31]
      unfold jL_law_1125
      exact ⟨p1, p2, ok_keep (R := fun h2 => ∀ v : Int32, v = nI i + 6 → K v h2) I _ _ p1 p2 hR⟩
    rw [if_neg s31]
    by_cases s32 : v2 = (32 : Int32)
    · rw [if_pos s32]
      unfold jL_law_1158
      exact ⟨p1, p2, p3, ok_row (R := fun h2 => ∀ v : Int32, v = nI i + 6 → K v h2) I _ _ _ p1 p2 p3 hR⟩
    rw [if_neg s32]
    by_cases s33 : v2 = (33 : Int32)
    · rw [if_pos s33]
      unfold jL_law_1201
      exact ⟨p1, p2, p3, p4, ok_put (R := fun h2 => ∀ v : Int32, v = nI i + 6 → K v h2) I _ _ _ p1 p2 p3 p4 hR⟩
    rw [if_neg s33]
    by_cases s34 : v2 = (34 : Int32)
    · rw [if_pos s34]
      unfold jL_law_1274
      exact ⟨p1, p2, ok_element (R := fun h2 => ∀ v : Int32, v = nI i + 6 → K v h2) I _ _ p1 p2 hR⟩
    rw [if_neg s34]
    by_cases s35 : v2 = (35 : Int32)
    · rw [if_pos s35]
      unfold jL_law_1308
      exact ⟨p1, p2, p3, p4, p5, ok_shift (R := fun h2 => ∀ v : Int32, v = nI i + 6 → K v h2) I _ _ _ _ _ p1 p2 p3 p4 p5 hR⟩
    rw [if_neg s35]
    by_cases s36 : v2 = (36 : Int32)
    · rw [if_pos s36]
      unfold jL_law_1371
      exact ⟨p1, p2, ok_taken (R := fun h2 => ∀ v : Int32, v = nI i + 6 → K v h2) I _ _ p1 p2 hR⟩
    rw [if_neg s36]
    by_cases s37 : v2 = (37 : Int32)
    · rw [if_pos s37]
      unfold jL_law_1404
      exact ⟨p1, ok_count (R := fun h2 => ∀ v : Int32, v = nI i + 6 → K v h2) I _ p1 hR⟩
    rw [if_neg s37]
    exact hR h I
