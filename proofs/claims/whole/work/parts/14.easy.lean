-- taken
theorem under_ok : ∀ k, k < 8 → ∀ t, t < 8 → ∀ (h : Hp) (Q : Int32 → Prop), ∃ v : Int32, (Q v → wX0_isUnder (nI k) (nI t) h Q) ∧ (Q v → wX12_isUnder (nI k) (nI t) h Q) := by
  sorry
set_option maxRecDepth 20000 in
set_option maxHeartbeats 1000000 in
theorem ok_taken {h : Hp} (I : Inv h) (x1 : Int32) (x2 : Int32) {A1 : Prop} (b1 : A1) {A2 : Prop} (b2 : A2) {R : Hp → Prop} {Q0 : Prop} (hR : ∀ h', Inv h' → R h') : wX11_taken 0 x1 x2 h (fun v => A1 ∧ (A2 ∧ (wX12_taken 55 x1 x2 h (fun v' => if v = v' then R h else Q0)))) := by
  obtain ⟨iG, iP, iD, iT, iI, iC, iB, iS, iL0, iL1⟩ := id I
  obtain ⟨n, r, hn, hr0, e1, e2, e3, e4, hk, ht⟩ := id iB
  obtain ⟨n', hn', e1', hs⟩ := id iS
  have : n = n' := (nI_eq (by omega) (by omega)).mp (e1.symm.trans e1')
  subst this
  simp only [wX11_taken, e_in, e_isTime, e_mTime, e_isShelf, e_mShelf, e_isKind, e_isNumber, e_gHas, e_pHas, e_bHas, e_isRow, e_isBook, e_isEmpty, rf_0_0, rf_0_1, rf_0_2, rf_0_4, rf_0_5, rf_0_6, rf_0_8, rf_0_9, rf_0_10, rf_0_11, rf_0_12, rf_0_13, rf_1_0, rf_3_0, rf_3_1, rf_3_2, rf_8_0, rf_8_1, rf_8_2, rf_8_3, rf_10_0, rf_10_1, rf_10_2, rf_14_0, rf_14_1, rf_14_2, rf_18_0, rf_18_1, rf_19_0, rf_19_1, rf_19_2, rf_23_0, rf_25_0, rf_27_0, rf_27_1, rf_27_2, rf_27_3, rf_27_4, rf_30_0, rf_30_1, rf_30_2, rf_30_3, rf_30_4, rf_33_0, rf_33_1, rf_33_2, rf_33_3, rf_39_0, rf_39_1, rf_42_0, rf_42_1, rf_42_2, rf_42_3, rf_42_4, rf_42_5, rf_43_0, rf_45_0, rf_47_0, rf_49_0, rf_51_0, rf_53_0, rf_55_2, rf_55_4, rf_55_5, rf_55_6, rf_55_10, rf_55_13, rf_55_14, rf_55_15, rf_55_16, rf_55_17, rf_55_23, rf_55_24, rf_55_25, rf_55_26, rf_55_27, rf_55_28, rf_55_29, rf_55_30, rf_55_31, rf_55_32, rf_55_37, rf_55_38, rf_55_39, rf_55_40, rf_55_47, rf_55_49, rf_55_51, rf_55_52, rf_55_53, rf_55_54, rf_55_55, ln_2, ln_4, ln_5, ln_6, ln_7, ln_9, ln_11, ln_12, ln_13, ln_15, ln_16, ln_17, ln_20, ln_21, ln_22, ln_24, ln_26, ln_28, ln_29, ln_31, ln_32, ln_34, ln_35, ln_36, ln_37, ln_38, ln_40, ln_41, ln_42, ln_44, ln_46, ln_48, ln_50, ln_52, ln_54, ln_56, ln_57, ln_58, ln_59, ln_60, ln_61, ln_62, ln_63, ln_64, ln_65, ln_66, ln_67, ln_68, ln_69, ln_70, ln_71, ln_72, ln_73, ln_74, ln_75, ln_76, ln_77, ln_78, ln_79, ln_80, ln_81, ln_82, ln_83, ln_84, ln_85, ln_86]
  sorry
-- image
set_option maxRecDepth 20000 in
set_option maxHeartbeats 1000000 in
theorem ok_image {h : Hp} (I : Inv h) {R : Hp → Prop} {Q0 : Prop} (hR : ∀ h', Inv h' → R h') : wX11_image 0  h (fun v h1 => wX12_image 55  h1 (fun v' h2 => if v = v' then R h2 else Q0)) := by
  obtain ⟨iG, iP, iD, iT, iI, iC, iB, iS, iL0, iL1⟩ := id I
  obtain ⟨r1, r2, r3, p, t, o, w, q0, q1, q2, q3, q4, q5, q6, q7, q8, q9, q10⟩ := id iD
  simp only [wX11_image, wX3_takeFrom, wX12_image, rf_0_0, rf_0_1, rf_0_2, rf_0_4, rf_0_5, rf_0_6, rf_0_8, rf_0_9, rf_0_10, rf_0_11, rf_0_12, rf_0_13, rf_1_0, rf_3_0, rf_3_1, rf_3_2, rf_8_0, rf_8_1, rf_8_2, rf_8_3, rf_10_0, rf_10_1, rf_10_2, rf_14_0, rf_14_1, rf_14_2, rf_18_0, rf_18_1, rf_19_0, rf_19_1, rf_19_2, rf_23_0, rf_25_0, rf_27_0, rf_27_1, rf_27_2, rf_27_3, rf_27_4, rf_30_0, rf_30_1, rf_30_2, rf_30_3, rf_30_4, rf_33_0, rf_33_1, rf_33_2, rf_33_3, rf_39_0, rf_39_1, rf_42_0, rf_42_1, rf_42_2, rf_42_3, rf_42_4, rf_42_5, rf_43_0, rf_45_0, rf_47_0, rf_49_0, rf_51_0, rf_53_0, rf_55_2, rf_55_4, rf_55_5, rf_55_6, rf_55_10, rf_55_13, rf_55_14, rf_55_15, rf_55_16, rf_55_17, rf_55_23, rf_55_24, rf_55_25, rf_55_26, rf_55_27, rf_55_28, rf_55_29, rf_55_30, rf_55_31, rf_55_32, rf_55_37, rf_55_38, rf_55_39, rf_55_40, rf_55_47, rf_55_49, rf_55_51, rf_55_52, rf_55_53, rf_55_54, rf_55_55, ln_2, ln_4, ln_5, ln_6, ln_7, ln_9, ln_11, ln_12, ln_13, ln_15, ln_16, ln_17, ln_20, ln_21, ln_22, ln_24, ln_26, ln_28, ln_29, ln_31, ln_32, ln_34, ln_35, ln_36, ln_37, ln_38, ln_40, ln_41, ln_42, ln_44, ln_46, ln_48, ln_50, ln_52, ln_54, ln_56, ln_57, ln_58, ln_59, ln_60, ln_61, ln_62, ln_63, ln_64, ln_65, ln_66, ln_67, ln_68, ln_69, ln_70, ln_71, ln_72, ln_73, ln_74, ln_75, ln_76, ln_77, ln_78, ln_79, ln_80, ln_81, ln_82, ln_83, ln_84, ln_85, ln_86, forall_eq, gI_sI, gI_sL, gL_sI, gL_sL, gI_cpI, gL_cpI, gI_cpL, gL_cpL, and_false, false_and, and_true, true_and, and_self, ↓reduceIte]
  trace_state
  sorry
-- undo
set_option maxRecDepth 20000 in
set_option maxHeartbeats 1000000 in
theorem ok_undo {h : Hp} (I : Inv h) {R : Hp → Prop} {Q0 : Prop} (hR : ∀ h', Inv h' → R h') : wX11_undo 0  h (fun v h1 => wX12_undo 55  h1 (fun v' h2 => if v = v' then R h2 else Q0)) := by
  obtain ⟨iG, iP, iD, iT, iI, iC, iB, iS, iL0, iL1⟩ := id I
  obtain ⟨g, p, d, s, q1, q2, q3, q4, q5, q6, q7, q8, q9, q10, q11⟩ := id iC
  simp only [wX11_undo, wX1_lastDone, wX12_undo, rf_0_0, rf_0_1, rf_0_2, rf_0_4, rf_0_5, rf_0_6, rf_0_8, rf_0_9, rf_0_10, rf_0_11, rf_0_12, rf_0_13, rf_1_0, rf_3_0, rf_3_1, rf_3_2, rf_8_0, rf_8_1, rf_8_2, rf_8_3, rf_10_0, rf_10_1, rf_10_2, rf_14_0, rf_14_1, rf_14_2, rf_18_0, rf_18_1, rf_19_0, rf_19_1, rf_19_2, rf_23_0, rf_25_0, rf_27_0, rf_27_1, rf_27_2, rf_27_3, rf_27_4, rf_30_0, rf_30_1, rf_30_2, rf_30_3, rf_30_4, rf_33_0, rf_33_1, rf_33_2, rf_33_3, rf_39_0, rf_39_1, rf_42_0, rf_42_1, rf_42_2, rf_42_3, rf_42_4, rf_42_5, rf_43_0, rf_45_0, rf_47_0, rf_49_0, rf_51_0, rf_53_0, rf_55_2, rf_55_4, rf_55_5, rf_55_6, rf_55_10, rf_55_13, rf_55_14, rf_55_15, rf_55_16, rf_55_17, rf_55_23, rf_55_24, rf_55_25, rf_55_26, rf_55_27, rf_55_28, rf_55_29, rf_55_30, rf_55_31, rf_55_32, rf_55_37, rf_55_38, rf_55_39, rf_55_40, rf_55_47, rf_55_49, rf_55_51, rf_55_52, rf_55_53, rf_55_54, rf_55_55, ln_2, ln_4, ln_5, ln_6, ln_7, ln_9, ln_11, ln_12, ln_13, ln_15, ln_16, ln_17, ln_20, ln_21, ln_22, ln_24, ln_26, ln_28, ln_29, ln_31, ln_32, ln_34, ln_35, ln_36, ln_37, ln_38, ln_40, ln_41, ln_42, ln_44, ln_46, ln_48, ln_50, ln_52, ln_54, ln_56, ln_57, ln_58, ln_59, ln_60, ln_61, ln_62, ln_63, ln_64, ln_65, ln_66, ln_67, ln_68, ln_69, ln_70, ln_71, ln_72, ln_73, ln_74, ln_75, ln_76, ln_77, ln_78, ln_79, ln_80, ln_81, ln_82, ln_83, ln_84, ln_85, ln_86, forall_eq, gI_sI, gI_sL, gL_sI, gL_sL, gI_cpI, gL_cpI, gI_cpL, gL_cpL, and_false, false_and, and_true, true_and, and_self, ↓reduceIte, q8, q9]
  trace_state
  sorry
