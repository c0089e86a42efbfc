/-- gate -/
theorem ok_gate {h : Hp} (I : Inv h) (x1 : Int32) {A1 : Prop} (b1 : A1) {R : Hp → Prop} {Q0 : Prop} (hR : ∀ h', Inv h' → R h') : wX11_gate 0 x1 h (fun v h1 => A1 ∧ (wX12_gate 55 x1 h1 (fun v' h2 => if v = v' then R h2 else Q0))) := by
  obtain ⟨iG, iP, iD, iT, iI, iC, iB, iS, iL0, iL1⟩ := id I
  obtain ⟨g, hg, e1, e2, hr⟩ := id iG
  simp only [wX11_gate, wX11_isNumber, wX4_add, wX12_gate, wX12_in, rf_0_0, rf_0_1, rf_0_2, rf_0_4, rf_0_5, rf_0_6, rf_0_8, rf_0_9, rf_0_10, rf_0_11, rf_0_12, rf_0_13, rf_1_0, rf_3_0, rf_3_1, rf_3_2, rf_8_0, rf_8_1, rf_8_2, rf_8_3, rf_10_0, rf_10_1, rf_10_2, rf_14_0, rf_14_1, rf_14_2, rf_18_0, rf_18_1, rf_19_0, rf_19_1, rf_19_2, rf_23_0, rf_25_0, rf_27_0, rf_27_1, rf_27_2, rf_27_3, rf_27_4, rf_30_0, rf_30_1, rf_30_2, rf_30_3, rf_30_4, rf_33_0, rf_33_1, rf_33_2, rf_33_3, rf_39_0, rf_39_1, rf_42_0, rf_42_1, rf_42_2, rf_42_3, rf_42_4, rf_42_5, rf_43_0, rf_45_0, rf_47_0, rf_49_0, rf_51_0, rf_53_0, rf_55_2, rf_55_4, rf_55_5, rf_55_6, rf_55_10, rf_55_13, rf_55_14, rf_55_15, rf_55_16, rf_55_17, rf_55_23, rf_55_24, rf_55_25, rf_55_26, rf_55_27, rf_55_28, rf_55_29, rf_55_30, rf_55_31, rf_55_32, rf_55_37, rf_55_38, rf_55_39, rf_55_40, rf_55_47, rf_55_49, rf_55_51, rf_55_52, rf_55_53, rf_55_54, rf_55_55, ln_2, ln_4, ln_5, ln_6, ln_7, ln_9, ln_11, ln_12, ln_13, ln_15, ln_16, ln_17, ln_20, ln_21, ln_22, ln_24, ln_26, ln_28, ln_29, ln_31, ln_32, ln_34, ln_35, ln_36, ln_37, ln_38, ln_40, ln_41, ln_42, ln_44, ln_46, ln_48, ln_50, ln_52, ln_54, ln_56, ln_57, ln_58, ln_59, ln_60, ln_61, ln_62, ln_63, ln_64, ln_65, ln_66, ln_67, ln_68, ln_69, ln_70, ln_71, ln_72, ln_73, ln_74, ln_75, ln_76, ln_77, ln_78, ln_79, ln_80, ln_81, ln_82, ln_83, ln_84, ln_85, ln_86]
  by_cases c1 : x1 < 1
  · simp [c1, b1, hR h I]
  · by_cases c2 : 6 < x1
    · simp [c1, c2, b1, hR h I]
    · obtain ⟨m, rfl, m1, m2⟩ := nI_small (lo := 1) (hi := 6) (nl c1) (nl c2) (by omega) (by omega)
      simp [c1, c2, gI_sI, gI_sL, gL_sI, gL_sL, gI_cpI, gL_cpI, gI_cpL, gL_cpL, b1, e1, e2]
      simp (disch := omega) only [lit, nI_ltI, nI_leI, nI_eq, nI_clamp, nI_add, vp_nI, nI_ne_neg, neg_ne_nI, pk_sub, pk_mul, pk_div, Nat.reduceAdd, Nat.reduceMul, Nat.reducePow]
      by_cases c3 : g < 3
      · simp [c3, show ¬ g = 3 by omega]
        apply hR
        unfold Inv
        simp [gI_sI, gI_sL, gL_sI, gL_sL, gI_cpI, gL_cpI, gI_cpL, gL_cpL, rI_sI, rI_sL, rL_sI, rL_sL, shV_sI, shV_sL, shE_sI, shE_sL, rI_cpI, rL_cpI, rI_cpL, rL_cpL, shV_cpI, shE_cpI, shV_cpL]
        refine ⟨⟨g + 1, by omega, rfl, rfl, fun k hk => ?_⟩, iP, iD, iT, iI, ?_, iB, iS, iL0, iL1⟩
        · by_cases hkg : k = g
          · subst hkg
            simp [upd]
            exact ⟨m, rfl, m1, m2⟩
          · simp [upd, hkg]
            exact hr k (by omega)
        · obtain ⟨g', p, d, s, q1, q2, q3, q4, q5, q6, q7, q8, q9, q10, q11⟩ := iC
          rw [e1] at q1
          have : g = g' := (nI_eq (by omega) (by omega)).mp q1
          subst this
          refine ⟨g + 1, p, d, s, rfl, q2, by omega, q4, q5, q6, q7, q8, q9, q10, fun k hk => ?_⟩
          obtain ⟨z1, z2, z3, z4, z5, z6⟩ := q11 k hk
          exact ⟨z1, z2, z3, z4, z5.grow (by omega) (Nat.le_refl _), z6.grow (by omega) (Nat.le_refl _)⟩
      · simp [show g = 3 by omega, hR h I]
