-- mend
set_option maxRecDepth 20000 in
set_option maxHeartbeats 1000000 in
theorem ok_mend {h : Hp} (I : Inv h) (x1 : Int32) (x2 : Int32) (x3 : Int32) {A1 : Prop} (b1 : A1) {A2 : Prop} (b2 : A2) {A3 : Prop} (b3 : A3) {R : Hp → Prop} {Q0 : Prop} (hR : ∀ h', Inv h' → R h') : wX11_mend 0 x1 x2 x3 h (fun v h1 => A1 ∧ (A2 ∧ (A3 ∧ (wX12_mend 55 x1 x2 x3 h1 (fun v' h2 => if v = v' then R h2 else Q0))))) := by
  obtain ⟨iG, iP, iD, iT, iI, iC, iB, iS, iL0, iL1⟩ := id I
  obtain ⟨g, hg, e1, e2, hr⟩ := id iG
  obtain ⟨p, hp, e3, e4, hq⟩ := id iP
  simp only [wX11_mend, wX11_canBecome, e_in, e_isTime, e_mTime, e_isShelf, e_mShelf, e_isKind, e_isNumber, e_gHas, e_pHas, e_bHas, e_isRow, e_isBook, e_isEmpty, rf_0_0, rf_0_1, rf_0_2, rf_0_4, rf_0_5, rf_0_6, rf_0_8, rf_0_9, rf_0_10, rf_0_11, rf_0_12, rf_0_13, rf_1_0, rf_3_0, rf_3_1, rf_3_2, rf_8_0, rf_8_1, rf_8_2, rf_8_3, rf_10_0, rf_10_1, rf_10_2, rf_14_0, rf_14_1, rf_14_2, rf_18_0, rf_18_1, rf_19_0, rf_19_1, rf_19_2, rf_23_0, rf_25_0, rf_27_0, rf_27_1, rf_27_2, rf_27_3, rf_27_4, rf_30_0, rf_30_1, rf_30_2, rf_30_3, rf_30_4, rf_33_0, rf_33_1, rf_33_2, rf_33_3, rf_39_0, rf_39_1, rf_42_0, rf_42_1, rf_42_2, rf_42_3, rf_42_4, rf_42_5, rf_43_0, rf_45_0, rf_47_0, rf_49_0, rf_51_0, rf_53_0, rf_55_2, rf_55_4, rf_55_5, rf_55_6, rf_55_10, rf_55_13, rf_55_14, rf_55_15, rf_55_16, rf_55_17, rf_55_23, rf_55_24, rf_55_25, rf_55_26, rf_55_27, rf_55_28, rf_55_29, rf_55_30, rf_55_31, rf_55_32, rf_55_37, rf_55_38, rf_55_39, rf_55_40, rf_55_47, rf_55_49, rf_55_51, rf_55_52, rf_55_53, rf_55_54, rf_55_55, ln_2, ln_4, ln_5, ln_6, ln_7, ln_9, ln_11, ln_12, ln_13, ln_15, ln_16, ln_17, ln_20, ln_21, ln_22, ln_24, ln_26, ln_28, ln_29, ln_31, ln_32, ln_34, ln_35, ln_36, ln_37, ln_38, ln_40, ln_41, ln_42, ln_44, ln_46, ln_48, ln_50, ln_52, ln_54, ln_56, ln_57, ln_58, ln_59, ln_60, ln_61, ln_62, ln_63, ln_64, ln_65, ln_66, ln_67, ln_68, ln_69, ln_70, ln_71, ln_72, ln_73, ln_74, ln_75, ln_76, ln_77, ln_78, ln_79, ln_80, ln_81, ln_82, ln_83, ln_84, ln_85, ln_86]
  by_cases w0 : x2 = 0
  · subst w0
    simp only [↓reduceIte, e3]
    rcases ix x1 p (by omega) with c | ⟨i, hi, rfl, c⟩
    · simp (disch := omega) only [wX12_mend, e_in, e_isTime, e_mTime, e_isShelf, e_mShelf, e_isKind, e_isNumber, e_gHas, e_pHas, e_bHas, e_isRow, e_isBook, e_isEmpty, e_isGate0, e_isPerson0, e_isBody0, if_pos c, e4, sub1_lt, ↓reduceIte]
      exact ⟨b1, b2, b3, hR h I⟩
    · simp only [if_neg c, ne10, ↓reduceIte]
      rcases bd x3 1 9 (l := 1) (u := 9) rfl rfl (by omega) (by omega) with d | ⟨m, d1, d2, rfl, d⟩
      · have fin : A1 ∧ A2 ∧ A3 ∧ wX12_mend 55 (nI i) 0 x3 h (fun v' h2 => if -1 = v' then R h2 else Q0) := by
          simp (disch := omega) only [wX12_mend, e_in, e_isTime, e_mTime, e_isShelf, e_mShelf, e_isKind, e_isNumber, e_gHas, e_pHas, e_bHas, e_isRow, e_isBook, e_isEmpty, e_isGate0, e_isPerson0, e_isBody0, if_pos d, e4, sub1_lt, if_neg c, ne10, ↓reduceIte]
          exact ⟨b1, b2, b3, hR h I⟩
        by_cases d0 : x3 < 1
        · simp only [if_pos d0, ↓reduceIte]
          exact fin
        · simp only [if_neg d0, if_pos (d.resolve_left d0), ↓reduceIte]
          exact fin
      · simp only [if_neg (fun q => d (Or.inl q) : ¬ nI m < 1), if_neg (fun q => d (Or.inr q) : ¬ 9 < nI m), ne10, ↓reduceIte]
        refine both_mend I (w := 0) (i := i) (rc := 6) (rm := 59) (v := nI m) (Or.inl ⟨rfl, rfl, rfl⟩) (by omega) (fun q => absurd q (by decide)) (fun g' p' z1 z2 z3 z4 => ?_) (fun Q hQ => c_bec0 e3 hi hp _ hQ) (hq i hi).2.2.1 b1 b2 b3 (Q0 := Q0) hR (M := fun v2 h5 => wX12_mend 55 (nI i) 0 (nI m) h5 (fun v' h2 => if v2 = v' then R h2 else Q0)) (fun v2 h5 k1 k2 hc => ?_)
        · have : p = p' := (nI_eq (by omega) (by omega)).mp (e3.symm.trans z2)
          subst this
          obtain ⟨-, -, -, a, b, cc, -, -, y6, -, -, y9⟩ := hq i hi
          exact ⟨Or.inl ⟨rfl, i, cc, hi, rfl, y6, y9⟩, Or.inl ⟨rfl, i, m, hi, rfl, rfl, d1, d2⟩⟩
        · simp (disch := omega) only [wX12_mend, e_in, e_isTime, e_mTime, e_isShelf, e_mShelf, e_isKind, e_isNumber, e_gHas, e_pHas, e_bHas, e_isRow, e_isBook, e_isEmpty, e_isGate0, e_isPerson0, e_isBody0, k1, e4, sub1_lt, if_neg c, if_neg d, ne10, ↓reduceIte]
          exact hc
  · by_cases w1 : x2 = 1
    · subst w1
      simp only [ne10, ↓reduceIte, e3]
      rcases ix x1 p (by omega) with c | ⟨i, hi, rfl, c⟩
      · simp (disch := omega) only [wX12_mend, e_in, e_isTime, e_mTime, e_isShelf, e_mShelf, e_isKind, e_isNumber, e_gHas, e_pHas, e_bHas, e_isRow, e_isBook, e_isEmpty, e_isGate0, e_isPerson0, e_isBody0, if_pos c, e4, sub1_lt, ne10, ↓reduceIte]
        exact ⟨b1, b2, b3, hR h I⟩
      · simp only [if_neg c, ne10, ↓reduceIte]
        obtain ⟨y1, y2, y3, a, b, cc, y4, y5, y6, y7, y8, y9⟩ := hq i hi
        have y4 : gI h 4 i = nI a := y4
        have y4m : gI h 57 i = nI a := y1.trans y4
        simp (disch := omega) only [nI_clamp, vp_nI, show i < 12 by omega, true_and, y4]
        rcases bd x3 (nI a + 1) 60 (l := a + 1) (u := 60) (nI_1 a) rfl (by omega) (by omega) with d | ⟨m, d1, d2, rfl, d⟩
        · have fin : A1 ∧ A2 ∧ A3 ∧ wX12_mend 55 (nI i) 1 x3 h (fun v' h2 => if -1 = v' then R h2 else Q0) := by
            simp (disch := omega) only [wX12_mend, e_in, e_isTime, e_mTime, e_isShelf, e_mShelf, e_isKind, e_isNumber, e_gHas, e_pHas, e_bHas, e_isRow, e_isBook, e_isEmpty, e_isGate0, e_isPerson0, e_isBody0, rf_0_0, rf_0_1, rf_0_2, rf_0_4, rf_0_5, rf_0_6, rf_0_8, rf_0_9, rf_0_10, rf_0_11, rf_0_12, rf_0_13, rf_1_0, rf_3_0, rf_3_1, rf_3_2, rf_8_0, rf_8_1, rf_8_2, rf_8_3, rf_10_0, rf_10_1, rf_10_2, rf_14_0, rf_14_1, rf_14_2, rf_18_0, rf_18_1, rf_19_0, rf_19_1, rf_19_2, rf_23_0, rf_25_0, rf_27_0, rf_27_1, rf_27_2, rf_27_3, rf_27_4, rf_30_0, rf_30_1, rf_30_2, rf_30_3, rf_30_4, rf_33_0, rf_33_1, rf_33_2, rf_33_3, rf_39_0, rf_39_1, rf_42_0, rf_42_1, rf_42_2, rf_42_3, rf_42_4, rf_42_5, rf_43_0, rf_45_0, rf_47_0, rf_49_0, rf_51_0, rf_53_0, rf_55_2, rf_55_4, rf_55_5, rf_55_6, rf_55_10, rf_55_13, rf_55_14, rf_55_15, rf_55_16, rf_55_17, rf_55_23, rf_55_24, rf_55_25, rf_55_26, rf_55_27, rf_55_28, rf_55_29, rf_55_30, rf_55_31, rf_55_32, rf_55_37, rf_55_38, rf_55_39, rf_55_40, rf_55_47, rf_55_49, rf_55_51, rf_55_52, rf_55_53, rf_55_54, rf_55_55, ln_2, ln_4, ln_5, ln_6, ln_7, ln_9, ln_11, ln_12, ln_13, ln_15, ln_16, ln_17, ln_20, ln_21, ln_22, ln_24, ln_26, ln_28, ln_29, ln_31, ln_32, ln_34, ln_35, ln_36, ln_37, ln_38, ln_40, ln_41, ln_42, ln_44, ln_46, ln_48, ln_50, ln_52, ln_54, ln_56, ln_57, ln_58, ln_59, ln_60, ln_61, ln_62, ln_63, ln_64, ln_65, ln_66, ln_67, ln_68, ln_69, ln_70, ln_71, ln_72, ln_73, ln_74, ln_75, ln_76, ln_77, ln_78, ln_79, ln_80, ln_81, ln_82, ln_83, ln_84, ln_85, ln_86, e4, sub1_lt, if_neg c, ne10, ↓reduceIte, nI_clamp, vp_nI, show i < 12 by omega, true_and, y4m, if_pos d]
            exact ⟨b1, b2, b3, hR h I⟩
          by_cases d0 : x3 ≤ nI a
          · simp only [if_pos d0, ↓reduceIte]
            exact fin
          · have d9 : 60 < x3 := by
              rcases d with d | d
              · exfalso
                apply d0
                rw [Int32.lt_iff_toInt_lt, nI_1, nI_toInt (by omega)] at d
                rw [Int32.le_iff_toInt_le, nI_toInt (by omega)]
                omega
              · exact d
            simp only [if_neg d0, if_pos d9, ↓reduceIte]
            exact fin
        · have d0 : ¬ nI m ≤ nI a := nI_ge (by omega) (by omega)
          simp only [if_neg d0, if_neg (fun q => d (Or.inr q) : ¬ 60 < nI m), ne10, ↓reduceIte]
          refine both_mend I (w := 1) (i := i) (rc := 5) (rm := 58) (v := nI m) (Or.inr (Or.inl ⟨rfl, rfl, rfl⟩)) (by omega) (fun q => absurd q (by decide)) (fun g' p' z1 z2 z3 z4 => ?_) (fun Q hQ => c_bec1 e3 hi hp _ hQ) y2 b1 b2 b3 (Q0 := Q0) hR (M := fun v2 h5 => wX12_mend 55 (nI i) 1 (nI m) h5 (fun v' h2 => if v2 = v' then R h2 else Q0)) (fun v2 h5 k1 k2 hc => ?_)
          · have : p = p' := (nI_eq (by omega) (by omega)).mp (e3.symm.trans z2)
            subst this
            exact ⟨Or.inr (Or.inl ⟨rfl, i, a, b, hi, rfl, y4, y5, y7, y8⟩), Or.inr (Or.inl ⟨rfl, i, a, m, hi, rfl, y4, rfl, by omega, d2⟩)⟩
          · simp (disch := omega) only [wX12_mend, e_in, e_isTime, e_mTime, e_isShelf, e_mShelf, e_isKind, e_isNumber, e_gHas, e_pHas, e_bHas, e_isRow, e_isBook, e_isEmpty, e_isGate0, e_isPerson0, e_isBody0, rf_0_0, rf_0_1, rf_0_2, rf_0_4, rf_0_5, rf_0_6, rf_0_8, rf_0_9, rf_0_10, rf_0_11, rf_0_12, rf_0_13, rf_1_0, rf_3_0, rf_3_1, rf_3_2, rf_8_0, rf_8_1, rf_8_2, rf_8_3, rf_10_0, rf_10_1, rf_10_2, rf_14_0, rf_14_1, rf_14_2, rf_18_0, rf_18_1, rf_19_0, rf_19_1, rf_19_2, rf_23_0, rf_25_0, rf_27_0, rf_27_1, rf_27_2, rf_27_3, rf_27_4, rf_30_0, rf_30_1, rf_30_2, rf_30_3, rf_30_4, rf_33_0, rf_33_1, rf_33_2, rf_33_3, rf_39_0, rf_39_1, rf_42_0, rf_42_1, rf_42_2, rf_42_3, rf_42_4, rf_42_5, rf_43_0, rf_45_0, rf_47_0, rf_49_0, rf_51_0, rf_53_0, rf_55_2, rf_55_4, rf_55_5, rf_55_6, rf_55_10, rf_55_13, rf_55_14, rf_55_15, rf_55_16, rf_55_17, rf_55_23, rf_55_24, rf_55_25, rf_55_26, rf_55_27, rf_55_28, rf_55_29, rf_55_30, rf_55_31, rf_55_32, rf_55_37, rf_55_38, rf_55_39, rf_55_40, rf_55_47, rf_55_49, rf_55_51, rf_55_52, rf_55_53, rf_55_54, rf_55_55, ln_2, ln_4, ln_5, ln_6, ln_7, ln_9, ln_11, ln_12, ln_13, ln_15, ln_16, ln_17, ln_20, ln_21, ln_22, ln_24, ln_26, ln_28, ln_29, ln_31, ln_32, ln_34, ln_35, ln_36, ln_37, ln_38, ln_40, ln_41, ln_42, ln_44, ln_46, ln_48, ln_50, ln_52, ln_54, ln_56, ln_57, ln_58, ln_59, ln_60, ln_61, ln_62, ln_63, ln_64, ln_65, ln_66, ln_67, ln_68, ln_69, ln_70, ln_71, ln_72, ln_73, ln_74, ln_75, ln_76, ln_77, ln_78, ln_79, ln_80, ln_81, ln_82, ln_83, ln_84, ln_85, ln_86, k1, k2, e4, sub1_lt, if_neg c, ne10, ↓reduceIte, nI_clamp, vp_nI, show i < 12 by omega, true_and, y4m, if_neg d]
            exact hc
    · by_cases w2 : x2 = 2
      · subst w2
        simp only [if_neg w0, if_neg w1, ↓reduceIte, e1]
        rcases ix x1 g (by omega) with c | ⟨i, hi, rfl, c⟩
        · simp (disch := omega) only [wX12_mend, e_in, e_isTime, e_mTime, e_isShelf, e_mShelf, e_isKind, e_isNumber, e_gHas, e_pHas, e_bHas, e_isRow, e_isBook, e_isEmpty, e_isGate0, e_isPerson0, e_isBody0, if_neg w0, if_neg w1, if_pos c, e2, sub1_lt, ↓reduceIte]
          exact ⟨b1, b2, b3, hR h I⟩
        · simp only [if_neg c, ne10, ↓reduceIte]
          rcases bd x3 1 6 (l := 1) (u := 6) rfl rfl (by omega) (by omega) with d | ⟨m, d1, d2, rfl, d⟩
          · simp (disch := omega) only [wX12_mend, e_in, e_isTime, e_mTime, e_isShelf, e_mShelf, e_isKind, e_isNumber, e_gHas, e_pHas, e_bHas, e_isRow, e_isBook, e_isEmpty, e_isGate0, e_isPerson0, e_isBody0, if_neg w0, if_neg w1, if_pos d, e2, sub1_lt, if_neg c, ne10, ↓reduceIte]
            exact ⟨b1, b2, b3, hR h I⟩
          · simp only [if_neg d, ne10, ↓reduceIte]
            refine both_mend I (w := 2) (i := i) (rc := 2) (rm := 56) (v := nI m) (Or.inr (Or.inr ⟨rfl, rfl, rfl⟩)) (by omega) (fun q => by omega) (fun g' p' z1 z2 z3 z4 => ?_) (fun Q hQ => c_bec2 e1 hi hg _ hQ) (hr i hi).1 b1 b2 b3 (Q0 := Q0) hR (M := fun v2 h5 => wX12_mend 55 (nI i) 2 (nI m) h5 (fun v' h2 => if v2 = v' then R h2 else Q0)) (fun v2 h5 k1 k2 hc => ?_)
            · have : g = g' := (nI_eq (by omega) (by omega)).mp (e1.symm.trans z1)
              subst this
              obtain ⟨-, n, y6, y9⟩ := hr i hi
              exact ⟨Or.inr (Or.inr ⟨rfl, i, n, hi, rfl, y6, y9⟩), Or.inr (Or.inr ⟨rfl, i, m, hi, rfl, rfl, d1, d2⟩)⟩
            · simp (disch := omega) only [wX12_mend, e_in, e_isTime, e_mTime, e_isShelf, e_mShelf, e_isKind, e_isNumber, e_gHas, e_pHas, e_bHas, e_isRow, e_isBook, e_isEmpty, e_isGate0, e_isPerson0, e_isBody0, if_neg w0, if_neg w1, k1, e2, sub1_lt, if_neg c, if_neg d, ne10, ↓reduceIte]
              exact hc
      · simp only [wX12_mend, if_neg w0, if_neg w1, if_neg w2, ↓reduceIte]
        exact ⟨b1, b2, b3, hR h I⟩
