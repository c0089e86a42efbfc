-- image
theorem m_image {h : Hp} {p : Nat} (hp : p ≤ 12) (e : gI h 55 3 = nI p) {Q : Int32 → Hp → Prop}
    (hQ : ∀ h2 : Hp, (∀ a k, a ≠ 80 → gI h2 a k = gI h a k) → (∀ a k, gL h2 a k = gL h a k) → (∀ k, k < p → gI h2 80 k = gI h 60 k) → Q (gI h 55 7) h2) : eX12_image_39 55 Q 0 h := by
  refine iX12_image_39 (I := fun x h2 => ∃ j : Nat, x = nI j ∧ j ≤ p ∧ (∀ a k, a ≠ 80 → gI h2 a k = gI h a k) ∧ (∀ a k, gL h2 a k = gL h a k) ∧ ∀ k, k < j → gI h2 80 k = gI h 60 k) (μ := fun x _ => p - x.toNatClampNeg) ?_ 0 h ⟨0, rfl, by omega, fun _ _ _ => rfl, fun _ _ => rfl, fun k hk => by omega⟩
  rintro x h2 ⟨j, rfl, hj, f1, f2, f3⟩ K hK
  unfold fX12_image_39
  rw [f1 55 3 (by decide), e, f1 55 7 (by decide)]
  by_cases c : p ≤ j
  · rw [if_pos (nI_le c (by omega))]
    exact hQ h2 f1 f2 (fun k hk => f3 k (by omega))
  · rw [if_neg (nI_ge (by omega) (by omega))]
    simp (disch := omega) only [rf_0_0, rf_0_1, rf_0_2, rf_0_4, rf_0_5, rf_0_6, rf_0_8, rf_0_9, rf_0_10, rf_0_11, rf_0_12, rf_0_13, rf_1_0, rf_3_0, rf_3_1, rf_3_2, rf_8_0, rf_8_1, rf_8_2, rf_8_3, rf_10_0, rf_10_1, rf_10_2, rf_14_0, rf_14_1, rf_14_2, rf_18_0, rf_18_1, rf_19_0, rf_19_1, rf_19_2, rf_23_0, rf_25_0, rf_27_0, rf_27_1, rf_27_2, rf_27_3, rf_27_4, rf_30_0, rf_30_1, rf_30_2, rf_30_3, rf_30_4, rf_33_0, rf_33_1, rf_33_2, rf_33_3, rf_39_0, rf_39_1, rf_42_0, rf_42_1, rf_42_2, rf_42_3, rf_42_4, rf_42_5, rf_43_0, rf_45_0, rf_47_0, rf_49_0, rf_51_0, rf_53_0, rf_55_2, rf_55_4, rf_55_5, rf_55_6, rf_55_10, rf_55_13, rf_55_14, rf_55_15, rf_55_16, rf_55_17, rf_55_23, rf_55_24, rf_55_25, rf_55_26, rf_55_27, rf_55_28, rf_55_29, rf_55_30, rf_55_31, rf_55_32, rf_55_37, rf_55_38, rf_55_39, rf_55_40, rf_55_47, rf_55_49, rf_55_51, rf_55_52, rf_55_53, rf_55_54, rf_55_55, ln_2, ln_4, ln_5, ln_6, ln_7, ln_9, ln_11, ln_12, ln_13, ln_15, ln_16, ln_17, ln_20, ln_21, ln_22, ln_24, ln_26, ln_28, ln_29, ln_31, ln_32, ln_34, ln_35, ln_36, ln_37, ln_38, ln_40, ln_41, ln_42, ln_44, ln_46, ln_48, ln_50, ln_52, ln_54, ln_56, ln_57, ln_58, ln_59, ln_60, ln_61, ln_62, ln_63, ln_64, ln_65, ln_66, ln_67, ln_68, ln_69, ln_70, ln_71, ln_72, ln_73, ln_74, ln_75, ln_76, ln_77, ln_78, ln_79, ln_80, ln_81, ln_82, ln_83, ln_84, ln_85, ln_86, forall_eq, nI_clamp, vp_nI, nI_1]
    refine ⟨by omega, by omega, hK _ _ ⟨j + 1, rfl, by omega, fun a k ha => ?_, fun a k => ?_, fun k hk => ?_⟩ ?_⟩
    · simp only [gI_sI, gI_sL, gL_sI, gL_sL, gI_cpI, gL_cpI, gI_cpL, gL_cpL, ha, false_and, ↓reduceIte]
      exact f1 a k ha
    · simp only [gI_sI, gI_sL, gL_sI, gL_sL, gI_cpI, gL_cpI, gI_cpL, gL_cpL]
      exact f2 a k
    · simp only [gI_sI, gI_sL, gL_sI, gL_sL, gI_cpI, gL_cpI, gI_cpL, gL_cpL, true_and]
      by_cases hkj : k = j
      · subst hkj
        rw [if_pos rfl]
        exact f1 60 k (by decide)
      · rw [if_neg hkj]
        exact f3 k (by omega)
    · simp (disch := omega) only [nI_clamp]
      omega
set_option maxRecDepth 20000 in
set_option maxHeartbeats 1000000 in
theorem ok_image {h : Hp} (I : Inv h) {R : Hp → Prop} {Q0 : Prop} (hR : ∀ h', Inv h' → R h') : wX11_image 0  h (fun v h1 => wX12_image 55  h1 (fun v' h2 => if v = v' then R h2 else Q0)) := by
  obtain ⟨iG, iP, iD, iT, iI, iC, iB, iS, iL0, iL1⟩ := id I
  obtain ⟨r1, r2, r3, p, t, o, w, q0, q1, q2, q3, q4, q5, q6, q7, q8, q9, q10⟩ := id iD
  obtain ⟨p', hp', e1, e2, hr⟩ := id iP
  have : p = p' := (nI_eq (by omega) (by omega)).mp (q1.symm.trans e1)
  subst this
  simp only [wX11_image, wX3_takeFrom, wX12_image, rf_0_0, rf_0_1, rf_0_2, rf_0_4, rf_0_5, rf_0_6, rf_0_8, rf_0_9, rf_0_10, rf_0_11, rf_0_12, rf_0_13, rf_1_0, rf_3_0, rf_3_1, rf_3_2, rf_8_0, rf_8_1, rf_8_2, rf_8_3, rf_10_0, rf_10_1, rf_10_2, rf_14_0, rf_14_1, rf_14_2, rf_18_0, rf_18_1, rf_19_0, rf_19_1, rf_19_2, rf_23_0, rf_25_0, rf_27_0, rf_27_1, rf_27_2, rf_27_3, rf_27_4, rf_30_0, rf_30_1, rf_30_2, rf_30_3, rf_30_4, rf_33_0, rf_33_1, rf_33_2, rf_33_3, rf_39_0, rf_39_1, rf_42_0, rf_42_1, rf_42_2, rf_42_3, rf_42_4, rf_42_5, rf_43_0, rf_45_0, rf_47_0, rf_49_0, rf_51_0, rf_53_0, rf_55_2, rf_55_4, rf_55_5, rf_55_6, rf_55_10, rf_55_13, rf_55_14, rf_55_15, rf_55_16, rf_55_17, rf_55_23, rf_55_24, rf_55_25, rf_55_26, rf_55_27, rf_55_28, rf_55_29, rf_55_30, rf_55_31, rf_55_32, rf_55_37, rf_55_38, rf_55_39, rf_55_40, rf_55_47, rf_55_49, rf_55_51, rf_55_52, rf_55_53, rf_55_54, rf_55_55, ln_2, ln_4, ln_5, ln_6, ln_7, ln_9, ln_11, ln_12, ln_13, ln_15, ln_16, ln_17, ln_20, ln_21, ln_22, ln_24, ln_26, ln_28, ln_29, ln_31, ln_32, ln_34, ln_35, ln_36, ln_37, ln_38, ln_40, ln_41, ln_42, ln_44, ln_46, ln_48, ln_50, ln_52, ln_54, ln_56, ln_57, ln_58, ln_59, ln_60, ln_61, ln_62, ln_63, ln_64, ln_65, ln_66, ln_67, ln_68, ln_69, ln_70, ln_71, ln_72, ln_73, ln_74, ln_75, ln_76, ln_77, ln_78, ln_79, ln_80, ln_81, ln_82, ln_83, ln_84, ln_85, ln_86, forall_eq, gI_sI, gI_sL, gL_sI, gL_sL, gI_cpI, gL_cpI, gI_cpL, gL_cpL, Nat.reduceEqDiff, Nat.reduceAdd, Nat.reduceSub, cl0, cl1, cl12, cl39, and_false, false_and, and_true, true_and, and_self, ↓reduceIte]
  refine ⟨by decide, ?_⟩
  apply m_image (p := p) hp'
  · simp only [forall_eq, gI_sI, gI_sL, gL_sI, gL_sL, gI_cpI, gL_cpI, gI_cpL, gL_cpL, Nat.reduceEqDiff, Nat.reduceAdd, Nat.reduceSub, cl0, cl1, cl12, cl39, and_false, false_and, and_true, true_and, and_self, ↓reduceIte]; exact e2
  · intro h2 f1 f2 f3
    obtain ⟨g1, g2, g3, g4⟩ := agr f1 f2 (by decide)
    rw [if_pos (by simp only [forall_eq, gI_sI, gI_sL, gL_sI, gL_sL, gI_cpI, gL_cpI, gI_cpL, gL_cpL, Nat.reduceEqDiff, Nat.reduceAdd, Nat.reduceSub, cl0, cl1, cl12, cl39, and_false, false_and, and_true, true_and, and_self, ↓reduceIte]; exact r1.symm)]
    apply hR
    unfold Inv
    simp (disch := decide) only [f1, g1, g2, g3, g4]
    simp [gI_sI, gI_sL, gL_sI, gL_sL, gI_cpI, gL_cpI, gI_cpL, gL_cpL, rI_sI, rI_sL, rL_sI, rL_sL, shV_sI, shV_sL, shE_sI, shE_sL, rI_cpI, rL_cpI, rI_cpL, rL_cpL, shV_cpI, shE_cpI, shV_cpL]
    refine ⟨iG, iP, iD, iT, ?_, iC, iB, iS, iL0, iL1⟩
    refine Or.inr ⟨rfl, rfl, r1, r2, r3, p, p, t, o, w, q1, Nat.le_refl _, hp', e2, q2, q3, q4, q5, q6, q7, q8, fun k hk => ?_, fun k hk hk2 => ?_⟩
    · have := f3 k hk
      simp only [forall_eq, gI_sI, gI_sL, gL_sI, gL_sL, gI_cpI, gL_cpI, gI_cpL, gL_cpL, Nat.reduceEqDiff, Nat.reduceAdd, Nat.reduceSub, cl0, cl1, cl12, cl39, and_false, false_and, and_true, true_and, and_self, ↓reduceIte] at this
      show gI h2 80 k = _
      rw [this]
      simp only [rI, gI_cpI]
      simp [show k < 12 by omega, gI_sI, gI_sL, gL_sI, gL_sL, gI_cpI, gL_cpI, gI_cpL, gL_cpL]
      exact q9 k hk
    · simp only [rI, gI_cpI]
      simp [hk2, gI_sI, gI_sL, gL_sI, gL_sL, gI_cpI, gL_cpI, gI_cpL, gL_cpL]
      exact q10 k hk hk2
-- back
theorem m_back {h : Hp} {p q : Nat} (hp : p ≤ 12) (e : gI h 55 3 = nI p) (hq : q ≤ p) (e4 : gI h 55 46 = nI q) {Q : Int32 → Hp → Prop}
    (hQ : ∀ h2 : Hp, (∀ a k, a ≠ 60 → gI h2 a k = gI h a k) → (∀ a k, gL h2 a k = gL h a k) → (∀ k, k < q → gI h2 60 k = gI h 80 k) → (∀ k, q ≤ k → k < p → gI h2 60 k = 0) → Q (gI h 55 7) h2) : eX12_back_36 55 Q 0 h := by
  refine iX12_back_36 (I := fun x h2 => ∃ j : Nat, x = nI j ∧ j ≤ p ∧ (∀ a k, a ≠ 60 → gI h2 a k = gI h a k) ∧ (∀ a k, gL h2 a k = gL h a k) ∧ (∀ k, k < j → k < q → gI h2 60 k = gI h 80 k) ∧ ∀ k, k < j → q ≤ k → gI h2 60 k = 0) (μ := fun x _ => p - x.toNatClampNeg) ?_ 0 h ⟨0, rfl, by omega, fun _ _ _ => rfl, fun _ _ => rfl, fun k hk => by omega, fun k hk => by omega⟩
  rintro x h2 ⟨j, rfl, hj, f1, f2, f3, f4⟩ K hK
  unfold fX12_back_36
  rw [f1 55 3 (by decide), e, f1 55 7 (by decide), f1 55 46 (by decide), e4]
  by_cases c : p ≤ j
  · rw [if_pos (nI_le c (by omega))]
    exact hQ h2 f1 f2 (fun k hk => f3 k (by omega) hk) (fun k hk hk2 => f4 k (by omega) hk)
  · rw [if_neg (nI_ge (by omega) (by omega))]
    by_cases c2 : q ≤ j
    · rw [if_pos (nI_le c2 (by omega))]
      simp (disch := omega) only [rf_0_0, rf_0_1, rf_0_2, rf_0_4, rf_0_5, rf_0_6, rf_0_8, rf_0_9, rf_0_10, rf_0_11, rf_0_12, rf_0_13, rf_1_0, rf_3_0, rf_3_1, rf_3_2, rf_8_0, rf_8_1, rf_8_2, rf_8_3, rf_10_0, rf_10_1, rf_10_2, rf_14_0, rf_14_1, rf_14_2, rf_18_0, rf_18_1, rf_19_0, rf_19_1, rf_19_2, rf_23_0, rf_25_0, rf_27_0, rf_27_1, rf_27_2, rf_27_3, rf_27_4, rf_30_0, rf_30_1, rf_30_2, rf_30_3, rf_30_4, rf_33_0, rf_33_1, rf_33_2, rf_33_3, rf_39_0, rf_39_1, rf_42_0, rf_42_1, rf_42_2, rf_42_3, rf_42_4, rf_42_5, rf_43_0, rf_45_0, rf_47_0, rf_49_0, rf_51_0, rf_53_0, rf_55_2, rf_55_4, rf_55_5, rf_55_6, rf_55_10, rf_55_13, rf_55_14, rf_55_15, rf_55_16, rf_55_17, rf_55_23, rf_55_24, rf_55_25, rf_55_26, rf_55_27, rf_55_28, rf_55_29, rf_55_30, rf_55_31, rf_55_32, rf_55_37, rf_55_38, rf_55_39, rf_55_40, rf_55_47, rf_55_49, rf_55_51, rf_55_52, rf_55_53, rf_55_54, rf_55_55, ln_2, ln_4, ln_5, ln_6, ln_7, ln_9, ln_11, ln_12, ln_13, ln_15, ln_16, ln_17, ln_20, ln_21, ln_22, ln_24, ln_26, ln_28, ln_29, ln_31, ln_32, ln_34, ln_35, ln_36, ln_37, ln_38, ln_40, ln_41, ln_42, ln_44, ln_46, ln_48, ln_50, ln_52, ln_54, ln_56, ln_57, ln_58, ln_59, ln_60, ln_61, ln_62, ln_63, ln_64, ln_65, ln_66, ln_67, ln_68, ln_69, ln_70, ln_71, ln_72, ln_73, ln_74, ln_75, ln_76, ln_77, ln_78, ln_79, ln_80, ln_81, ln_82, ln_83, ln_84, ln_85, ln_86, forall_eq, nI_clamp, vp_nI, nI_1]
      refine ⟨by omega, hK _ _ ⟨j + 1, rfl, by omega, fun a k ha => ?_, fun a k => ?_, fun k hk hk2 => ?_, fun k hk hk2 => ?_⟩ ?_⟩
      · simp only [gI_sI, gI_sL, gL_sI, gL_sL, gI_cpI, gL_cpI, gI_cpL, gL_cpL, ha, false_and, ↓reduceIte]
        exact f1 a k ha
      · simp only [gI_sI, gI_sL, gL_sI, gL_sL, gI_cpI, gL_cpI, gI_cpL, gL_cpL]
        exact f2 a k
      · simp only [gI_sI, gI_sL, gL_sI, gL_sL, gI_cpI, gL_cpI, gI_cpL, gL_cpL, true_and]
        rw [if_neg (by omega)]
        exact f3 k (by omega) hk2
      · simp only [gI_sI, gI_sL, gL_sI, gL_sL, gI_cpI, gL_cpI, gI_cpL, gL_cpL, true_and]
        by_cases hkj : k = j
        · rw [if_pos hkj]
        · rw [if_neg hkj]
          exact f4 k (by omega) hk2
      · simp (disch := omega) only [nI_clamp]
        omega
    · rw [if_neg (nI_ge (by omega) (by omega))]
      simp (disch := omega) only [rf_0_0, rf_0_1, rf_0_2, rf_0_4, rf_0_5, rf_0_6, rf_0_8, rf_0_9, rf_0_10, rf_0_11, rf_0_12, rf_0_13, rf_1_0, rf_3_0, rf_3_1, rf_3_2, rf_8_0, rf_8_1, rf_8_2, rf_8_3, rf_10_0, rf_10_1, rf_10_2, rf_14_0, rf_14_1, rf_14_2, rf_18_0, rf_18_1, rf_19_0, rf_19_1, rf_19_2, rf_23_0, rf_25_0, rf_27_0, rf_27_1, rf_27_2, rf_27_3, rf_27_4, rf_30_0, rf_30_1, rf_30_2, rf_30_3, rf_30_4, rf_33_0, rf_33_1, rf_33_2, rf_33_3, rf_39_0, rf_39_1, rf_42_0, rf_42_1, rf_42_2, rf_42_3, rf_42_4, rf_42_5, rf_43_0, rf_45_0, rf_47_0, rf_49_0, rf_51_0, rf_53_0, rf_55_2, rf_55_4, rf_55_5, rf_55_6, rf_55_10, rf_55_13, rf_55_14, rf_55_15, rf_55_16, rf_55_17, rf_55_23, rf_55_24, rf_55_25, rf_55_26, rf_55_27, rf_55_28, rf_55_29, rf_55_30, rf_55_31, rf_55_32, rf_55_37, rf_55_38, rf_55_39, rf_55_40, rf_55_47, rf_55_49, rf_55_51, rf_55_52, rf_55_53, rf_55_54, rf_55_55, ln_2, ln_4, ln_5, ln_6, ln_7, ln_9, ln_11, ln_12, ln_13, ln_15, ln_16, ln_17, ln_20, ln_21, ln_22, ln_24, ln_26, ln_28, ln_29, ln_31, ln_32, ln_34, ln_35, ln_36, ln_37, ln_38, ln_40, ln_41, ln_42, ln_44, ln_46, ln_48, ln_50, ln_52, ln_54, ln_56, ln_57, ln_58, ln_59, ln_60, ln_61, ln_62, ln_63, ln_64, ln_65, ln_66, ln_67, ln_68, ln_69, ln_70, ln_71, ln_72, ln_73, ln_74, ln_75, ln_76, ln_77, ln_78, ln_79, ln_80, ln_81, ln_82, ln_83, ln_84, ln_85, ln_86, forall_eq, nI_clamp, vp_nI, nI_1]
      refine ⟨by omega, by omega, hK _ _ ⟨j + 1, rfl, by omega, fun a k ha => ?_, fun a k => ?_, fun k hk hk2 => ?_, fun k hk hk2 => ?_⟩ ?_⟩
      · simp only [gI_sI, gI_sL, gL_sI, gL_sL, gI_cpI, gL_cpI, gI_cpL, gL_cpL, ha, false_and, ↓reduceIte]
        exact f1 a k ha
      · simp only [gI_sI, gI_sL, gL_sI, gL_sL, gI_cpI, gL_cpI, gI_cpL, gL_cpL]
        exact f2 a k
      · simp only [gI_sI, gI_sL, gL_sI, gL_sL, gI_cpI, gL_cpI, gI_cpL, gL_cpL, true_and]
        by_cases hkj : k = j
        · subst hkj
          rw [if_pos rfl]
          exact f1 80 k (by decide)
        · rw [if_neg hkj]
          exact f3 k (by omega) hk2
      · omega
      · simp (disch := omega) only [nI_clamp]
        omega
set_option maxRecDepth 20000 in
set_option maxHeartbeats 1000000 in
theorem ok_back {h : Hp} (I : Inv h) {R : Hp → Prop} {Q0 : Prop} (hR : ∀ h', Inv h' → R h') : wX11_back 0  h (fun v h1 => wX12_back 55  h1 (fun v' h2 => if v = v' then R h2 else Q0)) := by
  obtain ⟨iG, iP, iD, iT, iI, iC, iB, iS, iL0, iL1⟩ := id I
  obtain ⟨r1, r2, r3, p, t, o, w, q0, q1, q2, q3, q4, q5, q6, q7, q8, q9, q10⟩ := id iD
  obtain ⟨p', hp', e1, e2, hr⟩ := id iP
  have : p = p' := (nI_eq (by omega) (by omega)).mp (q1.symm.trans e1)
  subst this
  simp only [wX11_back, wX3_takeFrom, wX12_back, rf_0_0, rf_0_1, rf_0_2, rf_0_4, rf_0_5, rf_0_6, rf_0_8, rf_0_9, rf_0_10, rf_0_11, rf_0_12, rf_0_13, rf_1_0, rf_3_0, rf_3_1, rf_3_2, rf_8_0, rf_8_1, rf_8_2, rf_8_3, rf_10_0, rf_10_1, rf_10_2, rf_14_0, rf_14_1, rf_14_2, rf_18_0, rf_18_1, rf_19_0, rf_19_1, rf_19_2, rf_23_0, rf_25_0, rf_27_0, rf_27_1, rf_27_2, rf_27_3, rf_27_4, rf_30_0, rf_30_1, rf_30_2, rf_30_3, rf_30_4, rf_33_0, rf_33_1, rf_33_2, rf_33_3, rf_39_0, rf_39_1, rf_42_0, rf_42_1, rf_42_2, rf_42_3, rf_42_4, rf_42_5, rf_43_0, rf_45_0, rf_47_0, rf_49_0, rf_51_0, rf_53_0, rf_55_2, rf_55_4, rf_55_5, rf_55_6, rf_55_10, rf_55_13, rf_55_14, rf_55_15, rf_55_16, rf_55_17, rf_55_23, rf_55_24, rf_55_25, rf_55_26, rf_55_27, rf_55_28, rf_55_29, rf_55_30, rf_55_31, rf_55_32, rf_55_37, rf_55_38, rf_55_39, rf_55_40, rf_55_47, rf_55_49, rf_55_51, rf_55_52, rf_55_53, rf_55_54, rf_55_55, ln_2, ln_4, ln_5, ln_6, ln_7, ln_9, ln_11, ln_12, ln_13, ln_15, ln_16, ln_17, ln_20, ln_21, ln_22, ln_24, ln_26, ln_28, ln_29, ln_31, ln_32, ln_34, ln_35, ln_36, ln_37, ln_38, ln_40, ln_41, ln_42, ln_44, ln_46, ln_48, ln_50, ln_52, ln_54, ln_56, ln_57, ln_58, ln_59, ln_60, ln_61, ln_62, ln_63, ln_64, ln_65, ln_66, ln_67, ln_68, ln_69, ln_70, ln_71, ln_72, ln_73, ln_74, ln_75, ln_76, ln_77, ln_78, ln_79, ln_80, ln_81, ln_82, ln_83, ln_84, ln_85, ln_86, forall_eq, gI_sI, gI_sL, gL_sI, gL_sL, gI_cpI, gL_cpI, gI_cpL, gL_cpL, Nat.reduceEqDiff, Nat.reduceAdd, Nat.reduceSub, cl0, cl1, cl12, cl39, and_false, false_and, and_true, true_and, and_self, ↓reduceIte]
  rcases id iI with ⟨s1, s2⟩ | ⟨s1, s2, s3, s4, s5, p', q, t', o', w', u1, u2, u3, u4, u5, u6, u7, u8, u9, u10, u11, u12, u13⟩
  · simp only [s1, s2, ↓reduceIte]
    exact hR h I
  · have : p = p' := (nI_eq (by omega) (by omega)).mp (q1.symm.trans u1)
    subst this
    simp only [s1, s2, ne10, ↓reduceIte]
    refine ⟨by decide, ?_⟩
    apply m_back (p := p) (q := q) hp'
    · simp only [forall_eq, gI_sI, gI_sL, gL_sI, gL_sL, gI_cpI, gL_cpI, gI_cpL, gL_cpL, Nat.reduceEqDiff, Nat.reduceAdd, Nat.reduceSub, cl0, cl1, cl12, cl39, and_false, false_and, and_true, true_and, and_self, ↓reduceIte]; exact e2
    · exact u2
    · simp only [forall_eq, gI_sI, gI_sL, gL_sI, gL_sL, gI_cpI, gL_cpI, gI_cpL, gL_cpL, Nat.reduceEqDiff, Nat.reduceAdd, Nat.reduceSub, cl0, cl1, cl12, cl39, and_false, false_and, and_true, true_and, and_self, ↓reduceIte]; exact u4
    · intro h2 f1 f2 f3 f4
      obtain ⟨g1, g2, g3, g4⟩ := agr f1 f2 (by decide)
      rw [if_pos (by simp only [forall_eq, gI_sI, gI_sL, gL_sI, gL_sL, gI_cpI, gL_cpI, gI_cpL, gL_cpL, Nat.reduceEqDiff, Nat.reduceAdd, Nat.reduceSub, cl0, cl1, cl12, cl39, and_false, false_and, and_true, true_and, and_self, ↓reduceIte]; exact s3.symm)]
      apply hR
      unfold Inv
      simp (disch := decide) only [f1, g1, g2, g3, g4]
      simp [gI_sI, gI_sL, gL_sI, gL_sL, gI_cpI, gL_cpI, gI_cpL, gL_cpL, rI_sI, rI_sL, rL_sI, rL_sL, shV_sI, shV_sL, shE_sI, shE_sL, rI_cpI, rL_cpI, rI_cpL, rL_cpL, shV_cpI, shE_cpI, shV_cpL]
      refine ⟨iG, iP, ?_, iT, iI, iC, iB, iS, iL0, iL1⟩
      have hpw : 2 ^ q ≤ 2 ^ p := Nat.pow_le_pow_right (by omega) u2
      refine ⟨s3, s4, s5, p, t', o', w', hp', q1, u5, u6, u7, u8, by omega, by omega, u11, fun k hk => ?_, fun k hk hk2 => ?_⟩
      · show gI h2 60 k = _
        simp only [rI, gI_cpI]
        simp [show k < 12 by omega, gI_sI, gI_sL, gL_sI, gL_sL, gI_cpI, gL_cpI, gI_cpL, gL_cpL]
        by_cases c : k < q
        · rw [f3 k c]
          simp [gI_sI, gI_sL, gL_sI, gL_sL, gI_cpI, gL_cpI, gI_cpL, gL_cpL]
          exact u12 k c
        · rw [f4 k (by omega) hk]
          exact (u13 k (by omega) (by omega)).symm
      · simp only [rI, gI_cpI]
        simp [hk2, gI_sI, gI_sL, gL_sI, gL_sL, gI_cpI, gL_cpI, gI_cpL, gL_cpL]
        exact u13 k (by omega) hk2
