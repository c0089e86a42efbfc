def pay1 (p W : Nat) (c pd : Nat → Int32) : Nat → Int32 := fun k => if decide (k < p) && W.testBit k then pd k + c k else pd k
def payJ (p : Nat) (W : Nat → Nat) (c pd : Nat → Int32) : Nat → (Nat → Int32)
  | 0 => pd
  | j + 1 => pay1 p (W j) c (payJ p W c pd j)
theorem payJ_hi {p : Nat} {W : Nat → Nat} {c pd : Nat → Int32} {k : Nat} (hk : p ≤ k) : ∀ j, payJ p W c pd j k = pd k
  | 0 => rfl
  | j + 1 => by
    have ih := payJ_hi (p := p) (W := W) (c := c) (pd := pd) hk j
    simp [payJ, pay1, show ¬ k < p by omega, ih]
theorem payJ_eq {p : Nat} {W : Nat → Nat} {c c' pd pd' : Nat → Int32} (hc : ∀ k, k < p → c k = c' k) (hp : ∀ k, k < p → pd k = pd' k) {k : Nat} (hk : k < p) : ∀ j, payJ p W c pd j k = payJ p W c' pd' j k
  | 0 => hp k hk
  | j + 1 => by
    have ih := payJ_eq (W := W) hc hp hk j
    simp only [payJ, pay1, ih, hc k hk]
/-- the class pays those who wait -/
theorem c_pay {h : Hp} {p W : Nat} (hp : p ≤ 12) (e : gI h 3 3 = nI p) (hW : W < 4096) {Q : Hp → Prop}
    (hQ : ∀ h2 : Hp, (∀ a k, a ≠ 24 → gI h2 a k = gI h a k) → (∀ a k, gL h2 a k = gL h a k) → rI h2 24 = pay1 p W (rI h 6) (rI h 24) → Q h2) : wX3_pay 23 3 (nI W) h Q := by
  unfold wX3_pay
  refine iX3_pay_2 (I := fun x h2 => ∃ j : Nat, x = nI j ∧ j ≤ p ∧ (∀ a k, a ≠ 24 → gI h2 a k = gI h a k) ∧ (∀ a k, gL h2 a k = gL h a k) ∧ ∀ k, gI h2 24 k = pay1 j W (rI h 6) (rI h 24) k) (μ := fun x _ => p - x.toNatClampNeg) ?_ 0 h ⟨0, rfl, by omega, fun _ _ _ => rfl, fun _ _ => rfl, fun k => by simp [pay1, rI]⟩
  rintro x h2 ⟨j, rfl, hj, f1, f2, f3⟩ K hK
  unfold fX3_pay_2
  rw [f1 3 3 (by decide), e]
  by_cases c : p ≤ j
  · rw [if_pos (nI_le c (by omega))]
    have : j = p := by omega
    subst this
    exact hQ h2 f1 f2 (funext f3)
  · rw [if_neg (nI_ge (by omega) (by omega))]
    simp only [wX11_bit]
    rw [bit_nI (by omega) (by omega)]
    simp (disch := omega) only [rf_0_0, rf_0_1, rf_0_2, rf_0_4, rf_0_5, rf_0_6, rf_0_8, rf_0_9, rf_0_10, rf_0_11, rf_0_12, rf_0_13, rf_1_0, rf_3_0, rf_3_1, rf_3_2, rf_8_0, rf_8_1, rf_8_2, rf_8_3, rf_10_0, rf_10_1, rf_10_2, rf_14_0, rf_14_1, rf_14_2, rf_18_0, rf_18_1, rf_19_0, rf_19_1, rf_19_2, rf_23_0, rf_25_0, rf_27_0, rf_27_1, rf_27_2, rf_27_3, rf_27_4, rf_30_0, rf_30_1, rf_30_2, rf_30_3, rf_30_4, rf_33_0, rf_33_1, rf_33_2, rf_33_3, rf_39_0, rf_39_1, rf_42_0, rf_42_1, rf_42_2, rf_42_3, rf_42_4, rf_42_5, rf_43_0, rf_45_0, rf_47_0, rf_49_0, rf_51_0, rf_53_0, rf_55_2, rf_55_4, rf_55_5, rf_55_6, rf_55_10, rf_55_13, rf_55_14, rf_55_15, rf_55_16, rf_55_17, rf_55_23, rf_55_24, rf_55_25, rf_55_26, rf_55_27, rf_55_28, rf_55_29, rf_55_30, rf_55_31, rf_55_32, rf_55_37, rf_55_38, rf_55_39, rf_55_40, rf_55_47, rf_55_49, rf_55_51, rf_55_52, rf_55_53, rf_55_54, rf_55_55, ln_2, ln_4, ln_5, ln_6, ln_7, ln_9, ln_11, ln_12, ln_13, ln_15, ln_16, ln_17, ln_20, ln_21, ln_22, ln_24, ln_26, ln_28, ln_29, ln_31, ln_32, ln_34, ln_35, ln_36, ln_37, ln_38, ln_40, ln_41, ln_42, ln_44, ln_46, ln_48, ln_50, ln_52, ln_54, ln_56, ln_57, ln_58, ln_59, ln_60, ln_61, ln_62, ln_63, ln_64, ln_65, ln_66, ln_67, ln_68, ln_69, ln_70, ln_71, ln_72, ln_73, ln_74, ln_75, ln_76, ln_77, ln_78, ln_79, ln_80, ln_81, ln_82, ln_83, ln_84, ln_85, ln_86, forall_eq, nI_clamp, vp_nI, nI_1]
    have dec : p - (nI (j + 1)).toNatClampNeg < p - (nI j).toNatClampNeg := by
      rw [nI_clamp (by omega), nI_clamp (by omega)]; omega
    cases hb : W.testBit j
    · simp only [Bool.false_eq_true, ↓reduceIte]
      refine hK _ _ ⟨j + 1, rfl, by omega, f1, f2, fun k => ?_⟩ dec
      rw [f3 k]
      unfold pay1
      by_cases hkj : k = j
      · subst hkj; simp [hb]
      · by_cases h1 : k < j
        · simp [h1, show k < j + 1 by omega]
        · simp [h1, show ¬ k < j + 1 by omega]
    · simp only [↓reduceIte, ne10]
      refine ⟨by omega, by omega, by omega, hK _ _ ⟨j + 1, rfl, by omega, fun a k ha => ?_, fun a k => ?_, fun k => ?_⟩ dec⟩
      · simp only [gI_sI, gI_sL, gL_sI, gL_sL, gI_cpI, gL_cpI, gI_cpL, gL_cpL, ha, false_and, ↓reduceIte]
        exact f1 a k ha
      · simp only [gI_sI, gI_sL, gL_sI, gL_sL, gI_cpI, gL_cpI, gI_cpL, gL_cpL]
        exact f2 a k
      · simp only [gI_sI, gI_sL, gL_sI, gL_sL, gI_cpI, gL_cpI, gI_cpL, gL_cpL, true_and]
        by_cases hkj : k = j
        · subst hkj
          rw [if_pos rfl, f3 k, f1 6 k (by decide)]
          unfold pay1
          simp [hb, rI]
        · rw [if_neg hkj, f3 k]
          unfold pay1
          by_cases h1 : k < j
          · simp [h1, show k < j + 1 by omega]
          · simp [h1, show ¬ k < j + 1 by omega]
theorem PN.kept {h h2 : Hp} {p : Nat} (P : PN h p) (f1 : gI h2 3 3 = gI h 3 3) (f2 : gI h2 55 3 = gI h 55 3) (f3 : rI h2 4 = rI h 4) (f4 : rI h2 5 = rI h 5) (f5 : rI h2 6 = rI h 6) (f6 : rI h2 57 = rI h 57) (f7 : rI h2 58 = rI h 58) (f8 : rI h2 59 = rI h 59) : PN h2 p := by
  obtain ⟨hp, e1, e2, hq⟩ := P
  refine ⟨hp, f1.trans e1, f2.trans e2, fun k hk => ?_⟩
  rw [f3, f4, f5]
  have g3 : gI h2 4 k = gI h 4 k := congrFun f3 k
  have g4 : gI h2 5 k = gI h 5 k := congrFun f4 k
  have g5 : gI h2 6 k = gI h 6 k := congrFun f5 k
  have g6 : gI h2 57 k = gI h 57 k := congrFun f6 k
  have g7 : gI h2 58 k = gI h 58 k := congrFun f7 k
  have g8 : gI h2 59 k = gI h 59 k := congrFun f8 k
  rw [g3, g4, g5, g6, g7, g8]
  exact hq k hk
theorem Wt_kept {h h2 : Hp} (f3 : rI h2 4 = rI h 4) (f4 : rI h2 5 = rI h 5) (p t o w : Nat) : Wt h2 p t o w = Wt h p t o w := by
  unfold Wt hL hRt
  rw [f3, f4]
/-- the class's ticks -/
theorem c_ticks {h : Hp} {p t o w n : Nat} (P : PN h p) (htn : t + n ≤ 60) (e1 : gI h 23 1 = nI t) (e2 : gI h 23 2 = nI o) (e3 : gI h 23 3 = nI w) (ho : o < 2 ^ p) (how : o &&& w = o) {Q : Int32 → Hp → Prop}
    (hQ : ∀ h2 : Hp, (∀ a k, a ≠ 24 → (a = 23 → k ≠ 1) → gI h2 a k = gI h a k) → (∀ a k, gL h2 a k = gL h a k) → gI h2 23 1 = nI (t + n) → rI h2 24 = payJ p (fun j => Wt h p (t + j) o w) (rI h 6) (rI h 24) n → Q (nI (t + n)) h2) : eX11_tick_32 0 (nI n) Q 0 h := by
  refine iX11_tick_32 (I := fun x h2 => ∃ j : Nat, x = nI j ∧ j ≤ n ∧ (∀ a k, a ≠ 24 → (a = 23 → k ≠ 1) → gI h2 a k = gI h a k) ∧ (∀ a k, gL h2 a k = gL h a k) ∧ gI h2 23 1 = nI (t + j) ∧ rI h2 24 = payJ p (fun j => Wt h p (t + j) o w) (rI h 6) (rI h 24) j) (μ := fun x _ => n - x.toNatClampNeg) ?_ 0 h ⟨0, rfl, by omega, fun _ _ _ _ => rfl, fun _ _ => rfl, e1, rfl⟩
  rintro x h2 ⟨j, rfl, hj, f1, f2, f3, f4⟩ K hK
  unfold fX11_tick_32
  by_cases c : n ≤ j
  · rw [if_pos (nI_le c (by omega))]
    have : j = n := by omega
    subst this
    simp only [rf_0_0, rf_0_1, rf_0_2, rf_0_4, rf_0_5, rf_0_6, rf_0_8, rf_0_9, rf_0_10, rf_0_11, rf_0_12, rf_0_13, rf_1_0, rf_3_0, rf_3_1, rf_3_2, rf_8_0, rf_8_1, rf_8_2, rf_8_3, rf_10_0, rf_10_1, rf_10_2, rf_14_0, rf_14_1, rf_14_2, rf_18_0, rf_18_1, rf_19_0, rf_19_1, rf_19_2, rf_23_0, rf_25_0, rf_27_0, rf_27_1, rf_27_2, rf_27_3, rf_27_4, rf_30_0, rf_30_1, rf_30_2, rf_30_3, rf_30_4, rf_33_0, rf_33_1, rf_33_2, rf_33_3, rf_39_0, rf_39_1, rf_42_0, rf_42_1, rf_42_2, rf_42_3, rf_42_4, rf_42_5, rf_43_0, rf_45_0, rf_47_0, rf_49_0, rf_51_0, rf_53_0, rf_55_2, rf_55_4, rf_55_5, rf_55_6, rf_55_10, rf_55_13, rf_55_14, rf_55_15, rf_55_16, rf_55_17, rf_55_23, rf_55_24, rf_55_25, rf_55_26, rf_55_27, rf_55_28, rf_55_29, rf_55_30, rf_55_31, rf_55_32, rf_55_37, rf_55_38, rf_55_39, rf_55_40, rf_55_47, rf_55_49, rf_55_51, rf_55_52, rf_55_53, rf_55_54, rf_55_55, ln_2, ln_4, ln_5, ln_6, ln_7, ln_9, ln_11, ln_12, ln_13, ln_15, ln_16, ln_17, ln_20, ln_21, ln_22, ln_24, ln_26, ln_28, ln_29, ln_31, ln_32, ln_34, ln_35, ln_36, ln_37, ln_38, ln_40, ln_41, ln_42, ln_44, ln_46, ln_48, ln_50, ln_52, ln_54, ln_56, ln_57, ln_58, ln_59, ln_60, ln_61, ln_62, ln_63, ln_64, ln_65, ln_66, ln_67, ln_68, ln_69, ln_70, ln_71, ln_72, ln_73, ln_74, ln_75, ln_76, ln_77, ln_78, ln_79, ln_80, ln_81, ln_82, ln_83, ln_84, ln_85, ln_86, f3]
    exact hQ h2 f1 f2 f3 f4
  · rw [if_neg (nI_ge (by omega) (by omega))]
    have R : ∀ a, a ≠ 24 → a ≠ 23 → rI h2 a = rI h a := fun a h1 h3 => funext fun k => f1 a k h1 (fun q => absurd q h3)
    have P2 : PN h2 p := P.kept (f1 _ _ (by decide) (by decide)) (f1 _ _ (by decide) (by decide)) (R _ (by decide) (by decide)) (R _ (by decide) (by decide)) (R _ (by decide) (by decide)) (R _ (by decide) (by decide)) (R _ (by decide) (by decide)) (R _ (by decide) (by decide))
    apply c_waitingNow P2 (t := t + j) (o := o) (w := w) (by omega) f3 (by rw [f1 _ _ (by decide) (by decide)]; exact e2) (by rw [f1 _ _ (by decide) (by decide)]; exact e3) ho how
    simp only [rf_0_0, rf_0_1, rf_0_2, rf_0_4, rf_0_5, rf_0_6, rf_0_8, rf_0_9, rf_0_10, rf_0_11, rf_0_12, rf_0_13, rf_1_0, rf_3_0, rf_3_1, rf_3_2, rf_8_0, rf_8_1, rf_8_2, rf_8_3, rf_10_0, rf_10_1, rf_10_2, rf_14_0, rf_14_1, rf_14_2, rf_18_0, rf_18_1, rf_19_0, rf_19_1, rf_19_2, rf_23_0, rf_25_0, rf_27_0, rf_27_1, rf_27_2, rf_27_3, rf_27_4, rf_30_0, rf_30_1, rf_30_2, rf_30_3, rf_30_4, rf_33_0, rf_33_1, rf_33_2, rf_33_3, rf_39_0, rf_39_1, rf_42_0, rf_42_1, rf_42_2, rf_42_3, rf_42_4, rf_42_5, rf_43_0, rf_45_0, rf_47_0, rf_49_0, rf_51_0, rf_53_0, rf_55_2, rf_55_4, rf_55_5, rf_55_6, rf_55_10, rf_55_13, rf_55_14, rf_55_15, rf_55_16, rf_55_17, rf_55_23, rf_55_24, rf_55_25, rf_55_26, rf_55_27, rf_55_28, rf_55_29, rf_55_30, rf_55_31, rf_55_32, rf_55_37, rf_55_38, rf_55_39, rf_55_40, rf_55_47, rf_55_49, rf_55_51, rf_55_52, rf_55_53, rf_55_54, rf_55_55, ln_2, ln_4, ln_5, ln_6, ln_7, ln_9, ln_11, ln_12, ln_13, ln_15, ln_16, ln_17, ln_20, ln_21, ln_22, ln_24, ln_26, ln_28, ln_29, ln_31, ln_32, ln_34, ln_35, ln_36, ln_37, ln_38, ln_40, ln_41, ln_42, ln_44, ln_46, ln_48, ln_50, ln_52, ln_54, ln_56, ln_57, ln_58, ln_59, ln_60, ln_61, ln_62, ln_63, ln_64, ln_65, ln_66, ln_67, ln_68, ln_69, ln_70, ln_71, ln_72, ln_73, ln_74, ln_75, ln_76, ln_77, ln_78, ln_79, ln_80, ln_81, ln_82, ln_83, ln_84, ln_85, ln_86]
    have hb := setB_lt (wts (hL h2) (hRt h2) (t + j) o w) p
    have h12 := p12 P.1
    apply c_pay P.1 P2.2.1 (by unfold Wt; omega)
    intro h3 k1 k2 k3
    simp only [forall_eq]
    rw [k1 23 1 (by decide), f3, nI_1, nI_1]
    refine hK _ _ ⟨j + 1, rfl, by omega, fun a k h1 h4 => ?_, fun a k => ?_, ?_, ?_⟩ (by rw [nI_clamp (by omega), nI_clamp (by omega)]; omega)
    · rw [gI_sI, if_neg (fun q => h4 q.1 q.2), k1 a k h1, f1 a k h1 h4]
    · rw [gL_sI, k2, f2]
    · simp only [forall_eq, gI_sI, gI_sL, gL_sI, gL_sL, gI_cpI, gL_cpI, gI_cpL, gL_cpL, Nat.reduceEqDiff, Nat.reduceAdd, Nat.reduceSub, cl0, cl1, cl12, cl39, and_false, false_and, and_true, true_and, and_self, ↓reduceIte]
      rfl
    · rw [rI_sI, if_neg (by decide), k3, f4, R 6 (by decide) (by decide), Wt_kept (R _ (by decide) (by decide)) (R _ (by decide) (by decide))]
      rfl
theorem m_payers {h : Hp} {p t o w : Nat} (P : PN h p) (ht : t ≤ 60) (e1 : gI h 55 7 = nI t) (e2 : gI h 55 8 = nI o) (e3 : gI h 55 9 = nI w) (ho : o < 4096) (hw : w < 4096) {n x2 : Int32} {K28 : Int32 → Hp → Prop} {Q : Int32 → Hp → Prop}
    (hQ : ∀ h2 : Hp, (∀ a k, a ≠ 60 → gI h2 a k = gI h a k) → (∀ a k, gL h2 a k = gL h a k) → rI h2 60 = pay1 p (Wt h p t o w) (rI h 59) (rI h 60) → K28 (x2 + 1) (sI h2 55 7 (gI h2 55 7 + 1))) : eX12_tick_35 55 n x2 K28 Q 0 h := by
  refine iX12_tick_35 (I := fun x h2 => ∃ j : Nat, x = nI j ∧ j ≤ p ∧ (∀ a k, a ≠ 60 → gI h2 a k = gI h a k) ∧ (∀ a k, gL h2 a k = gL h a k) ∧ ∀ k, gI h2 60 k = pay1 j (Wt h p t o w) (rI h 59) (rI h 60) k) (μ := fun x _ => p - x.toNatClampNeg) ?_ 0 h ⟨0, rfl, by omega, fun _ _ _ => rfl, fun _ _ => rfl, fun k => by simp [pay1, rI]⟩
  rintro x h2 ⟨j, rfl, hj, f1, f2, f3⟩ K hK
  unfold fX12_tick_35
  have hp := P.1
  rw [f1 55 3 (by decide), P.2.2.1]
  by_cases c : p ≤ j
  · rw [if_pos (nI_le c (by omega))]
    have : j = p := by omega
    subst this
    simp only [forall_eq]
    exact hQ h2 f1 f2 (funext f3)
  · rw [if_neg (nI_ge (by omega) (by omega)), f1 55 7 (by decide), f1 55 8 (by decide), f1 55 9 (by decide), e1, e2, e3]
    have R : ∀ a, a ≠ 60 → rI h2 a = rI h a := fun a h1 => funext fun k => f1 a k h1
    have P2 : PN h2 p := P.kept (f1 _ _ (by decide)) (f1 _ _ (by decide)) (R _ (by decide)) (R _ (by decide)) (R _ (by decide)) (R _ (by decide)) (R _ (by decide)) (R _ (by decide))
    apply m_waitsIn P2 ht ho hw (by omega)
    have dec : p - (nI (j + 1)).toNatClampNeg < p - (nI j).toNatClampNeg := by
      rw [nI_clamp (by omega), nI_clamp (by omega)]; omega
    have hbit : (Wt h p t o w).testBit j = wts (hL h2) (hRt h2) t o w j := by
      unfold Wt hL hRt
      rw [setB_bit, R 4 (by decide), R 5 (by decide)]
      simp [show j < p by omega]
    simp (disch := omega) only [rf_0_0, rf_0_1, rf_0_2, rf_0_4, rf_0_5, rf_0_6, rf_0_8, rf_0_9, rf_0_10, rf_0_11, rf_0_12, rf_0_13, rf_1_0, rf_3_0, rf_3_1, rf_3_2, rf_8_0, rf_8_1, rf_8_2, rf_8_3, rf_10_0, rf_10_1, rf_10_2, rf_14_0, rf_14_1, rf_14_2, rf_18_0, rf_18_1, rf_19_0, rf_19_1, rf_19_2, rf_23_0, rf_25_0, rf_27_0, rf_27_1, rf_27_2, rf_27_3, rf_27_4, rf_30_0, rf_30_1, rf_30_2, rf_30_3, rf_30_4, rf_33_0, rf_33_1, rf_33_2, rf_33_3, rf_39_0, rf_39_1, rf_42_0, rf_42_1, rf_42_2, rf_42_3, rf_42_4, rf_42_5, rf_43_0, rf_45_0, rf_47_0, rf_49_0, rf_51_0, rf_53_0, rf_55_2, rf_55_4, rf_55_5, rf_55_6, rf_55_10, rf_55_13, rf_55_14, rf_55_15, rf_55_16, rf_55_17, rf_55_23, rf_55_24, rf_55_25, rf_55_26, rf_55_27, rf_55_28, rf_55_29, rf_55_30, rf_55_31, rf_55_32, rf_55_37, rf_55_38, rf_55_39, rf_55_40, rf_55_47, rf_55_49, rf_55_51, rf_55_52, rf_55_53, rf_55_54, rf_55_55, ln_2, ln_4, ln_5, ln_6, ln_7, ln_9, ln_11, ln_12, ln_13, ln_15, ln_16, ln_17, ln_20, ln_21, ln_22, ln_24, ln_26, ln_28, ln_29, ln_31, ln_32, ln_34, ln_35, ln_36, ln_37, ln_38, ln_40, ln_41, ln_42, ln_44, ln_46, ln_48, ln_50, ln_52, ln_54, ln_56, ln_57, ln_58, ln_59, ln_60, ln_61, ln_62, ln_63, ln_64, ln_65, ln_66, ln_67, ln_68, ln_69, ln_70, ln_71, ln_72, ln_73, ln_74, ln_75, ln_76, ln_77, ln_78, ln_79, ln_80, ln_81, ln_82, ln_83, ln_84, ln_85, ln_86, forall_eq, nI_clamp, vp_nI, nI_1]
    cases hb : wts (hL h2) (hRt h2) t o w j
    · simp only [Bool.false_eq_true, ↓reduceIte]
      refine hK _ _ ⟨j + 1, rfl, by omega, f1, f2, fun k => ?_⟩ dec
      rw [f3 k]
      unfold pay1
      by_cases hkj : k = j
      · subst hkj; simp [hb, hbit]
      · by_cases h1 : k < j
        · simp [h1, show k < j + 1 by omega]
        · simp [h1, show ¬ k < j + 1 by omega]
    · simp only [↓reduceIte, ne10]
      refine ⟨by omega, by omega, by omega, hK _ _ ⟨j + 1, rfl, by omega, fun a k ha => ?_, fun a k => ?_, fun k => ?_⟩ dec⟩
      · simp only [gI_sI, gI_sL, gL_sI, gL_sL, gI_cpI, gL_cpI, gI_cpL, gL_cpL, ha, false_and, ↓reduceIte]
        exact f1 a k ha
      · simp only [gI_sI, gI_sL, gL_sI, gL_sL, gI_cpI, gL_cpI, gI_cpL, gL_cpL]
        exact f2 a k
      · simp only [gI_sI, gI_sL, gL_sI, gL_sL, gI_cpI, gL_cpI, gI_cpL, gL_cpL, true_and]
        by_cases hkj : k = j
        · subst hkj
          rw [if_pos rfl, f3 k, f1 59 k (by decide)]
          unfold pay1
          simp [hb, hbit, rI]
        · rw [if_neg hkj, f3 k]
          unfold pay1
          by_cases h1 : k < j
          · simp [h1, show k < j + 1 by omega]
          · simp [h1, show ¬ k < j + 1 by omega]
theorem m_ticks {h : Hp} {p t o w n : Nat} (P : PN h p) (htn : t + n ≤ 60) (e1 : gI h 55 7 = nI t) (e2 : gI h 55 8 = nI o) (e3 : gI h 55 9 = nI w) (ho : o < 4096) (hw : w < 4096) {Q : Int32 → Hp → Prop}
    (hQ : ∀ h2 : Hp, (∀ a k, a ≠ 60 → (a = 55 → k ≠ 7) → gI h2 a k = gI h a k) → (∀ a k, gL h2 a k = gL h a k) → gI h2 55 7 = nI (t + n) → rI h2 60 = payJ p (fun j => Wt h p (t + j) o w) (rI h 59) (rI h 60) n → Q (nI (t + n)) h2) : eX12_tick_28 55 (nI n) Q 0 h := by
  refine iX12_tick_28 (I := fun x h2 => ∃ j : Nat, x = nI j ∧ j ≤ n ∧ (∀ a k, a ≠ 60 → (a = 55 → k ≠ 7) → gI h2 a k = gI h a k) ∧ (∀ a k, gL h2 a k = gL h a k) ∧ gI h2 55 7 = nI (t + j) ∧ rI h2 60 = payJ p (fun j => Wt h p (t + j) o w) (rI h 59) (rI h 60) j) (μ := fun x _ => n - x.toNatClampNeg) ?_ 0 h ⟨0, rfl, by omega, fun _ _ _ _ => rfl, fun _ _ => rfl, e1, rfl⟩
  rintro x h2 ⟨j, rfl, hj, f1, f2, f3, f4⟩ K hK
  unfold fX12_tick_28
  by_cases c : n ≤ j
  · rw [if_pos (nI_le c (by omega)), f3]
    have : j = n := by omega
    subst this
    exact hQ h2 f1 f2 f3 f4
  · rw [if_neg (nI_ge (by omega) (by omega))]
    have R : ∀ a, a ≠ 60 → a ≠ 55 → rI h2 a = rI h a := fun a h1 h3 => funext fun k => f1 a k h1 (fun q => absurd q h3)
    have P2 : PN h2 p := P.kept (f1 _ _ (by decide) (by decide)) (f1 _ _ (by decide) (by decide)) (R _ (by decide) (by decide)) (R _ (by decide) (by decide)) (R _ (by decide) (by decide)) (R _ (by decide) (by decide)) (R _ (by decide) (by decide)) (R _ (by decide) (by decide))
    apply m_payers P2 (t := t + j) (o := o) (w := w) (by omega) f3 (by rw [f1 _ _ (by decide) (by decide)]; exact e2) (by rw [f1 _ _ (by decide) (by decide)]; exact e3) ho hw
    intro h3 k1 k2 k3
    rw [k1 55 7 (by decide), f3, nI_1, nI_1]
    refine hK _ _ ⟨j + 1, rfl, by omega, fun a k h1 h4 => ?_, fun a k => ?_, ?_, ?_⟩ (by rw [nI_clamp (by omega), nI_clamp (by omega)]; omega)
    · rw [gI_sI, if_neg (fun q => h4 q.1 q.2), k1 a k h1, f1 a k h1 h4]
    · rw [gL_sI, k2, f2]
    · simp only [forall_eq, gI_sI, gI_sL, gL_sI, gL_sL, gI_cpI, gL_cpI, gI_cpL, gL_cpL, Nat.reduceEqDiff, Nat.reduceAdd, Nat.reduceSub, cl0, cl1, cl12, cl39, and_false, false_and, and_true, true_and, and_self, ↓reduceIte]
      rfl
    · rw [rI_sI, if_neg (by decide), k3, f4, R 59 (by decide) (by decide), Wt_kept (R _ (by decide) (by decide)) (R _ (by decide) (by decide))]
      rfl
