/-! one change more: what is kept moves down when there are forty -/
def shf (d : Nat) (f : Nat → Int32) : Nat → Int32 := if d < 40 then f else fun k => if k < 39 then f (k + 1) else f k
theorem JC_push {gc pc sz dn mdn mun : Int32} {lr nu wh we be mof mat mbf mbh : Nat → Int32} {d : Nat} {w n u v : Int32} (h : JC gc pc lr sz dn nu wh we be mdn mun mof mat mbf mbh) (e : dn = nI d) (hd : d ≤ 40) (h1 : ∀ g p, gc = nI g → pc = nI p → g ≤ 3 → p ≤ 12 → chOK g p lr w n u ∧ chOK g p lr w n v) :
    JC gc pc lr (nI (min d 39 + 1)) (nI (min d 39 + 1)) (upd (shf d nu) (min d 39) n) (upd (shf d wh) (min d 39) w) (upd (shf d we) (min d 39) u) (upd (shf d be) (min d 39) v) (nI (min d 39 + 1)) 0 (upd (shf d mof) (min d 39) w) (upd (shf d mat) (min d 39) n) (upd (shf d mbf) (min d 39) u) (upd (shf d mbh) (min d 39) v) := by
  obtain ⟨g, p, d', s, q1, q2, q3, q4, q5, q6, q7, q8, q9, q10, q11⟩ := h
  have : d = d' := (nI_eq (by omega) (by omega)).mp (e.symm.trans q8)
  subst this
  obtain ⟨c1, c2⟩ := h1 g p q1 q2 q3 q4
  refine ⟨g, p, min d 39 + 1, min d 39 + 1, q1, q2, q3, q4, Nat.le_refl _, by omega, rfl, rfl, rfl, by rw [Nat.sub_self]; rfl, fun k hk => ?_⟩
  by_cases hkd : k = min d 39
  · simp only [upd, if_pos hkd]
    exact ⟨trivial, trivial, trivial, trivial, c1, c2⟩
  · simp only [upd, if_neg hkd, shf]
    by_cases c : d < 40
    · simp only [if_pos c]
      exact q11 k (by omega)
    · simp only [if_neg c, show k < 39 by omega, ↓reduceIte]
      exact q11 (k + 1) (by omega)
theorem rI_shift (h : Hp) (a : Nat) : rI (cpI h a a 1 0 39) a = shf 40 (rI h a) := by
  funext k
  simp only [rI, gI_cpI, shf]
  by_cases c : k < 39
  · simp [c, Nat.add_comm]
  · simp [c]
-- the class's side
theorem c_chadd {h : Hp} {d : Nat} (e : gI h 33 5 = nI d) (hd : d ≤ 40) (n w u v : Int32) {Q : Hp → Prop}
    (hQ : ∀ h2 : Hp, (∀ a k, a < 33 ∨ 37 < a → gI h2 a k = gI h a k) → (∀ a k, gL h2 a k = gL h a k) → gI h2 33 4 = nI (min d 39 + 1) → gI h2 33 5 = nI (min d 39 + 1) → rI h2 34 = upd (shf d (rI h 34)) (min d 39) n → rI h2 35 = upd (shf d (rI h 35)) (min d 39) w → rI h2 36 = upd (shf d (rI h 36)) (min d 39) u → rI h2 37 = upd (shf d (rI h 37)) (min d 39) v → Q h2) : wX1_add 33 n w u v h Q := by
  unfold wX1_add
  rw [e]
  by_cases c : d < 40
  · rw [if_pos (show nI d < 40 from nI_lt (b := 40) c (by omega))]
    simp only [jX1_add_43, rf_0_0, rf_0_1, rf_0_2, rf_0_4, rf_0_5, rf_0_6, rf_0_8, rf_0_9, rf_0_10, rf_0_11, rf_0_12, rf_0_13, rf_1_0, rf_3_0, rf_3_1, rf_3_2, rf_8_0, rf_8_1, rf_8_2, rf_8_3, rf_10_0, rf_10_1, rf_10_2, rf_14_0, rf_14_1, rf_14_2, rf_18_0, rf_18_1, rf_19_0, rf_19_1, rf_19_2, rf_23_0, rf_25_0, rf_27_0, rf_27_1, rf_27_2, rf_27_3, rf_27_4, rf_30_0, rf_30_1, rf_30_2, rf_30_3, rf_30_4, rf_33_0, rf_33_1, rf_33_2, rf_33_3, rf_39_0, rf_39_1, rf_42_0, rf_42_1, rf_42_2, rf_42_3, rf_42_4, rf_42_5, rf_43_0, rf_45_0, rf_47_0, rf_49_0, rf_51_0, rf_53_0, rf_55_2, rf_55_4, rf_55_5, rf_55_6, rf_55_10, rf_55_13, rf_55_14, rf_55_15, rf_55_16, rf_55_17, rf_55_23, rf_55_24, rf_55_25, rf_55_26, rf_55_27, rf_55_28, rf_55_29, rf_55_30, rf_55_31, rf_55_32, rf_55_37, rf_55_38, rf_55_39, rf_55_40, rf_55_47, rf_55_49, rf_55_51, rf_55_52, rf_55_53, rf_55_54, rf_55_55, ln_2, ln_4, ln_5, ln_6, ln_7, ln_9, ln_11, ln_12, ln_13, ln_15, ln_16, ln_17, ln_20, ln_21, ln_22, ln_24, ln_26, ln_28, ln_29, ln_31, ln_32, ln_34, ln_35, ln_36, ln_37, ln_38, ln_40, ln_41, ln_42, ln_44, ln_46, ln_48, ln_50, ln_52, ln_54, ln_56, ln_57, ln_58, ln_59, ln_60, ln_61, ln_62, ln_63, ln_64, ln_65, ln_66, ln_67, ln_68, ln_69, ln_70, ln_71, ln_72, ln_73, ln_74, ln_75, ln_76, ln_77, ln_78, ln_79, ln_80, ln_81, ln_82, ln_83, ln_84, ln_85, ln_86, forall_eq, gI_sI, gI_sL, gL_sI, gL_sL, gI_cpI, gL_cpI, gI_cpL, gL_cpL, Nat.reduceEqDiff, Nat.reduceAdd, Nat.reduceSub, cl0, cl1, cl12, cl39, and_false, false_and, and_true, true_and, and_self, ↓reduceIte, e]
    simp (disch := omega) only [nI_clamp, vp_nI, c, true_and, nI_1]
    apply hQ
    · intro a k ha
      simp (disch := omega) only [gI_sI, gI_sL, gL_sI, gL_sL, gI_cpI, gL_cpI, gI_cpL, gL_cpL, eq_f, false_and, ↓reduceIte]
    · intro a k
      simp only [gI_sI, gI_sL, gL_sI, gL_sL, gI_cpI, gL_cpI, gI_cpL, gL_cpL]
    · simp only [forall_eq, gI_sI, gI_sL, gL_sI, gL_sL, gI_cpI, gL_cpI, gI_cpL, gL_cpL, Nat.reduceEqDiff, Nat.reduceAdd, Nat.reduceSub, cl0, cl1, cl12, cl39, and_false, false_and, and_true, true_and, and_self, ↓reduceIte]
      rw [Nat.min_eq_left (by omega)]
    · simp only [forall_eq, gI_sI, gI_sL, gL_sI, gL_sL, gI_cpI, gL_cpI, gI_cpL, gL_cpL, Nat.reduceEqDiff, Nat.reduceAdd, Nat.reduceSub, cl0, cl1, cl12, cl39, and_false, false_and, and_true, true_and, and_self, ↓reduceIte]
      rw [Nat.min_eq_left (by omega)]
    all_goals
      rw [Nat.min_eq_left (by omega)]
      simp [gI_sI, gI_sL, gL_sI, gL_sL, gI_cpI, gL_cpI, gI_cpL, gL_cpL, rI_sI, rI_sL, rL_sI, rL_sL, shV_sI, shV_sL, shE_sI, shE_sL, rI_cpI, rL_cpI, rI_cpL, rL_cpL, shV_cpI, shE_cpI, shV_cpL, shf, c]
  · have c40 : d = 40 := by omega
    subst c40
    rw [if_neg (by decide)]
    simp only [wX1_forgetOldest, jX1_add_43, rf_0_0, rf_0_1, rf_0_2, rf_0_4, rf_0_5, rf_0_6, rf_0_8, rf_0_9, rf_0_10, rf_0_11, rf_0_12, rf_0_13, rf_1_0, rf_3_0, rf_3_1, rf_3_2, rf_8_0, rf_8_1, rf_8_2, rf_8_3, rf_10_0, rf_10_1, rf_10_2, rf_14_0, rf_14_1, rf_14_2, rf_18_0, rf_18_1, rf_19_0, rf_19_1, rf_19_2, rf_23_0, rf_25_0, rf_27_0, rf_27_1, rf_27_2, rf_27_3, rf_27_4, rf_30_0, rf_30_1, rf_30_2, rf_30_3, rf_30_4, rf_33_0, rf_33_1, rf_33_2, rf_33_3, rf_39_0, rf_39_1, rf_42_0, rf_42_1, rf_42_2, rf_42_3, rf_42_4, rf_42_5, rf_43_0, rf_45_0, rf_47_0, rf_49_0, rf_51_0, rf_53_0, rf_55_2, rf_55_4, rf_55_5, rf_55_6, rf_55_10, rf_55_13, rf_55_14, rf_55_15, rf_55_16, rf_55_17, rf_55_23, rf_55_24, rf_55_25, rf_55_26, rf_55_27, rf_55_28, rf_55_29, rf_55_30, rf_55_31, rf_55_32, rf_55_37, rf_55_38, rf_55_39, rf_55_40, rf_55_47, rf_55_49, rf_55_51, rf_55_52, rf_55_53, rf_55_54, rf_55_55, ln_2, ln_4, ln_5, ln_6, ln_7, ln_9, ln_11, ln_12, ln_13, ln_15, ln_16, ln_17, ln_20, ln_21, ln_22, ln_24, ln_26, ln_28, ln_29, ln_31, ln_32, ln_34, ln_35, ln_36, ln_37, ln_38, ln_40, ln_41, ln_42, ln_44, ln_46, ln_48, ln_50, ln_52, ln_54, ln_56, ln_57, ln_58, ln_59, ln_60, ln_61, ln_62, ln_63, ln_64, ln_65, ln_66, ln_67, ln_68, ln_69, ln_70, ln_71, ln_72, ln_73, ln_74, ln_75, ln_76, ln_77, ln_78, ln_79, ln_80, ln_81, ln_82, ln_83, ln_84, ln_85, ln_86, forall_eq, gI_sI, gI_sL, gL_sI, gL_sL, gI_cpI, gL_cpI, gI_cpL, gL_cpL, Nat.reduceEqDiff, Nat.reduceAdd, Nat.reduceSub, cl0, cl1, cl12, cl39, and_false, false_and, and_true, true_and, and_self, ↓reduceIte]
    refine ⟨by decide, by decide, by decide, by decide, vp_in_nI (n := 39) (by omega) (by omega), vp_in_nI (n := 39) (by omega) (by omega), vp_in_nI (n := 39) (by omega) (by omega), vp_in_nI (n := 39) (by omega) (by omega), ?_⟩
    apply hQ
    · intro a k ha
      simp (disch := omega) only [gI_sI, gI_sL, gL_sI, gL_sL, gI_cpI, gL_cpI, gI_cpL, gL_cpL, eq_f, false_and, ↓reduceIte]
    · intro a k
      simp only [gI_sI, gI_sL, gL_sI, gL_sL, gI_cpI, gL_cpI, gI_cpL, gL_cpL]
    · simp only [forall_eq, gI_sI, gI_sL, gL_sI, gL_sL, gI_cpI, gL_cpI, gI_cpL, gL_cpL, Nat.reduceEqDiff, Nat.reduceAdd, Nat.reduceSub, cl0, cl1, cl12, cl39, and_false, false_and, and_true, true_and, and_self, ↓reduceIte]
      rfl
    · simp only [forall_eq, gI_sI, gI_sL, gL_sI, gL_sL, gI_cpI, gL_cpI, gI_cpL, gL_cpL, Nat.reduceEqDiff, Nat.reduceAdd, Nat.reduceSub, cl0, cl1, cl12, cl39, and_false, false_and, and_true, true_and, and_self, ↓reduceIte]
      rfl
    all_goals
      simp [gI_sI, gI_sL, gL_sI, gL_sL, gI_cpI, gL_cpI, gI_cpL, gL_cpL, rI_sI, rI_sL, rL_sI, rL_sL, shV_sI, shV_sL, shE_sI, shE_sL, rI_cpI, rL_cpI, rI_cpL, rL_cpL, shV_cpI, shE_cpI, shV_cpL, rI_shift]
theorem m_shift {h : Hp} {at0 : Int32} {w n v u : Int32} {Q : Int32 → Hp → Prop}
    (hQ : ∀ h2 : Hp, (∀ a k, a < 61 ∨ 64 < a → gI h2 a k = gI h a k) → (∀ a k, gL h2 a k = gL h a k) → (∀ a, 61 ≤ a → a ≤ 64 → rI h2 a = shf 40 (rI h a)) → jX12_changes_121 55 w n v u (sI h2 55 11 (gI h2 55 11 - 1)) Q) : eX12_changes_34 55 w n v u Q 1 h := by
  refine iX12_changes_34 (I := fun x h2 => ∃ j : Nat, x = nI (j + 1) ∧ j ≤ 39 ∧ (∀ a k, a < 61 ∨ 64 < a → gI h2 a k = gI h a k) ∧ (∀ a k, gL h2 a k = gL h a k) ∧ ∀ a, 61 ≤ a → a ≤ 64 → ∀ k, gI h2 a k = if k < j then gI h a (k + 1) else gI h a k) (μ := fun x _ => 40 - x.toNatClampNeg) ?_ 1 h ⟨0, rfl, by omega, fun _ _ _ => rfl, fun _ _ => rfl, fun a _ _ k => by simp⟩
  rintro x h2 ⟨j, rfl, hj, f1, f2, f3⟩ K hK
  unfold fX12_changes_34
  by_cases c : j = 39
  · subst c
    rw [if_pos (by decide)]
    simp only [forall_eq]
    apply hQ h2 f1 f2
    intro a h1 h3
    funext k
    simp only [rI, shf]
    rw [f3 a h1 h3 k]
    simp
  · rw [if_neg (show ¬ (40 : Int32) ≤ nI (j + 1) from nI_ge (b := 40) (by omega) (by omega)), show nI (j + 1) - 1 = nI j from nI_pred j]
    simp (disch := omega) only [rf_0_0, rf_0_1, rf_0_2, rf_0_4, rf_0_5, rf_0_6, rf_0_8, rf_0_9, rf_0_10, rf_0_11, rf_0_12, rf_0_13, rf_1_0, rf_3_0, rf_3_1, rf_3_2, rf_8_0, rf_8_1, rf_8_2, rf_8_3, rf_10_0, rf_10_1, rf_10_2, rf_14_0, rf_14_1, rf_14_2, rf_18_0, rf_18_1, rf_19_0, rf_19_1, rf_19_2, rf_23_0, rf_25_0, rf_27_0, rf_27_1, rf_27_2, rf_27_3, rf_27_4, rf_30_0, rf_30_1, rf_30_2, rf_30_3, rf_30_4, rf_33_0, rf_33_1, rf_33_2, rf_33_3, rf_39_0, rf_39_1, rf_42_0, rf_42_1, rf_42_2, rf_42_3, rf_42_4, rf_42_5, rf_43_0, rf_45_0, rf_47_0, rf_49_0, rf_51_0, rf_53_0, rf_55_2, rf_55_4, rf_55_5, rf_55_6, rf_55_10, rf_55_13, rf_55_14, rf_55_15, rf_55_16, rf_55_17, rf_55_23, rf_55_24, rf_55_25, rf_55_26, rf_55_27, rf_55_28, rf_55_29, rf_55_30, rf_55_31, rf_55_32, rf_55_37, rf_55_38, rf_55_39, rf_55_40, rf_55_47, rf_55_49, rf_55_51, rf_55_52, rf_55_53, rf_55_54, rf_55_55, ln_2, ln_4, ln_5, ln_6, ln_7, ln_9, ln_11, ln_12, ln_13, ln_15, ln_16, ln_17, ln_20, ln_21, ln_22, ln_24, ln_26, ln_28, ln_29, ln_31, ln_32, ln_34, ln_35, ln_36, ln_37, ln_38, ln_40, ln_41, ln_42, ln_44, ln_46, ln_48, ln_50, ln_52, ln_54, ln_56, ln_57, ln_58, ln_59, ln_60, ln_61, ln_62, ln_63, ln_64, ln_65, ln_66, ln_67, ln_68, ln_69, ln_70, ln_71, ln_72, ln_73, ln_74, ln_75, ln_76, ln_77, ln_78, ln_79, ln_80, ln_81, ln_82, ln_83, ln_84, ln_85, ln_86, forall_eq, nI_clamp, vp_nI, nI_1, show j < 40 by omega, show j + 1 < 40 by omega, true_and]
    apply hK
    · refine ⟨j + 1, rfl, by omega, fun a k ha => ?_, fun a k => ?_, fun a h1 h3 k => ?_⟩
      · simp (disch := omega) only [gI_sI, gI_sL, gL_sI, gL_sL, gI_cpI, gL_cpI, gI_cpL, gL_cpL, eq_f, false_and, ↓reduceIte]
        exact f1 a k ha
      · simp only [gI_sI, gI_sL, gL_sI, gL_sL, gI_cpI, gL_cpI, gI_cpL, gL_cpL]
        exact f2 a k
      · rcases (show a = 61 ∨ a = 62 ∨ a = 63 ∨ a = 64 by omega) with rfl | rfl | rfl | rfl <;>
        · simp only [forall_eq, gI_sI, gI_sL, gL_sI, gL_sL, gI_cpI, gL_cpI, gI_cpL, gL_cpL, Nat.reduceEqDiff, Nat.reduceAdd, Nat.reduceSub, cl0, cl1, cl12, cl39, and_false, false_and, and_true, true_and, and_self, ↓reduceIte]
          by_cases hkj : k = j
          · subst hkj
            rw [if_pos rfl, if_pos (by omega), f3 _ (by omega) (by omega), if_neg (by omega)]
          · rw [if_neg hkj, f3 _ (by omega) (by omega)]
            by_cases h4 : k < j
            · rw [if_pos h4, if_pos (by omega)]
            · rw [if_neg h4, if_neg (by omega)]
    · simp (disch := omega) only [nI_clamp]
      omega
theorem m_last {h : Hp} {w v u : Int32} {i b d : Nat} (hw : (w = 0 ∧ b = 59 ∧ i < 12) ∨ (w = 1 ∧ b = 58 ∧ i < 12) ∨ (w = 2 ∧ b = 56 ∧ i < 3)) (e : gI h 55 11 = nI d) (hd : d < 40) {Q : Int32 → Hp → Prop}
    (hQ : Q u (sI (sI (sI (sI (sI (sI h 61 d w) 62 d (nI i)) 63 d u) 64 d v) 55 11 (nI (d + 1))) b i v)) : jX12_changes_121 55 w (nI i) v u h Q := by
  unfold jX12_changes_121
  simp only [rf_0_0, rf_0_1, rf_0_2, rf_0_4, rf_0_5, rf_0_6, rf_0_8, rf_0_9, rf_0_10, rf_0_11, rf_0_12, rf_0_13, rf_1_0, rf_3_0, rf_3_1, rf_3_2, rf_8_0, rf_8_1, rf_8_2, rf_8_3, rf_10_0, rf_10_1, rf_10_2, rf_14_0, rf_14_1, rf_14_2, rf_18_0, rf_18_1, rf_19_0, rf_19_1, rf_19_2, rf_23_0, rf_25_0, rf_27_0, rf_27_1, rf_27_2, rf_27_3, rf_27_4, rf_30_0, rf_30_1, rf_30_2, rf_30_3, rf_30_4, rf_33_0, rf_33_1, rf_33_2, rf_33_3, rf_39_0, rf_39_1, rf_42_0, rf_42_1, rf_42_2, rf_42_3, rf_42_4, rf_42_5, rf_43_0, rf_45_0, rf_47_0, rf_49_0, rf_51_0, rf_53_0, rf_55_2, rf_55_4, rf_55_5, rf_55_6, rf_55_10, rf_55_13, rf_55_14, rf_55_15, rf_55_16, rf_55_17, rf_55_23, rf_55_24, rf_55_25, rf_55_26, rf_55_27, rf_55_28, rf_55_29, rf_55_30, rf_55_31, rf_55_32, rf_55_37, rf_55_38, rf_55_39, rf_55_40, rf_55_47, rf_55_49, rf_55_51, rf_55_52, rf_55_53, rf_55_54, rf_55_55, ln_2, ln_4, ln_5, ln_6, ln_7, ln_9, ln_11, ln_12, ln_13, ln_15, ln_16, ln_17, ln_20, ln_21, ln_22, ln_24, ln_26, ln_28, ln_29, ln_31, ln_32, ln_34, ln_35, ln_36, ln_37, ln_38, ln_40, ln_41, ln_42, ln_44, ln_46, ln_48, ln_50, ln_52, ln_54, ln_56, ln_57, ln_58, ln_59, ln_60, ln_61, ln_62, ln_63, ln_64, ln_65, ln_66, ln_67, ln_68, ln_69, ln_70, ln_71, ln_72, ln_73, ln_74, ln_75, ln_76, ln_77, ln_78, ln_79, ln_80, ln_81, ln_82, ln_83, ln_84, ln_85, ln_86, forall_eq, gI_sI, gI_sL, gL_sI, gL_sL, gI_cpI, gL_cpI, gI_cpL, gL_cpL, Nat.reduceEqDiff, Nat.reduceAdd, Nat.reduceSub, cl0, cl1, cl12, cl39, and_false, false_and, and_true, true_and, and_self, ↓reduceIte, e]
  simp (disch := omega) only [nI_clamp, vp_nI, hd, true_and, nI_1]
  rcases hw with ⟨rfl, rfl, hi⟩ | ⟨rfl, rfl, hi⟩ | ⟨rfl, rfl, hi⟩
  · exact m_lay0 hi v hQ
  · exact m_lay1 hi v hQ
  · exact m_lay2 hi v hQ
theorem m_chg {h : Hp} {w v : Int32} {i b d : Nat} (hw : (w = 0 ∧ b = 59 ∧ i < 12) ∨ (w = 1 ∧ b = 58 ∧ i < 12) ∨ (w = 2 ∧ b = 56 ∧ i < 3)) (e : gI h 55 11 = nI d) (hd : d ≤ 40) {Q : Int32 → Hp → Prop} (q1 : gI h b i = v → Q v h)
    (q2 : gI h b i ≠ v → ∀ h2 : Hp, (∀ a k, a ≠ b → a < 61 ∨ 64 < a → (a = 55 → k ≠ 11 ∧ k ≠ 12) → gI h2 a k = gI h a k) → (∀ a k, gL h2 a k = gL h a k) → gI h2 55 11 = nI (min d 39 + 1) → gI h2 55 12 = 0 → rI h2 61 = upd (shf d (rI h 61)) (min d 39) w → rI h2 62 = upd (shf d (rI h 62)) (min d 39) (nI i) → rI h2 63 = upd (shf d (rI h 63)) (min d 39) (gI h b i) → rI h2 64 = upd (shf d (rI h 64)) (min d 39) v → rI h2 b = upd (rI h b) i v → Q (gI h b i) h2) : wX12_changes 55 w (nI i) v h Q := by
  have hb : b = 59 ∨ b = 58 ∨ b = 56 := by omega
  have hv : ∀ P : Int32 → Prop, P (gI h b i) → wX12_valueAt 55 w (nI i) h P := by
    intro P hP
    unfold wX12_valueAt
    rcases hw with ⟨rfl, rfl, hi⟩ | ⟨rfl, rfl, hi⟩ | ⟨rfl, rfl, hi⟩
    · simp (disch := omega) only [rf_0_0, rf_0_1, rf_0_2, rf_0_4, rf_0_5, rf_0_6, rf_0_8, rf_0_9, rf_0_10, rf_0_11, rf_0_12, rf_0_13, rf_1_0, rf_3_0, rf_3_1, rf_3_2, rf_8_0, rf_8_1, rf_8_2, rf_8_3, rf_10_0, rf_10_1, rf_10_2, rf_14_0, rf_14_1, rf_14_2, rf_18_0, rf_18_1, rf_19_0, rf_19_1, rf_19_2, rf_23_0, rf_25_0, rf_27_0, rf_27_1, rf_27_2, rf_27_3, rf_27_4, rf_30_0, rf_30_1, rf_30_2, rf_30_3, rf_30_4, rf_33_0, rf_33_1, rf_33_2, rf_33_3, rf_39_0, rf_39_1, rf_42_0, rf_42_1, rf_42_2, rf_42_3, rf_42_4, rf_42_5, rf_43_0, rf_45_0, rf_47_0, rf_49_0, rf_51_0, rf_53_0, rf_55_2, rf_55_4, rf_55_5, rf_55_6, rf_55_10, rf_55_13, rf_55_14, rf_55_15, rf_55_16, rf_55_17, rf_55_23, rf_55_24, rf_55_25, rf_55_26, rf_55_27, rf_55_28, rf_55_29, rf_55_30, rf_55_31, rf_55_32, rf_55_37, rf_55_38, rf_55_39, rf_55_40, rf_55_47, rf_55_49, rf_55_51, rf_55_52, rf_55_53, rf_55_54, rf_55_55, ln_2, ln_4, ln_5, ln_6, ln_7, ln_9, ln_11, ln_12, ln_13, ln_15, ln_16, ln_17, ln_20, ln_21, ln_22, ln_24, ln_26, ln_28, ln_29, ln_31, ln_32, ln_34, ln_35, ln_36, ln_37, ln_38, ln_40, ln_41, ln_42, ln_44, ln_46, ln_48, ln_50, ln_52, ln_54, ln_56, ln_57, ln_58, ln_59, ln_60, ln_61, ln_62, ln_63, ln_64, ln_65, ln_66, ln_67, ln_68, ln_69, ln_70, ln_71, ln_72, ln_73, ln_74, ln_75, ln_76, ln_77, ln_78, ln_79, ln_80, ln_81, ln_82, ln_83, ln_84, ln_85, ln_86, ↓reduceIte, nI_clamp, vp_nI]
      exact ⟨hi, hP⟩
    · simp (disch := omega) only [rf_0_0, rf_0_1, rf_0_2, rf_0_4, rf_0_5, rf_0_6, rf_0_8, rf_0_9, rf_0_10, rf_0_11, rf_0_12, rf_0_13, rf_1_0, rf_3_0, rf_3_1, rf_3_2, rf_8_0, rf_8_1, rf_8_2, rf_8_3, rf_10_0, rf_10_1, rf_10_2, rf_14_0, rf_14_1, rf_14_2, rf_18_0, rf_18_1, rf_19_0, rf_19_1, rf_19_2, rf_23_0, rf_25_0, rf_27_0, rf_27_1, rf_27_2, rf_27_3, rf_27_4, rf_30_0, rf_30_1, rf_30_2, rf_30_3, rf_30_4, rf_33_0, rf_33_1, rf_33_2, rf_33_3, rf_39_0, rf_39_1, rf_42_0, rf_42_1, rf_42_2, rf_42_3, rf_42_4, rf_42_5, rf_43_0, rf_45_0, rf_47_0, rf_49_0, rf_51_0, rf_53_0, rf_55_2, rf_55_4, rf_55_5, rf_55_6, rf_55_10, rf_55_13, rf_55_14, rf_55_15, rf_55_16, rf_55_17, rf_55_23, rf_55_24, rf_55_25, rf_55_26, rf_55_27, rf_55_28, rf_55_29, rf_55_30, rf_55_31, rf_55_32, rf_55_37, rf_55_38, rf_55_39, rf_55_40, rf_55_47, rf_55_49, rf_55_51, rf_55_52, rf_55_53, rf_55_54, rf_55_55, ln_2, ln_4, ln_5, ln_6, ln_7, ln_9, ln_11, ln_12, ln_13, ln_15, ln_16, ln_17, ln_20, ln_21, ln_22, ln_24, ln_26, ln_28, ln_29, ln_31, ln_32, ln_34, ln_35, ln_36, ln_37, ln_38, ln_40, ln_41, ln_42, ln_44, ln_46, ln_48, ln_50, ln_52, ln_54, ln_56, ln_57, ln_58, ln_59, ln_60, ln_61, ln_62, ln_63, ln_64, ln_65, ln_66, ln_67, ln_68, ln_69, ln_70, ln_71, ln_72, ln_73, ln_74, ln_75, ln_76, ln_77, ln_78, ln_79, ln_80, ln_81, ln_82, ln_83, ln_84, ln_85, ln_86, ↓reduceIte, ne10, nI_clamp, vp_nI]
      exact ⟨hi, hP⟩
    · rw [if_neg (by decide), if_neg (by decide)]
      simp (disch := omega) only [rf_0_0, rf_0_1, rf_0_2, rf_0_4, rf_0_5, rf_0_6, rf_0_8, rf_0_9, rf_0_10, rf_0_11, rf_0_12, rf_0_13, rf_1_0, rf_3_0, rf_3_1, rf_3_2, rf_8_0, rf_8_1, rf_8_2, rf_8_3, rf_10_0, rf_10_1, rf_10_2, rf_14_0, rf_14_1, rf_14_2, rf_18_0, rf_18_1, rf_19_0, rf_19_1, rf_19_2, rf_23_0, rf_25_0, rf_27_0, rf_27_1, rf_27_2, rf_27_3, rf_27_4, rf_30_0, rf_30_1, rf_30_2, rf_30_3, rf_30_4, rf_33_0, rf_33_1, rf_33_2, rf_33_3, rf_39_0, rf_39_1, rf_42_0, rf_42_1, rf_42_2, rf_42_3, rf_42_4, rf_42_5, rf_43_0, rf_45_0, rf_47_0, rf_49_0, rf_51_0, rf_53_0, rf_55_2, rf_55_4, rf_55_5, rf_55_6, rf_55_10, rf_55_13, rf_55_14, rf_55_15, rf_55_16, rf_55_17, rf_55_23, rf_55_24, rf_55_25, rf_55_26, rf_55_27, rf_55_28, rf_55_29, rf_55_30, rf_55_31, rf_55_32, rf_55_37, rf_55_38, rf_55_39, rf_55_40, rf_55_47, rf_55_49, rf_55_51, rf_55_52, rf_55_53, rf_55_54, rf_55_55, ln_2, ln_4, ln_5, ln_6, ln_7, ln_9, ln_11, ln_12, ln_13, ln_15, ln_16, ln_17, ln_20, ln_21, ln_22, ln_24, ln_26, ln_28, ln_29, ln_31, ln_32, ln_34, ln_35, ln_36, ln_37, ln_38, ln_40, ln_41, ln_42, ln_44, ln_46, ln_48, ln_50, ln_52, ln_54, ln_56, ln_57, ln_58, ln_59, ln_60, ln_61, ln_62, ln_63, ln_64, ln_65, ln_66, ln_67, ln_68, ln_69, ln_70, ln_71, ln_72, ln_73, ln_74, ln_75, ln_76, ln_77, ln_78, ln_79, ln_80, ln_81, ln_82, ln_83, ln_84, ln_85, ln_86, nI_clamp, vp_nI]
      exact ⟨hi, hP⟩
  unfold wX12_changes
  apply hv
  by_cases c : gI h b i = v
  · rw [if_pos c, c]
    exact q1 c
  · rw [if_neg c]
    simp only [forall_eq, gI_sI, gI_sL, gL_sI, gL_sL, gI_cpI, gL_cpI, gI_cpL, gL_cpL, Nat.reduceEqDiff, Nat.reduceAdd, Nat.reduceSub, cl0, cl1, cl12, cl39, and_false, false_and, and_true, true_and, and_self, ↓reduceIte]
    rw [e]
    by_cases c4 : d < 40
    · rw [if_neg (show ¬ nI d = 40 from fun q => absurd ((nI_eq (b := 40) (by omega) (by omega)).mp q) (by omega))]
      apply m_last hw (d := d) (by simp only [forall_eq, gI_sI, gI_sL, gL_sI, gL_sL, gI_cpI, gL_cpI, gI_cpL, gL_cpL, Nat.reduceEqDiff, Nat.reduceAdd, Nat.reduceSub, cl0, cl1, cl12, cl39, and_false, false_and, and_true, true_and, and_self, ↓reduceIte]; exact e) c4
      apply q2 c
      · intro a k h1 h2 h3
        by_cases ha : a = 55
        · subst ha
          simp (disch := omega) only [gI_sI, gI_sL, gL_sI, gL_sL, gI_cpI, gL_cpI, gI_cpL, gL_cpL, eq_f, false_and, and_false, ↓reduceIte, (h3 rfl).1, (h3 rfl).2]
        · simp (disch := omega) only [gI_sI, gI_sL, gL_sI, gL_sL, gI_cpI, gL_cpI, gI_cpL, gL_cpL, eq_f, false_and, ↓reduceIte, ha]
      · intro a k
        simp only [gI_sI, gI_sL, gL_sI, gL_sL, gI_cpI, gL_cpI, gI_cpL, gL_cpL]
      · rw [Nat.min_eq_left (by omega)]
        simp (disch := omega) only [gI_sI, gI_sL, gL_sI, gL_sL, gI_cpI, gL_cpI, gI_cpL, gL_cpL, eq_f, false_and, and_self, ↓reduceIte]
      · simp (disch := omega) only [gI_sI, gI_sL, gL_sI, gL_sL, gI_cpI, gL_cpI, gI_cpL, gL_cpL, eq_f, false_and, and_false, and_self, Nat.reduceEqDiff, ↓reduceIte]
      all_goals
        try rw [Nat.min_eq_left (by omega)]
        rcases hb with rfl | rfl | rfl <;> simp [gI_sI, gI_sL, gL_sI, gL_sL, gI_cpI, gL_cpI, gI_cpL, gL_cpL, rI_sI, rI_sL, rL_sI, rL_sL, shV_sI, shV_sL, shE_sI, shE_sL, rI_cpI, rL_cpI, rI_cpL, rL_cpL, shV_cpI, shE_cpI, shV_cpL, shf, c4]
    · have c40 : d = 40 := by omega
      subst c40
      rw [if_pos (show nI 40 = 40 from rfl)]
      apply m_shift
      · exact 0
      · intro h2 f1 f2 f3
        have e5 : gI h2 55 11 = nI 40 := by rw [f1 55 11 (by omega)]; simp only [forall_eq, gI_sI, gI_sL, gL_sI, gL_sL, gI_cpI, gL_cpI, gI_cpL, gL_cpL, Nat.reduceEqDiff, Nat.reduceAdd, Nat.reduceSub, cl0, cl1, cl12, cl39, and_false, false_and, and_true, true_and, and_self, ↓reduceIte]; exact e
        rw [e5, show nI 40 - 1 = nI 39 from rfl]
        apply m_last hw (d := 39) (by simp only [forall_eq, gI_sI, gI_sL, gL_sI, gL_sL, gI_cpI, gL_cpI, gI_cpL, gL_cpL, Nat.reduceEqDiff, Nat.reduceAdd, Nat.reduceSub, cl0, cl1, cl12, cl39, and_false, false_and, and_true, true_and, and_self, ↓reduceIte]) (by omega)
        apply q2 c
        · intro a k h1 h4 h3
          by_cases ha : a = 55
          · subst ha
            simp (disch := omega) only [gI_sI, gI_sL, gL_sI, gL_sL, gI_cpI, gL_cpI, gI_cpL, gL_cpL, eq_f, false_and, and_false, ↓reduceIte, (h3 rfl).1, (h3 rfl).2]
            rw [f1 _ _ (by omega)]
            simp only [gI_sI, gI_sL, gL_sI, gL_sL, gI_cpI, gL_cpI, gI_cpL, gL_cpL, (h3 rfl).2, and_false, ↓reduceIte]
          · simp (disch := omega) only [gI_sI, gI_sL, gL_sI, gL_sL, gI_cpI, gL_cpI, gI_cpL, gL_cpL, eq_f, false_and, ↓reduceIte, ha]
            rw [f1 _ _ h4]
            simp only [gI_sI, gI_sL, gL_sI, gL_sL, gI_cpI, gL_cpI, gI_cpL, gL_cpL, ha, false_and, ↓reduceIte]
        · intro a k
          simp only [gI_sI, gI_sL, gL_sI, gL_sL, gI_cpI, gL_cpI, gI_cpL, gL_cpL]
          rw [f2]
          rfl
        · simp (disch := omega) only [gI_sI, gI_sL, gL_sI, gL_sL, gI_cpI, gL_cpI, gI_cpL, gL_cpL, eq_f, false_and, and_self, ↓reduceIte]
          rfl
        · simp (disch := omega) only [gI_sI, gI_sL, gL_sI, gL_sL, gI_cpI, gL_cpI, gI_cpL, gL_cpL, eq_f, false_and, and_false, and_self, Nat.reduceEqDiff, ↓reduceIte]
          rw [f1 _ _ (by omega)]
          simp only [forall_eq, gI_sI, gI_sL, gL_sI, gL_sL, gI_cpI, gL_cpI, gI_cpL, gL_cpL, Nat.reduceEqDiff, Nat.reduceAdd, Nat.reduceSub, cl0, cl1, cl12, cl39, and_false, false_and, and_true, true_and, and_self, ↓reduceIte]
        · have := f3 61 (by omega) (by omega)
          rcases hb with rfl | rfl | rfl <;> simp [gI_sI, gI_sL, gL_sI, gL_sL, gI_cpI, gL_cpI, gI_cpL, gL_cpL, rI_sI, rI_sL, rL_sI, rL_sL, shV_sI, shV_sL, shE_sI, shE_sL, rI_cpI, rL_cpI, rI_cpL, rL_cpL, shV_cpI, shE_cpI, shV_cpL, this]
        · have := f3 62 (by omega) (by omega)
          rcases hb with rfl | rfl | rfl <;> simp [gI_sI, gI_sL, gL_sI, gL_sL, gI_cpI, gL_cpI, gI_cpL, gL_cpL, rI_sI, rI_sL, rL_sI, rL_sL, shV_sI, shV_sL, shE_sI, shE_sL, rI_cpI, rL_cpI, rI_cpL, rL_cpL, shV_cpI, shE_cpI, shV_cpL, this]
        · have := f3 63 (by omega) (by omega)
          rcases hb with rfl | rfl | rfl <;> simp [gI_sI, gI_sL, gL_sI, gL_sL, gI_cpI, gL_cpI, gI_cpL, gL_cpL, rI_sI, rI_sL, rL_sI, rL_sL, shV_sI, shV_sL, shE_sI, shE_sL, rI_cpI, rL_cpI, rI_cpL, rL_cpL, shV_cpI, shE_cpI, shV_cpL, this]
        · have := f3 64 (by omega) (by omega)
          rcases hb with rfl | rfl | rfl <;> simp [gI_sI, gI_sL, gL_sI, gL_sL, gI_cpI, gL_cpI, gI_cpL, gL_cpL, rI_sI, rI_sL, rL_sI, rL_sL, shV_sI, shV_sL, shE_sI, shE_sL, rI_cpI, rL_cpI, rI_cpL, rL_cpL, shV_cpI, shE_cpI, shV_cpL, this]
        · have : rI h2 b = rI h b := by
            funext k
            show gI h2 b k = gI h b k
            rw [f1 b k (by omega)]
            simp (disch := omega) only [gI_sI, gI_sL, gL_sI, gL_sL, gI_cpI, gL_cpI, gI_cpL, gL_cpL, eq_f, false_and, ↓reduceIte]
          rcases hb with rfl | rfl | rfl <;> simp [gI_sI, gI_sL, gL_sI, gL_sL, gI_cpI, gL_cpI, gI_cpL, gL_cpL, rI_sI, rI_sL, rL_sI, rL_sL, shV_sI, shV_sL, shE_sI, shE_sL, rI_cpI, rL_cpI, rI_cpL, rL_cpL, shV_cpI, shE_cpI, shV_cpL, this]
theorem sI_id (h : Hp) (a k : Nat) : sI h a k (gI h a k) = h := by
  unfold sI gI
  apply Prod.ext
  · funext b j
    by_cases c : b = a ∧ j = k
    · simp only [c, and_self, ↓reduceIte]
    · simp only [c, ↓reduceIte]
  · rfl
theorem inv_mend {h h3 : Hp} (I : Inv h) {w : Int32} {i rc rm d : Nat} {v : Int32} (hw : (w = 0 ∧ rc = 6 ∧ rm = 59) ∨ (w = 1 ∧ rc = 5 ∧ rm = 58) ∨ (w = 2 ∧ rc = 2 ∧ rm = 56))
    (hch : ∀ g p, gI h 1 1 = nI g → gI h 3 3 = nI p → g ≤ 3 → p ≤ 12 → chOK g p (rI h 4) w (nI i) (gI h rc i) ∧ chOK g p (rI h 4) w (nI i) v)
    (hi12 : i < 12) (ed : gI h 33 5 = nI d) (hd : d ≤ 40)
    (F : ∀ a k, a < 33 ∨ 37 < a → a < 61 ∨ 64 < a → a ≠ rc → a ≠ rm → (a = 55 → k ≠ 11 ∧ k ≠ 12) → gI h3 a k = gI h a k) (FL : ∀ a k, gL h3 a k = gL h a k)
    (t1 : gI h3 33 4 = nI (min d 39 + 1)) (t2 : gI h3 33 5 = nI (min d 39 + 1)) (t3 : rI h3 34 = upd (shf d (rI h 34)) (min d 39) (nI i)) (t4 : rI h3 35 = upd (shf d (rI h 35)) (min d 39) w) (t5 : rI h3 36 = upd (shf d (rI h 36)) (min d 39) (gI h rc i)) (t6 : rI h3 37 = upd (shf d (rI h 37)) (min d 39) v)
    (t7 : gI h3 55 11 = nI (min d 39 + 1)) (t8 : gI h3 55 12 = 0) (t9 : rI h3 61 = upd (shf d (rI h 61)) (min d 39) w) (t10 : rI h3 62 = upd (shf d (rI h 62)) (min d 39) (nI i)) (t11 : rI h3 63 = upd (shf d (rI h 63)) (min d 39) (gI h rc i)) (t12 : rI h3 64 = upd (shf d (rI h 64)) (min d 39) v)
    (t13 : rI h3 rc = upd (rI h rc) i v) (t14 : rI h3 rm = upd (rI h rm) i v) : Inv h3 := by
  obtain ⟨iG, iP, iD, iT, iI, iC, iB, iS, iL0, iL1⟩ := id I
  have hrc : rc = 6 ∨ rc = 5 ∨ rc = 2 := by omega
  have hrm : rm = 59 ∨ rm = 58 ∨ rm = 56 := by omega
  have G : ∀ a, a < 33 ∨ 37 < a → a < 61 ∨ 64 < a → a ≠ rc → a ≠ rm → a ≠ 55 → rI h3 a = rI h a := fun a h1 h2 h4 h5 h6 => funext fun k => F a k h1 h2 h4 h5 (fun e => absurd e h6)
  have GL : ∀ a, rL h3 a = rL h a := fun a => funext fun k => FL a k
  have GV : ∀ j, shV h3 j = shV h j := by
    intro j
    funext s
    unfold shV
    by_cases hs : s < 6
    · rw [if_pos hs, if_pos hs, F _ _ (by omega) (by omega) (by omega) (by omega) (by omega)]
    · rw [if_neg hs, if_neg hs]
  have GE : shE h3 = shE h := by
    funext s k
    unfold shE
    by_cases hs : s < 6
    · rw [if_pos hs, if_pos hs, FL]
    · rw [if_neg hs, if_neg hs]
  unfold Inv
  rw [t1, t2, t3, t4, t5, t6, t7, t8, t9, t10, t11, t12]
  simp (disch := omega) only [F, G, GL, GV, GE]
  have jc := JC_push (w := w) (n := nI i) (u := gI h rc i) (v := v) iC ed hd hch
  obtain ⟨g, p, d', s, q1, q2, q3, q4, -⟩ := id iC
  obtain ⟨y1, y2⟩ := hch g p q1 q2 q3 q4
  rcases hw with ⟨rfl, rfl, rfl⟩ | ⟨rfl, rfl, rfl⟩ | ⟨rfl, rfl, rfl⟩
  · simp (disch := omega) only [F, G, t13, t14]
    rcases y2 with ⟨w0, i', c, hi, hn, hv, h1, h2⟩ | ⟨w0, -⟩ | ⟨w0, -⟩
    · subst hv
      exact ⟨iG, JP_setc (p := p) iP h1 h2, iD, iT, iI, jc, iB, iS, iL0, iL1⟩
    · exact absurd w0 (by decide)
    · exact absurd w0 (by decide)
  · simp (disch := omega) only [F, G, t13, t14]
    rcases y2 with ⟨w0, -⟩ | ⟨w0, i', a, b, hi, hn, hl, hv, h1, h2⟩ | ⟨w0, -⟩
    · exact absurd w0 (by decide)
    · subst hv
      have : i = i' := (nI_eq (by omega) (by omega)).mp hn
      subst this
      exact ⟨iG, JP_setr (p := p) iP hl h1 h2, iD, iT, iI, jc, iB, iS, iL0, iL1⟩
    · exact absurd w0 (by decide)
  · simp (disch := omega) only [F, G, t13, t14]
    rcases y2 with ⟨w0, -⟩ | ⟨w0, -⟩ | ⟨w0, i', c, hi, hn, hv, h1, h2⟩
    · exact absurd w0 (by decide)
    · exact absurd w0 (by decide)
    · subst hv
      have : i = i' := (nI_eq (by omega) (by omega)).mp hn
      subst this
      exact ⟨JG_set iG q1 q3 hi h1 h2, iP, iD, iT, iI, jc, iB, iS, iL0, iL1⟩
-- the change itself, both sides
theorem both_mend {h : Hp} (I : Inv h) {w : Int32} {i rc rm : Nat} {v : Int32} (hw : (w = 0 ∧ rc = 6 ∧ rm = 59) ∨ (w = 1 ∧ rc = 5 ∧ rm = 58) ∨ (w = 2 ∧ rc = 2 ∧ rm = 56)) (hi12 : i < 12) (hi3 : w = 2 → i < 3)
    (hch : ∀ g p, gI h 1 1 = nI g → gI h 3 3 = nI p → g ≤ 3 → p ≤ 12 → chOK g p (rI h 4) w (nI i) (gI h rc i) ∧ chOK g p (rI h 4) w (nI i) v)
    (hbec : ∀ Q : Int32 → Hp → Prop, Q (gI h rc i) (sI h rc i v) → wX11_become 0 (nI i) w v h Q) (heq : gI h rm i = gI h rc i)
    {A1 A2 A3 : Prop} (b1 : A1) (b2 : A2) (b3 : A3) {R : Hp → Prop} {Q0 : Prop} (hR : ∀ h', Inv h' → R h') {M : Int32 → Hp → Prop}
    (hM : ∀ v2 h5, (∀ k, gI h5 55 k = gI h 55 k) → (∀ k, gI h5 57 k = gI h 57 k) → wX12_changes 55 w (nI i) v h5 (fun v' h2 => if v2 = v' then R h2 else Q0) → M v2 h5) :
    wX11_become 0 (nI i) w v h (fun v2 h3 => if v2 = v then (A1 ∧ (A2 ∧ (A3 ∧ M v2 h3))) else (wX1_add 33 (nI i) w v2 v h3 (fun h5 => A1 ∧ (A2 ∧ (A3 ∧ M v2 h5))))) := by
  have hrc : rc = 6 ∨ rc = 5 ∨ rc = 2 := by omega
  have hrm : rm = 59 ∨ rm = 58 ∨ rm = 56 := by omega
  obtain ⟨g, p, d, s, q1, q2, q3, q4, q5, q6, q7, q8, q9, q10, q11⟩ := id I.2.2.2.2.2.1
  have hw' : (w = 0 ∧ rm = 59 ∧ i < 12) ∨ (w = 1 ∧ rm = 58 ∧ i < 12) ∨ (w = 2 ∧ rm = 56 ∧ i < 3) := by
    rcases hw with ⟨a, b, c⟩ | ⟨a, b, c⟩ | ⟨a, b, c⟩
    · exact Or.inl ⟨a, c, hi12⟩
    · exact Or.inr (Or.inl ⟨a, c, hi12⟩)
    · exact Or.inr (Or.inr ⟨a, c, hi3 a⟩)
  apply hbec
  by_cases c : gI h rc i = v
  · rw [if_pos c]
    have : sI h rc i v = h := by rw [← c]; exact sI_id h rc i
    rw [this]
    refine ⟨b1, b2, b3, hM _ _ (fun _ => rfl) (fun _ => rfl) ?_⟩
    apply m_chg hw' q9 (by omega)
    · intro _
      rw [if_pos c]
      exact hR h I
    · intro ne
      exact absurd (heq.trans c) ne
  · rw [if_neg c]
    apply c_chadd (d := d) (by simp (disch := omega) only [gI_sI, gI_sL, gL_sI, gL_sL, gI_cpI, gL_cpI, gI_cpL, gL_cpL, eq_f, false_and, ↓reduceIte]; exact q8) (by omega)
    intro h2 f1 f2 t1 t2 t3 t4 t5 t6
    refine ⟨b1, b2, b3, hM _ _ (fun k => ?_) (fun k => ?_) ?_⟩
    · rw [f1 _ _ (by omega)]
      simp (disch := omega) only [gI_sI, gI_sL, gL_sI, gL_sL, gI_cpI, gL_cpI, gI_cpL, gL_cpL, eq_f, false_and, ↓reduceIte]
    · rw [f1 _ _ (by omega)]
      simp (disch := omega) only [gI_sI, gI_sL, gL_sI, gL_sL, gI_cpI, gL_cpI, gI_cpL, gL_cpL, eq_f, false_and, ↓reduceIte]
    have e5 : gI h2 rm i = gI h rc i := by
      rw [f1 _ _ (by omega)]
      simp (disch := omega) only [gI_sI, gI_sL, gL_sI, gL_sL, gI_cpI, gL_cpI, gI_cpL, gL_cpL, eq_f, false_and, ↓reduceIte]
      exact heq
    apply m_chg hw' (d := d) (by rw [f1 _ _ (by omega)]; simp (disch := omega) only [gI_sI, gI_sL, gL_sI, gL_sL, gI_cpI, gL_cpI, gI_cpL, gL_cpL, eq_f, false_and, ↓reduceIte]; exact q9) (by omega)
    · intro q
      exact absurd (e5.symm.trans q) c
    · intro _ h3 k1 k2 u1 u2 u3 u4 u5 u6 u7
      rw [if_pos e5.symm]
      apply hR
      have FF : ∀ a k, a < 33 ∨ 37 < a → a ≠ rc → gI h2 a k = gI h a k := by
        intro a k ha hb
        rw [f1 a k ha]
        simp (disch := omega) only [gI_sI, gI_sL, gL_sI, gL_sL, gI_cpI, gL_cpI, gI_cpL, gL_cpL, eq_f, hb, false_and, ↓reduceIte]
      have FR : ∀ a, a < 33 ∨ 37 < a → a ≠ rc → rI h2 a = rI h a := fun a h1 h2 => funext fun k => FF a k h1 h2
      have FH : ∀ a, a ≠ rc → rI (sI h rc i v) a = rI h a := fun a ha => by rw [rI_sI, if_neg ha]
      have KR : ∀ a, a ≠ rm → a < 61 ∨ 64 < a → a ≠ 55 → rI h3 a = rI h2 a := fun a x1 x2 x3 => funext fun k => k1 a k x1 x2 (fun q => absurd q x3)
      have e5' : gI h2 rm i = gI h rc i := e5
      refine inv_mend I hw hch hi12 q8 (by omega) (fun a k x1 x2 x3 x4 x5 => ?_) (fun a k => ?_) ?_ ?_ ?_ ?_ ?_ ?_ u1 u2 ?_ ?_ ?_ ?_ ?_ ?_
      · rw [k1 a k x4 x2 x5, FF a k x1 x3]
      · rw [k2, f2]; rfl
      · rw [k1 _ _ (by omega) (by omega) (by omega)]; exact t1
      · rw [k1 _ _ (by omega) (by omega) (by omega)]; exact t2
      · rw [KR _ (by omega) (by omega) (by omega), t3, FH _ (by omega)]
      · rw [KR _ (by omega) (by omega) (by omega), t4, FH _ (by omega)]
      · rw [KR _ (by omega) (by omega) (by omega), t5, FH _ (by omega)]
      · rw [KR _ (by omega) (by omega) (by omega), t6, FH _ (by omega)]
      · rw [u3, FR _ (by omega) (by omega)]
      · rw [u4, FR _ (by omega) (by omega)]
      · rw [u5, FR _ (by omega) (by omega), e5']
      · rw [u6, FR _ (by omega) (by omega)]
      · rw [KR _ (by omega) (by omega) (by omega)]
        funext k
        show gI h2 rc k = _
        rw [f1 _ _ (by omega)]
        show rI (sI h rc i v) rc k = _
        rw [rI_sI, if_pos rfl]
      · rw [u7, FR _ (by omega) (by omega)]
