-- taken
def undT (a b : Nat) : Bool := b == 0 || a == b || (b == 1 && a == 4) || (b == 2 && (a == 3 || a == 5)) || (b == 3 && a == 5) || (b == 6 && a == 7)
theorem und_up : ∀ c, c < 8 → ∀ b, b < 8 → c ≠ b → (abvL.getD c 0 = -1 ∧ undT c b = false ∧ c = 0) ∨ ∃ d, d < c ∧ abvL.getD c 0 = nI d ∧ undT d b = undT c b := by decide
theorem c_under {a b : Nat} (ha : a < 8) (hb : b < 8) (h : Hp) {Q : Int32 → Prop} (hQ : Q (if undT a b then 1 else 0)) : wX0_isUnder (nI a) (nI b) h Q := by
  unfold wX0_isUnder
  refine iX0_isUnder_4 (I := fun x y => ∃ j : Nat, y = nI j ∧ ((x = -1 ∧ undT a b = false ∧ j ≤ 8) ∨ ∃ c : Nat, c < 8 ∧ x = nI c ∧ undT c b = undT a b ∧ c + j < 8)) (μ := fun _ y => 9 - y.toNatClampNeg) ?_ (nI a) 0 ⟨0, rfl, Or.inr ⟨a, ha, rfl, rfl, by omega⟩⟩
  rintro x y ⟨j, rfl, hj⟩ K hK
  unfold fX0_isUnder_4
  rcases hj with ⟨rfl, hu, hj⟩ | ⟨c, hc, rfl, hu, hj⟩
  · simp only [hu, Bool.false_eq_true, ↓reduceIte] at hQ
    rw [e_isKind]
    simp only [show (-1 : Int32) < 0 from by decide, true_or, ↓reduceIte]
    by_cases d : (8 : Int32) ≤ nI j
    · rw [if_pos d]; exact hQ
    · rw [if_neg d]; exact hQ
  · rw [if_neg (show ¬ (8 : Int32) ≤ nI j from nI_ge (b := 8) (by omega) (by omega)), e_isKind]
    rw [if_neg (show ¬ (nI c < 0 ∨ ¬ nI c < 8) from fun q => q.elim (fun q => nI_pos (by omega) q) (fun q => q (nI_lt (b := 8) hc (by omega))))]
    simp only [ne10, ↓reduceIte]
    by_cases d : c = b
    · subst d
      rw [if_pos rfl]
      have : undT a c = true := by rw [← hu]; unfold undT; simp
      simpa [this] using hQ
    · rw [if_neg (fun q => d ((nI_eq (by omega) (by omega)).mp q))]
      simp (disch := omega) only [vp_nI, hc, true_and, forall_eq, nI_clamp, nI_1]
      have dec : 9 - (nI (j + 1)).toNatClampNeg < 9 - (nI j).toNatClampNeg := by
        rw [nI_clamp (by omega), nI_clamp (by omega)]; omega
      refine hK _ _ ⟨j + 1, rfl, ?_⟩ dec
      rcases und_up c hc b hb d with ⟨z1, z2, z3⟩ | ⟨e, z1, z2, z3⟩
      · exact Or.inl ⟨z1, hu ▸ z2, by omega⟩
      · exact Or.inr ⟨e, by omega, z2, z3.trans hu, by omega⟩
theorem m_under : ∀ a, a < 8 → ∀ b, b < 8 → ∀ (h : Hp) (Q : Int32 → Prop), Q (if undT a b then 1 else 0) → wX12_isUnder (nI a) (nI b) h Q := by
  intro a ha b hb h Q hQ
  unfold wX12_isUnder jX12_isUnder_19 jX12_isUnder_34 jX12_isUnder_44
  rcases (show a = 0 ∨ a = 1 ∨ a = 2 ∨ a = 3 ∨ a = 4 ∨ a = 5 ∨ a = 6 ∨ a = 7 by omega) with rfl | rfl | rfl | rfl | rfl | rfl | rfl | rfl <;>
  rcases (show b = 0 ∨ b = 1 ∨ b = 2 ∨ b = 3 ∨ b = 4 ∨ b = 5 ∨ b = 6 ∨ b = 7 by omega) with rfl | rfl | rfl | rfl | rfl | rfl | rfl | rfl <;> exact hQ
set_option maxRecDepth 20000 in
set_option maxHeartbeats 1000000 in
theorem ok_taken {h : Hp} (I : Inv h) (x1 : Int32) (x2 : Int32) {A1 : Prop} (b1 : A1) {A2 : Prop} (b2 : A2) {R : Hp → Prop} {Q0 : Prop} (hR : ∀ h', Inv h' → R h') : wX11_taken 0 x1 x2 h (fun v => A1 ∧ (A2 ∧ (wX12_taken 55 x1 x2 h (fun v' => if v = v' then R h else Q0)))) := by
  obtain ⟨iG, iP, iD, iT, iI, iC, iB, iS, iL0, iL1⟩ := id I
  obtain ⟨n, r, hn, hr0, e1, e2, e3, e4, hk, ht⟩ := id iB
  obtain ⟨n', hn', e1', hs⟩ := id iS
  have : n = n' := (nI_eq (by omega) (by omega)).mp (e1.symm.trans e1')
  subst this
  simp only [wX11_taken, wX12_taken, e_in, e_isTime, e_mTime, e_isShelf, e_mShelf, e_isKind, e_isNumber, e_gHas, e_pHas, e_bHas, e_isRow, e_isBook, e_isEmpty, l7]
  rcases ix x1 6 (by omega) with c | ⟨s, m1, rfl, c⟩
  · have c : x1 < 0 ∨ ¬ x1 < 6 := c
    simp only [if_pos c, ↓reduceIte, ne10]
    exact ⟨b1, b2, hR h I⟩
  · have c : ¬ (nI s < 0 ∨ ¬ nI s < 6) := c
    simp only [if_neg c, ↓reduceIte, ne10]
    rcases ix x2 8 (by omega) with d | ⟨b, m2, rfl, d⟩
    · have d : x2 < 0 ∨ ¬ x2 < 8 := d
      simp only [if_pos d, ↓reduceIte, ne10]
      exact ⟨b1, b2, hR h I⟩
    · have d : ¬ (nI b < 0 ∨ ¬ nI b < 8) := d
      simp only [if_neg d, ↓reduceIte, ne10, rf_0_0, rf_0_1, rf_0_2, rf_0_4, rf_0_5, rf_0_6, rf_0_8, rf_0_9, rf_0_10, rf_0_11, rf_0_12, rf_0_13, rf_1_0, rf_3_0, rf_3_1, rf_3_2, rf_8_0, rf_8_1, rf_8_2, rf_8_3, rf_10_0, rf_10_1, rf_10_2, rf_14_0, rf_14_1, rf_14_2, rf_18_0, rf_18_1, rf_19_0, rf_19_1, rf_19_2, rf_23_0, rf_25_0, rf_27_0, rf_27_1, rf_27_2, rf_27_3, rf_27_4, rf_30_0, rf_30_1, rf_30_2, rf_30_3, rf_30_4, rf_33_0, rf_33_1, rf_33_2, rf_33_3, rf_39_0, rf_39_1, rf_42_0, rf_42_1, rf_42_2, rf_42_3, rf_42_4, rf_42_5, rf_43_0, rf_45_0, rf_47_0, rf_49_0, rf_51_0, rf_53_0, rf_55_2, rf_55_4, rf_55_5, rf_55_6, rf_55_10, rf_55_13, rf_55_14, rf_55_15, rf_55_16, rf_55_17, rf_55_23, rf_55_24, rf_55_25, rf_55_26, rf_55_27, rf_55_28, rf_55_29, rf_55_30, rf_55_31, rf_55_32, rf_55_37, rf_55_38, rf_55_39, rf_55_40, rf_55_47, rf_55_49, rf_55_51, rf_55_52, rf_55_53, rf_55_54, rf_55_55, ln_2, ln_4, ln_5, ln_6, ln_7, ln_9, ln_11, ln_12, ln_13, ln_15, ln_16, ln_17, ln_20, ln_21, ln_22, ln_24, ln_26, ln_28, ln_29, ln_31, ln_32, ln_34, ln_35, ln_36, ln_37, ln_38, ln_40, ln_41, ln_42, ln_44, ln_46, ln_48, ln_50, ln_52, ln_54, ln_56, ln_57, ln_58, ln_59, ln_60, ln_61, ln_62, ln_63, ln_64, ln_65, ln_66, ln_67, ln_68, ln_69, ln_70, ln_71, ln_72, ln_73, ln_74, ln_75, ln_76, ln_77, ln_78, ln_79, ln_80, ln_81, ln_82, ln_83, ln_84, ln_85, ln_86]
      simp (disch := omega) only [nI_clamp, vp_nI, sh_id1, sh_id2, sh_id3, shV_at, shE_at, m1, true_and]
      rcases hs s m1 with ⟨z1, z2, z3⟩ | ⟨z1, i, z2, z3, z4⟩ | ⟨z1, q, z, z2, z3, z4, z5, z6, z7, z8, z9⟩
      · have z3 : gI h 83 s = -1 := z3
        simp only [z1, z2, z3, ↓reduceIte, ne10]
        exact ⟨b1, b2, hR h I⟩
      · have z4 : gI h 83 s = nI i := z4
        obtain ⟨y1, q, y2, y3⟩ := hk i z2
        have y3 : gI h 40 i = nI q := y3
        have y1 : gI h 81 i = gI h 40 i := y1
        simp only [z1, z3, z4, ↓reduceIte, ne10, if_neg (nm1 (show i < 2 ^ 31 by omega)), if_neg (nI_pos (show i < 2 ^ 31 by omega)), wX0_kindOf, e_bHas, e1]
        rw [if_neg (show ¬ (nI i < 0 ∨ ¬ nI i < nI n) from fun q => q.elim (fun q => nI_pos (by omega) q) (fun q => q (nI_lt z2 (by omega))))]
        simp (disch := omega) only [rf_0_0, rf_0_1, rf_0_2, rf_0_4, rf_0_5, rf_0_6, rf_0_8, rf_0_9, rf_0_10, rf_0_11, rf_0_12, rf_0_13, rf_1_0, rf_3_0, rf_3_1, rf_3_2, rf_8_0, rf_8_1, rf_8_2, rf_8_3, rf_10_0, rf_10_1, rf_10_2, rf_14_0, rf_14_1, rf_14_2, rf_18_0, rf_18_1, rf_19_0, rf_19_1, rf_19_2, rf_23_0, rf_25_0, rf_27_0, rf_27_1, rf_27_2, rf_27_3, rf_27_4, rf_30_0, rf_30_1, rf_30_2, rf_30_3, rf_30_4, rf_33_0, rf_33_1, rf_33_2, rf_33_3, rf_39_0, rf_39_1, rf_42_0, rf_42_1, rf_42_2, rf_42_3, rf_42_4, rf_42_5, rf_43_0, rf_45_0, rf_47_0, rf_49_0, rf_51_0, rf_53_0, rf_55_2, rf_55_4, rf_55_5, rf_55_6, rf_55_10, rf_55_13, rf_55_14, rf_55_15, rf_55_16, rf_55_17, rf_55_23, rf_55_24, rf_55_25, rf_55_26, rf_55_27, rf_55_28, rf_55_29, rf_55_30, rf_55_31, rf_55_32, rf_55_37, rf_55_38, rf_55_39, rf_55_40, rf_55_47, rf_55_49, rf_55_51, rf_55_52, rf_55_53, rf_55_54, rf_55_55, ln_2, ln_4, ln_5, ln_6, ln_7, ln_9, ln_11, ln_12, ln_13, ln_15, ln_16, ln_17, ln_20, ln_21, ln_22, ln_24, ln_26, ln_28, ln_29, ln_31, ln_32, ln_34, ln_35, ln_36, ln_37, ln_38, ln_40, ln_41, ln_42, ln_44, ln_46, ln_48, ln_50, ln_52, ln_54, ln_56, ln_57, ln_58, ln_59, ln_60, ln_61, ln_62, ln_63, ln_64, ln_65, ln_66, ln_67, ln_68, ln_69, ln_70, ln_71, ln_72, ln_73, ln_74, ln_75, ln_76, ln_77, ln_78, ln_79, ln_80, ln_81, ln_82, ln_83, ln_84, ln_85, ln_86, nI_clamp, vp_nI, ne10, ↓reduceIte, y1, y3, show i < 50 by omega, true_and]
        apply c_under y2 m2
        cases hu : undT q b
        · simp only [Bool.false_eq_true, ↓reduceIte]
          refine ⟨b1, b2, ?_⟩
          apply m_under q y2 b m2
          simp only [hu, Bool.false_eq_true, ↓reduceIte]
          exact hR h I
        · simp only [↓reduceIte, ne10]
          refine ⟨b1, b2, ?_⟩
          apply m_under q y2 b m2
          simp only [hu, ne10, ↓reduceIte]
          exact hR h I
      · have z5 : gI h 83 s = -nI (q + 2) := z5
        simp only [z1, z4, z5, ↓reduceIte, ne10, if_neg (nm1 (show q < 2 ^ 31 by omega)), if_neg (show ¬ -nI (q + 2) = -1 from ngne (n := q + 2) (m := 1) (by omega) (by omega) (by omega)), if_pos (ng0 (n := q + 2) (by omega) (by omega))]
        exact ⟨b1, b2, hR h I⟩
-- row
theorem c_clear {h : Hp} {s : Nat} (hs : s < 6) {Q : Hp → Prop} (hQ : ∀ h2 : Hp, (∀ a k, gI h2 a k = gI h a k) → (∀ a k, gL h2 a k = if a = 44 + 2 * s ∧ k < 60 then 0 else gL h a k) → Q h2) : eX10_holdRow_17 (43 + 2 * s) Q 0 h := by
  refine iX10_holdRow_17 (I := fun x h2 => ∃ j : Nat, x = nI j ∧ j ≤ 60 ∧ (∀ a k, gI h2 a k = gI h a k) ∧ ∀ a k, gL h2 a k = if a = 44 + 2 * s ∧ k < j then 0 else gL h a k) (μ := fun x _ => 60 - x.toNatClampNeg) ?_ 0 h ⟨0, rfl, by omega, fun _ _ => rfl, fun a k => by rw [if_neg (by omega)]⟩
  rintro x h2 ⟨j, rfl, hj, f1, f2⟩ K hK
  unfold fX10_holdRow_17
  by_cases c : 60 ≤ j
  · rw [if_pos (show (60 : Int32) ≤ nI j from nI_le (a := 60) c (by omega))]
    have : j = 60 := by omega
    subst this
    exact hQ h2 f1 f2
  · rw [if_neg (show ¬ (60 : Int32) ≤ nI j from nI_ge (b := 60) (by omega) (by omega))]
    simp (disch := omega) only [sh_id2, sh_id3, forall_eq, nI_clamp, vp_nI, nI_1]
    refine ⟨by omega, hK _ _ ⟨j + 1, rfl, by omega, fun a k => ?_, fun a k => ?_⟩ (by rw [nI_clamp (by omega), nI_clamp (by omega)]; omega)⟩
    · rw [gI_sL, f1]
    · rw [gL_sL, f2]
      by_cases e : a = 44 + 2 * s ∧ k = j
      · rw [if_pos e, if_pos (by omega)]
      · rw [if_neg e]
        by_cases e2 : a = 44 + 2 * s ∧ k < j
        · rw [if_pos e2, if_pos (by omega)]
        · rw [if_neg e2, if_neg (by omega)]
theorem m_clear {h : Hp} {s : Nat} (hs : s < 6) {Q : Int32 → Hp → Prop} (hQ : ∀ h2 : Hp, (∀ a k, gI h2 a k = gI h a k) → (∀ a k, gL h2 a k = if a = 85 ∧ 60 * s ≤ k ∧ k < 60 * s + 60 then 0 else gL h a k) → Q 1 h2) : eX12_row_54 55 (nI s) Q (nI (60 * s)) h := by
  refine iX12_row_54 (I := fun x h2 => ∃ j : Nat, x = nI (60 * s + j) ∧ j ≤ 60 ∧ (∀ a k, gI h2 a k = gI h a k) ∧ ∀ a k, gL h2 a k = if a = 85 ∧ 60 * s ≤ k ∧ k < 60 * s + j then 0 else gL h a k) (μ := fun x _ => 60 * s + 60 - x.toNatClampNeg) ?_ _ h ⟨0, rfl, by omega, fun _ _ => rfl, fun a k => by rw [if_neg (by omega)]⟩
  rintro x h2 ⟨j, rfl, hj, f1, f2⟩ K hK
  unfold fX12_row_54
  have e60 : (60 : Int32) * nI s + 60 = nI (60 * s + 60) := by simp (disch := omega) only [lit, nI_ltI, nI_leI, nI_eq, nI_clamp, nI_add, vp_nI, nI_ne_neg, neg_ne_nI, pk_sub, pk_mul, pk_div, Nat.reduceAdd, Nat.reduceMul, Nat.reducePow, e_mn, e_mx, e_rm, lt_t, lt_f, le_t, le_f, eq_f, eq_t, ↓reduceIte, true_and, and_true, and_false, false_and, and_self, or_true, or_false, true_or, false_or, not_true, not_false_iff]
  rw [e60]
  by_cases c : 60 ≤ j
  · rw [if_pos (nI_le (by omega) (by omega))]
    have : j = 60 := by omega
    subst this
    exact hQ h2 f1 f2
  · rw [if_neg (nI_ge (by omega) (by omega))]
    simp (disch := omega) only [rf_0_0, rf_0_1, rf_0_2, rf_0_4, rf_0_5, rf_0_6, rf_0_8, rf_0_9, rf_0_10, rf_0_11, rf_0_12, rf_0_13, rf_1_0, rf_3_0, rf_3_1, rf_3_2, rf_8_0, rf_8_1, rf_8_2, rf_8_3, rf_10_0, rf_10_1, rf_10_2, rf_14_0, rf_14_1, rf_14_2, rf_18_0, rf_18_1, rf_19_0, rf_19_1, rf_19_2, rf_23_0, rf_25_0, rf_27_0, rf_27_1, rf_27_2, rf_27_3, rf_27_4, rf_30_0, rf_30_1, rf_30_2, rf_30_3, rf_30_4, rf_33_0, rf_33_1, rf_33_2, rf_33_3, rf_39_0, rf_39_1, rf_42_0, rf_42_1, rf_42_2, rf_42_3, rf_42_4, rf_42_5, rf_43_0, rf_45_0, rf_47_0, rf_49_0, rf_51_0, rf_53_0, rf_55_2, rf_55_4, rf_55_5, rf_55_6, rf_55_10, rf_55_13, rf_55_14, rf_55_15, rf_55_16, rf_55_17, rf_55_23, rf_55_24, rf_55_25, rf_55_26, rf_55_27, rf_55_28, rf_55_29, rf_55_30, rf_55_31, rf_55_32, rf_55_37, rf_55_38, rf_55_39, rf_55_40, rf_55_47, rf_55_49, rf_55_51, rf_55_52, rf_55_53, rf_55_54, rf_55_55, ln_2, ln_4, ln_5, ln_6, ln_7, ln_9, ln_11, ln_12, ln_13, ln_15, ln_16, ln_17, ln_20, ln_21, ln_22, ln_24, ln_26, ln_28, ln_29, ln_31, ln_32, ln_34, ln_35, ln_36, ln_37, ln_38, ln_40, ln_41, ln_42, ln_44, ln_46, ln_48, ln_50, ln_52, ln_54, ln_56, ln_57, ln_58, ln_59, ln_60, ln_61, ln_62, ln_63, ln_64, ln_65, ln_66, ln_67, ln_68, ln_69, ln_70, ln_71, ln_72, ln_73, ln_74, ln_75, ln_76, ln_77, ln_78, ln_79, ln_80, ln_81, ln_82, ln_83, ln_84, ln_85, ln_86, forall_eq, nI_clamp, vp_nI, nI_1]
    refine ⟨by omega, hK _ _ ⟨j + 1, by rw [Nat.add_assoc], by omega, fun a k => ?_, fun a k => ?_⟩ (by rw [nI_clamp (by omega), nI_clamp (by omega)]; omega)⟩
    · rw [gI_sL, f1]
    · rw [gL_sL, f2]
      by_cases e : a = 85 ∧ k = 60 * s + j
      · rw [if_pos e, if_pos (by omega)]
      · rw [if_neg e]
        by_cases e2 : a = 85 ∧ 60 * s ≤ k ∧ k < 60 * s + j
        · rw [if_pos e2, if_pos (by omega)]
        · rw [if_neg e2, if_neg (by omega)]
theorem msub2 {q : Nat} (hq : q ≤ 4) : (-2 : Int32) - nI q = -nI (q + 2) := by
  rcases (show q = 0 ∨ q = 1 ∨ q = 2 ∨ q = 3 ∨ q = 4 by omega) with rfl | rfl | rfl | rfl | rfl <;> decide
set_option maxRecDepth 20000 in
set_option maxHeartbeats 1000000 in
theorem ok_row {h : Hp} (I : Inv h) (x1 : Int32) (x2 : Int32) (x3 : Int32) {A1 : Prop} (b1 : A1) {A2 : Prop} (b2 : A2) {A3 : Prop} (b3 : A3) {R : Hp → Prop} {Q0 : Prop} (hR : ∀ h', Inv h' → R h') : wX11_row 0 x1 x2 x3 h (fun v h1 => A1 ∧ (A2 ∧ (A3 ∧ (wX12_row 55 x1 x2 x3 h1 (fun v' h2 => if v = v' then R h2 else Q0))))) := by
  obtain ⟨iG, iP, iD, iT, iI, iC, iB, iS, iL0, iL1⟩ := id I
  obtain ⟨n, hn, e1, hs⟩ := id iS
  simp only [wX11_row, wX12_row, e_in, e_isTime, e_mTime, e_isShelf, e_mShelf, e_isKind, e_isNumber, e_gHas, e_pHas, e_bHas, e_isRow, e_isBook, e_isEmpty]
  rcases ix x1 6 (by omega) with c | ⟨s, m1, rfl, c⟩
  · have c : x1 < 0 ∨ ¬ x1 < 6 := c
    simp only [if_pos c, ↓reduceIte, ne10]
    exact ⟨b1, b2, b3, hR h I⟩
  · have c : ¬ (nI s < 0 ∨ ¬ nI s < 6) := c
    simp only [if_neg c, ↓reduceIte, ne10]
    rcases bd x2 0 4 (l := 0) (u := 4) rfl rfl (by omega) (by omega) with d | ⟨q, d1, d2, rfl, d⟩
    · by_cases d0 : x2 < 0
      · simp only [if_pos d, if_pos d0, ↓reduceIte, ne10]
        exact ⟨b1, b2, b3, hR h I⟩
      · have d1 : 4 < x2 := d.resolve_left d0
        simp only [if_pos d, if_neg d0, if_pos d1, ↓reduceIte, ne10]
        exact ⟨b1, b2, b3, hR h I⟩
    · simp only [if_neg d, ↓reduceIte, ne10]
      rw [if_neg (show ¬ nI q < 0 from fun q => d (Or.inl q)), if_neg (show ¬ 4 < nI q from fun q => d (Or.inr q))]
      by_cases f : x3 ≤ 60
      · simp only [if_pos f]
        by_cases f0 : 0 ≤ x3
        · simp only [if_pos f0]
          obtain ⟨z, rfl, _, hz⟩ := nI_small (lo := 0) (hi := 60) f0 f (by omega) (by omega)
          simp (disch := omega) only [rf_0_0, rf_0_1, rf_0_2, rf_0_4, rf_0_5, rf_0_6, rf_0_8, rf_0_9, rf_0_10, rf_0_11, rf_0_12, rf_0_13, rf_1_0, rf_3_0, rf_3_1, rf_3_2, rf_8_0, rf_8_1, rf_8_2, rf_8_3, rf_10_0, rf_10_1, rf_10_2, rf_14_0, rf_14_1, rf_14_2, rf_18_0, rf_18_1, rf_19_0, rf_19_1, rf_19_2, rf_23_0, rf_25_0, rf_27_0, rf_27_1, rf_27_2, rf_27_3, rf_27_4, rf_30_0, rf_30_1, rf_30_2, rf_30_3, rf_30_4, rf_33_0, rf_33_1, rf_33_2, rf_33_3, rf_39_0, rf_39_1, rf_42_0, rf_42_1, rf_42_2, rf_42_3, rf_42_4, rf_42_5, rf_43_0, rf_45_0, rf_47_0, rf_49_0, rf_51_0, rf_53_0, rf_55_2, rf_55_4, rf_55_5, rf_55_6, rf_55_10, rf_55_13, rf_55_14, rf_55_15, rf_55_16, rf_55_17, rf_55_23, rf_55_24, rf_55_25, rf_55_26, rf_55_27, rf_55_28, rf_55_29, rf_55_30, rf_55_31, rf_55_32, rf_55_37, rf_55_38, rf_55_39, rf_55_40, rf_55_47, rf_55_49, rf_55_51, rf_55_52, rf_55_53, rf_55_54, rf_55_55, ln_2, ln_4, ln_5, ln_6, ln_7, ln_9, ln_11, ln_12, ln_13, ln_15, ln_16, ln_17, ln_20, ln_21, ln_22, ln_24, ln_26, ln_28, ln_29, ln_31, ln_32, ln_34, ln_35, ln_36, ln_37, ln_38, ln_40, ln_41, ln_42, ln_44, ln_46, ln_48, ln_50, ln_52, ln_54, ln_56, ln_57, ln_58, ln_59, ln_60, ln_61, ln_62, ln_63, ln_64, ln_65, ln_66, ln_67, ln_68, ln_69, ln_70, ln_71, ln_72, ln_73, ln_74, ln_75, ln_76, ln_77, ln_78, ln_79, ln_80, ln_81, ln_82, ln_83, ln_84, ln_85, ln_86, nI_clamp, vp_nI, m1, true_and, sh_id1, wX10_holdRow, forall_eq]
          apply c_clear m1
          intro h1 f1 f2
          refine ⟨b1, b2, b3, ?_⟩
          rw [show (60 : Int32) * nI s = nI (60 * s) by simp (disch := omega) only [lit, nI_ltI, nI_leI, nI_eq, nI_clamp, nI_add, vp_nI, nI_ne_neg, neg_ne_nI, pk_sub, pk_mul, pk_div, Nat.reduceAdd, Nat.reduceMul, Nat.reducePow, e_mn, e_mx, e_rm, lt_t, lt_f, le_t, le_f, eq_f, eq_t, ↓reduceIte, true_and, and_true, and_false, false_and, and_self, or_true, or_false, true_or, false_or, not_true, not_false_iff]]
          apply m_clear m1
          intro h2 k1 k2
          refine fin rfl (hR h2 (I.js (fun a k hu n1 n2 n3 => ?_) ?_))
          · rw [k1, gI_sI, if_neg (by omega), gI_sI, if_neg (by omega), f1, gI_sI, if_neg (by omega), gI_sI, if_neg (by omega), gI_sI, if_neg (by omega)]
          · refine ⟨n, hn, e1, fun t ht => ?_⟩
            by_cases hts : t = s
            · subst hts
              refine Or.inr (Or.inr ⟨?_, q, z, d2, hz, ?_, ?_, ?_, ?_, ?_, ?_⟩)
              · unfold shV
                rw [if_pos ht, k1, gI_sI, if_neg (by omega), gI_sI, if_neg (by omega), f1, gI_sI, if_neg (by omega), gI_sI, if_neg (by omega), gI_sI, if_pos (by omega)]
              · unfold shV
                rw [if_pos ht, k1, gI_sI, if_neg (by omega), gI_sI, if_neg (by omega), f1, gI_sI, if_neg (by omega), gI_sI, if_pos (by omega)]
              · show gI h2 83 t = _
                rw [k1, gI_sI, if_neg (by omega), gI_sI, if_pos (by omega)]
                exact msub2 d2
              · unfold shV
                rw [if_pos ht, k1, gI_sI, if_neg (by omega), gI_sI, if_neg (by omega), f1, gI_sI, if_pos (by omega)]
              · show gI h2 84 t = _
                rw [k1, gI_sI, if_pos (by omega)]
              · intro k hk
                show gL h2 85 (60 * t + k) = _
                unfold shE
                rw [if_pos ht, k2, if_pos (by omega), k2, if_neg (by omega), gL_sI, gL_sI, f2, if_pos (by omega)]
              · intro _ k hk
                unfold shE
                rw [if_pos ht, k2, if_neg (by omega), gL_sI, gL_sI, f2, if_pos (by omega)]
                decide
            · have := hs t ht
              have v : ∀ j, shV h2 j t = shV h j t := by
                intro j
                unfold shV
                rw [if_pos ht, if_pos ht, k1, gI_sI, if_neg (by omega), gI_sI, if_neg (by omega), f1, gI_sI, if_neg (by omega), gI_sI, if_neg (by omega), gI_sI, if_neg (by omega)]
              have ve : shE h2 t = shE h t := by
                funext k
                unfold shE
                rw [if_pos ht, if_pos ht, k2, if_neg (by omega), gL_sI, gL_sI, f2, if_neg (by omega)]
                rfl
              have v1 : rI h2 83 t = rI h 83 t := by
                show gI h2 83 t = gI h 83 t
                rw [k1, gI_sI, if_neg (by omega), gI_sI, if_neg (by omega), f1, gI_sI, if_neg (by omega), gI_sI, if_neg (by omega), gI_sI, if_neg (by omega)]
              have v2 : rI h2 84 t = rI h 84 t := by
                show gI h2 84 t = gI h 84 t
                rw [k1, gI_sI, if_neg (by omega), gI_sI, if_neg (by omega), f1, gI_sI, if_neg (by omega), gI_sI, if_neg (by omega), gI_sI, if_neg (by omega)]
              rw [v, v, v, ve, v1, v2]
              rcases this with y | y | ⟨y1, q', z', y2, y3, y4, y5, y6, y7, y8, y9⟩
              · exact Or.inl y
              · exact Or.inr (Or.inl y)
              · refine Or.inr (Or.inr ⟨y1, q', z', y2, y3, y4, y5, y6, y7, fun k hk => ?_, y9⟩)
                show gL h2 85 (60 * t + k) = _
                rw [k2, if_neg (by omega), gL_sI, gL_sI, f2, if_neg (by omega)]
                exact y8 k hk
        · simp only [if_neg f0]
          exact ⟨b1, b2, b3, hR h I⟩
      · simp only [if_neg f]
        exact ⟨b1, b2, b3, hR h I⟩
-- shift
theorem isub {z : Nat} {x : Int32} (hz : z < 2 ^ 31) (h : 0 ≤ x.toInt) : (nI z - x).toInt = (z : Int) - x.toInt := by
  have := i32b x
  rw [Int32.toInt_sub, nI_toInt hz, Int.bmod_eq_of_le] <;> omega
theorem m_sh2 {h : Hp} {t j m : Nat} (ht : t < 6) (hj : j + m ≤ 60) {Q : Int32 → Hp → Prop} (hQ : ∀ h2 : Hp, (∀ a k, gI h2 a k = gI h a k) → (∀ a k, a ≠ 85 → gL h2 a k = gL h a k) → (∀ k, gL h2 85 k = if 60 * t + j ≤ k ∧ k < 60 * t + j + m then gL h 86 (k - (60 * t + j)) else gL h 85 k) → Q (nI m) h2) : eX12_shift_150 55 (nI t) (nI j) (nI m) Q 0 h := by
  refine iX12_shift_150 (I := fun x h2 => ∃ i : Nat, x = nI i ∧ i ≤ m ∧ (∀ a k, gI h2 a k = gI h a k) ∧ (∀ a k, a ≠ 85 → gL h2 a k = gL h a k) ∧ ∀ k, gL h2 85 k = if 60 * t + j ≤ k ∧ k < 60 * t + j + i then gL h 86 (k - (60 * t + j)) else gL h 85 k) (μ := fun x _ => m - x.toNatClampNeg) ?_ 0 h ⟨0, rfl, by omega, fun _ _ => rfl, fun _ _ _ => rfl, fun k => by rw [if_neg (by omega)]⟩
  rintro x h2 ⟨i, rfl, hi, f1, f2, f3⟩ K hK
  unfold fX12_shift_150
  by_cases c : m ≤ i
  · rw [if_pos (nI_le c (by omega))]
    have : i = m := by omega
    subst this
    exact hQ h2 f1 f2 f3
  · rw [if_neg (nI_ge (by omega) (by omega))]
    simp (disch := omega) only [rf_0_0, rf_0_1, rf_0_2, rf_0_4, rf_0_5, rf_0_6, rf_0_8, rf_0_9, rf_0_10, rf_0_11, rf_0_12, rf_0_13, rf_1_0, rf_3_0, rf_3_1, rf_3_2, rf_8_0, rf_8_1, rf_8_2, rf_8_3, rf_10_0, rf_10_1, rf_10_2, rf_14_0, rf_14_1, rf_14_2, rf_18_0, rf_18_1, rf_19_0, rf_19_1, rf_19_2, rf_23_0, rf_25_0, rf_27_0, rf_27_1, rf_27_2, rf_27_3, rf_27_4, rf_30_0, rf_30_1, rf_30_2, rf_30_3, rf_30_4, rf_33_0, rf_33_1, rf_33_2, rf_33_3, rf_39_0, rf_39_1, rf_42_0, rf_42_1, rf_42_2, rf_42_3, rf_42_4, rf_42_5, rf_43_0, rf_45_0, rf_47_0, rf_49_0, rf_51_0, rf_53_0, rf_55_2, rf_55_4, rf_55_5, rf_55_6, rf_55_10, rf_55_13, rf_55_14, rf_55_15, rf_55_16, rf_55_17, rf_55_23, rf_55_24, rf_55_25, rf_55_26, rf_55_27, rf_55_28, rf_55_29, rf_55_30, rf_55_31, rf_55_32, rf_55_37, rf_55_38, rf_55_39, rf_55_40, rf_55_47, rf_55_49, rf_55_51, rf_55_52, rf_55_53, rf_55_54, rf_55_55, ln_2, ln_4, ln_5, ln_6, ln_7, ln_9, ln_11, ln_12, ln_13, ln_15, ln_16, ln_17, ln_20, ln_21, ln_22, ln_24, ln_26, ln_28, ln_29, ln_31, ln_32, ln_34, ln_35, ln_36, ln_37, ln_38, ln_40, ln_41, ln_42, ln_44, ln_46, ln_48, ln_50, ln_52, ln_54, ln_56, ln_57, ln_58, ln_59, ln_60, ln_61, ln_62, ln_63, ln_64, ln_65, ln_66, ln_67, ln_68, ln_69, ln_70, ln_71, ln_72, ln_73, ln_74, ln_75, ln_76, ln_77, ln_78, ln_79, ln_80, ln_81, ln_82, ln_83, ln_84, ln_85, ln_86, forall_eq, lit, nI_ltI, nI_leI, nI_eq, nI_clamp, nI_add, vp_nI, nI_ne_neg, neg_ne_nI, pk_sub, pk_mul, pk_div, Nat.reduceAdd, Nat.reduceMul, Nat.reducePow]
    refine ⟨by omega, by omega, hK _ _ ⟨i + 1, rfl, by omega, fun a k => ?_, fun a k ha => ?_, fun k => ?_⟩ (by rw [nI_clamp (by omega), nI_clamp (by omega)]; omega)⟩
    · rw [gI_sL, f1]
    · rw [gL_sL, if_neg (by omega), f2 a k ha]
    · rw [gL_sL]
      by_cases e : k = 60 * t + j + i
      · rw [if_pos ⟨rfl, e⟩, if_pos (by omega), f2 86 _ (by decide)]
        congr 1; omega
      · rw [if_neg (by omega), f3]
        by_cases e2 : 60 * t + j ≤ k ∧ k < 60 * t + j + i
        · rw [if_pos e2, if_pos (by omega)]
        · rw [if_neg e2, if_neg (by omega)]
theorem m_sh1 {h : Hp} {s i t j m : Nat} (hs : s < 6) (ht : t < 6) (hi : i + m ≤ 60) (hj : j + m ≤ 60) {Q : Int32 → Hp → Prop} (hQ : ∀ h2 : Hp, (∀ a k, gI h2 a k = gI h a k) → (∀ a k, a ≠ 85 → a ≠ 86 → gL h2 a k = gL h a k) → (∀ k, gL h2 85 k = if 60 * t + j ≤ k ∧ k < 60 * t + j + m then gL h 85 (60 * s + i + (k - (60 * t + j))) else gL h 85 k) → Q (nI m) h2) : eX12_shift_113 55 (nI s) (nI i) (nI t) (nI j) (nI m) Q 0 h := by
  refine iX12_shift_113 (I := fun x h2 => ∃ l : Nat, x = nI l ∧ l ≤ m ∧ (∀ a k, gI h2 a k = gI h a k) ∧ (∀ a k, a ≠ 86 → gL h2 a k = gL h a k) ∧ ∀ k, k < l → gL h2 86 k = gL h 85 (60 * s + i + k)) (μ := fun x _ => m - x.toNatClampNeg) ?_ 0 h ⟨0, rfl, by omega, fun _ _ => rfl, fun _ _ _ => rfl, fun k hk => by omega⟩
  rintro x h2 ⟨l, rfl, hl, f1, f2, f3⟩ K hK
  unfold fX12_shift_113
  by_cases c : m ≤ l
  · rw [if_pos (nI_le c (by omega))]
    have : l = m := by omega
    subst this
    apply m_sh2 ht hj
    intro h3 k1 k2 k3
    refine hQ h3 (fun a k => by rw [k1, f1]) (fun a k n1 n2 => by rw [k2 a k n1, f2 a k n2]) (fun k => ?_)
    rw [k3]
    by_cases e2 : 60 * t + j ≤ k ∧ k < 60 * t + j + l
    · rw [if_pos e2, if_pos e2, f3 _ (by omega)]
    · rw [if_neg e2, if_neg e2, f2 _ _ (by decide)]
  · rw [if_neg (nI_ge (by omega) (by omega))]
    simp (disch := omega) only [rf_0_0, rf_0_1, rf_0_2, rf_0_4, rf_0_5, rf_0_6, rf_0_8, rf_0_9, rf_0_10, rf_0_11, rf_0_12, rf_0_13, rf_1_0, rf_3_0, rf_3_1, rf_3_2, rf_8_0, rf_8_1, rf_8_2, rf_8_3, rf_10_0, rf_10_1, rf_10_2, rf_14_0, rf_14_1, rf_14_2, rf_18_0, rf_18_1, rf_19_0, rf_19_1, rf_19_2, rf_23_0, rf_25_0, rf_27_0, rf_27_1, rf_27_2, rf_27_3, rf_27_4, rf_30_0, rf_30_1, rf_30_2, rf_30_3, rf_30_4, rf_33_0, rf_33_1, rf_33_2, rf_33_3, rf_39_0, rf_39_1, rf_42_0, rf_42_1, rf_42_2, rf_42_3, rf_42_4, rf_42_5, rf_43_0, rf_45_0, rf_47_0, rf_49_0, rf_51_0, rf_53_0, rf_55_2, rf_55_4, rf_55_5, rf_55_6, rf_55_10, rf_55_13, rf_55_14, rf_55_15, rf_55_16, rf_55_17, rf_55_23, rf_55_24, rf_55_25, rf_55_26, rf_55_27, rf_55_28, rf_55_29, rf_55_30, rf_55_31, rf_55_32, rf_55_37, rf_55_38, rf_55_39, rf_55_40, rf_55_47, rf_55_49, rf_55_51, rf_55_52, rf_55_53, rf_55_54, rf_55_55, ln_2, ln_4, ln_5, ln_6, ln_7, ln_9, ln_11, ln_12, ln_13, ln_15, ln_16, ln_17, ln_20, ln_21, ln_22, ln_24, ln_26, ln_28, ln_29, ln_31, ln_32, ln_34, ln_35, ln_36, ln_37, ln_38, ln_40, ln_41, ln_42, ln_44, ln_46, ln_48, ln_50, ln_52, ln_54, ln_56, ln_57, ln_58, ln_59, ln_60, ln_61, ln_62, ln_63, ln_64, ln_65, ln_66, ln_67, ln_68, ln_69, ln_70, ln_71, ln_72, ln_73, ln_74, ln_75, ln_76, ln_77, ln_78, ln_79, ln_80, ln_81, ln_82, ln_83, ln_84, ln_85, ln_86, forall_eq, lit, nI_ltI, nI_leI, nI_eq, nI_clamp, nI_add, vp_nI, nI_ne_neg, neg_ne_nI, pk_sub, pk_mul, pk_div, Nat.reduceAdd, Nat.reduceMul, Nat.reducePow]
    refine ⟨by omega, by omega, hK _ _ ⟨l + 1, rfl, by omega, fun a k => ?_, fun a k ha => ?_, fun k hk => ?_⟩ (by rw [nI_clamp (by omega), nI_clamp (by omega)]; omega)⟩
    · rw [gI_sL, f1]
    · rw [gL_sL, if_neg (by omega), f2 a k ha]
    · rw [gL_sL]
      by_cases e : k = l
      · rw [if_pos ⟨rfl, e⟩, f2 85 _ (by decide), e]
      · rw [if_neg (by omega), f3 k (by omega)]
theorem pl3 {x n : Int32} {z : Nat} (hz : z ≤ 60) : (x.toInt < 0 ∨ n.toInt < 0 ∨ (nI z).toInt - n.toInt < x.toInt) ∨ ∃ i m : Nat, x = nI i ∧ n = nI m ∧ i + m ≤ z ∧ ¬ ((nI i).toInt < 0 ∨ (nI m).toInt < 0 ∨ (nI z).toInt - (nI m).toInt < (nI i).toInt) := by
  by_cases c : x.toInt < 0 ∨ n.toInt < 0 ∨ (nI z).toInt - n.toInt < x.toInt
  · exact Or.inl c
  · right
    have hz' := nI_toInt (n := z) (by omega)
    rw [hz'] at c
    have c1 : ¬ x < 0 := by rw [Int32.lt_iff_toInt_lt]; show ¬ x.toInt < 0; omega
    have c2 : ¬ n < 0 := by rw [Int32.lt_iff_toInt_lt]; show ¬ n.toInt < 0; omega
    obtain ⟨i, i1, rfl⟩ := nI_of c1
    obtain ⟨m, m1, rfl⟩ := nI_of c2
    have a1 := nI_toInt (n := i) (by omega)
    have a2 := nI_toInt (n := m) (by omega)
    rw [a1, a2] at c
    refine ⟨i, m, rfl, rfl, by omega, ?_⟩
    rw [a1, a2, hz']
    omega
theorem lgsub {z : Nat} {x n : Int32} (hz : z ≤ 60) (hn : ¬ n < 0) : (nI z - n < x) = ((nI z).toInt - n.toInt < x.toInt) := by
  have : 0 ≤ n.toInt := by
    rw [Int32.lt_iff_toInt_lt] at hn
    have : ¬ n.toInt < 0 := hn
    omega
  rw [Int32.lt_iff_toInt_lt, isub (by omega) this, nI_toInt (by omega)]
theorem ltI0 (x : Int32) : (x < 0) = (x.toInt < 0) := by
  rw [Int32.lt_iff_toInt_lt]; rfl
set_option maxRecDepth 20000 in
set_option maxHeartbeats 1000000 in
theorem ok_shift {h : Hp} (I : Inv h) (x1 : Int32) (x2 : Int32) (x3 : Int32) (x4 : Int32) (x5 : Int32) {A1 : Prop} (b1 : A1) {A2 : Prop} (b2 : A2) {A3 : Prop} (b3 : A3) {A4 : Prop} (b4 : A4) {A5 : Prop} (b5 : A5) {R : Hp → Prop} {Q0 : Prop} (hR : ∀ h', Inv h' → R h') : wX11_shift 0 x1 x2 x3 x4 x5 h (fun v h1 => A1 ∧ (A2 ∧ (A3 ∧ (A4 ∧ (A5 ∧ (wX12_shift 55 x1 x2 x3 x4 x5 h1 (fun v' h2 => if v = v' then R h2 else Q0))))))) := by
  obtain ⟨iG, iP, iD, iT, iI, iC, iB, iS, iL0, iL1⟩ := id I
  obtain ⟨n, hn, e1, hs⟩ := id iS
  unfold wX11_shift
  simp only [↓e_isShelf]
  rcases ix x1 6 (by omega) with c | ⟨s, m1, rfl, c⟩
  · have c : x1 < 0 ∨ ¬ x1 < 6 := c
    simp only [if_pos c, ↓reduceIte]
    refine ⟨b1, b2, b3, b4, b5, ?_⟩
    unfold wX12_shift
    simp only [↓e_mShelf, if_pos c, ↓reduceIte]
    exact hR h I
  · have c : ¬ (nI s < 0 ∨ ¬ nI s < 6) := c
    simp only [if_neg c, ↓reduceIte, ne10]
    rcases ix x3 6 (by omega) with d | ⟨t, m2, rfl, d⟩
    · have d : x3 < 0 ∨ ¬ x3 < 6 := d
      simp only [if_pos d, ↓reduceIte]
      refine ⟨b1, b2, b3, b4, b5, ?_⟩
      unfold wX12_shift
      simp only [↓e_mShelf, if_neg c, if_pos d, ↓reduceIte, ne10]
      exact hR h I
    · have d : ¬ (nI t < 0 ∨ ¬ nI t < 6) := d
      simp only [if_neg d, ↓reduceIte, ne10, rf_0_13]
      simp only [nI_clamp (show s < 2 ^ 31 by omega), nI_clamp (show t < 2 ^ 31 by omega), sh_id1 m1, sh_id1 m2]
      refine ⟨(vp_nI (by omega)).mpr m1, (vp_nI (by omega)).mpr m2, ?_⟩
      have cs : (nI s).toNatClampNeg = s := nI_clamp (by omega)
      have ct : (nI t).toNatClampNeg = t := nI_clamp (by omega)
      have vs : vp_in (nI s) 6 := (vp_nI (by omega)).mpr m1
      have vt : vp_in (nI t) 6 := (vp_nI (by omega)).mpr m2
      rcases hs s m1 with ⟨z1, z2, z3⟩ | ⟨z1, i, z2, z3, z4⟩ | ⟨z1, q, z, z2, z3, z4, z5, z6, z7, z8, z9⟩
      · have z3 : gI h 83 s = -1 := z3
        simp only [↓e_isEmpty, ↓e_isRow, shV_at m1, shV_at m2, z1, z2, z3, ↓reduceIte, ne10]
        refine ⟨b1, b2, b3, b4, b5, ?_⟩; unfold wX12_shift; simp only [↓e_mShelf, if_neg c, if_neg d, ↓reduceIte, ne10, rf_0_0, rf_0_1, rf_0_2, rf_0_4, rf_0_5, rf_0_6, rf_0_8, rf_0_9, rf_0_10, rf_0_11, rf_0_12, rf_0_13, rf_1_0, rf_3_0, rf_3_1, rf_3_2, rf_8_0, rf_8_1, rf_8_2, rf_8_3, rf_10_0, rf_10_1, rf_10_2, rf_14_0, rf_14_1, rf_14_2, rf_18_0, rf_18_1, rf_19_0, rf_19_1, rf_19_2, rf_23_0, rf_25_0, rf_27_0, rf_27_1, rf_27_2, rf_27_3, rf_27_4, rf_30_0, rf_30_1, rf_30_2, rf_30_3, rf_30_4, rf_33_0, rf_33_1, rf_33_2, rf_33_3, rf_39_0, rf_39_1, rf_42_0, rf_42_1, rf_42_2, rf_42_3, rf_42_4, rf_42_5, rf_43_0, rf_45_0, rf_47_0, rf_49_0, rf_51_0, rf_53_0, rf_55_2, rf_55_4, rf_55_5, rf_55_6, rf_55_10, rf_55_13, rf_55_14, rf_55_15, rf_55_16, rf_55_17, rf_55_23, rf_55_24, rf_55_25, rf_55_26, rf_55_27, rf_55_28, rf_55_29, rf_55_30, rf_55_31, rf_55_32, rf_55_37, rf_55_38, rf_55_39, rf_55_40, rf_55_47, rf_55_49, rf_55_51, rf_55_52, rf_55_53, rf_55_54, rf_55_55, ln_2, ln_4, ln_5, ln_6, ln_7, ln_9, ln_11, ln_12, ln_13, ln_15, ln_16, ln_17, ln_20, ln_21, ln_22, ln_24, ln_26, ln_28, ln_29, ln_31, ln_32, ln_34, ln_35, ln_36, ln_37, ln_38, ln_40, ln_41, ln_42, ln_44, ln_46, ln_48, ln_50, ln_52, ln_54, ln_56, ln_57, ln_58, ln_59, ln_60, ln_61, ln_62, ln_63, ln_64, ln_65, ln_66, ln_67, ln_68, ln_69, ln_70, ln_71, ln_72, ln_73, ln_74, ln_75, ln_76, ln_77, ln_78, ln_79, ln_80, ln_81, ln_82, ln_83, ln_84, ln_85, ln_86, cs, ct, vs, vt, true_and]
        simp only [z1, z2, z3, ↓reduceIte, ne10]
        exact hR h I
      · have z4 : gI h 83 s = nI i := z4
        rcases hs t m2 with ⟨y1, y2, y3⟩ | ⟨y1, j, y2, y3, y4⟩ | ⟨y1, q', z', y2, y3, y4, y5, y6, y7, y8, y9⟩
        · have y3 : gI h 83 t = -1 := y3
          simp only [↓e_isEmpty, ↓e_isRow, shV_at m1, shV_at m2, z1, z3, z4, y1, y2, y3, ↓reduceIte, ne10, if_neg (nm1 (show i < 2 ^ 31 by omega))]
          refine ⟨b1, b2, b3, b4, b5, ?_⟩; unfold wX12_shift; simp only [↓e_mShelf, if_neg c, if_neg d, ↓reduceIte, ne10, rf_0_0, rf_0_1, rf_0_2, rf_0_4, rf_0_5, rf_0_6, rf_0_8, rf_0_9, rf_0_10, rf_0_11, rf_0_12, rf_0_13, rf_1_0, rf_3_0, rf_3_1, rf_3_2, rf_8_0, rf_8_1, rf_8_2, rf_8_3, rf_10_0, rf_10_1, rf_10_2, rf_14_0, rf_14_1, rf_14_2, rf_18_0, rf_18_1, rf_19_0, rf_19_1, rf_19_2, rf_23_0, rf_25_0, rf_27_0, rf_27_1, rf_27_2, rf_27_3, rf_27_4, rf_30_0, rf_30_1, rf_30_2, rf_30_3, rf_30_4, rf_33_0, rf_33_1, rf_33_2, rf_33_3, rf_39_0, rf_39_1, rf_42_0, rf_42_1, rf_42_2, rf_42_3, rf_42_4, rf_42_5, rf_43_0, rf_45_0, rf_47_0, rf_49_0, rf_51_0, rf_53_0, rf_55_2, rf_55_4, rf_55_5, rf_55_6, rf_55_10, rf_55_13, rf_55_14, rf_55_15, rf_55_16, rf_55_17, rf_55_23, rf_55_24, rf_55_25, rf_55_26, rf_55_27, rf_55_28, rf_55_29, rf_55_30, rf_55_31, rf_55_32, rf_55_37, rf_55_38, rf_55_39, rf_55_40, rf_55_47, rf_55_49, rf_55_51, rf_55_52, rf_55_53, rf_55_54, rf_55_55, ln_2, ln_4, ln_5, ln_6, ln_7, ln_9, ln_11, ln_12, ln_13, ln_15, ln_16, ln_17, ln_20, ln_21, ln_22, ln_24, ln_26, ln_28, ln_29, ln_31, ln_32, ln_34, ln_35, ln_36, ln_37, ln_38, ln_40, ln_41, ln_42, ln_44, ln_46, ln_48, ln_50, ln_52, ln_54, ln_56, ln_57, ln_58, ln_59, ln_60, ln_61, ln_62, ln_63, ln_64, ln_65, ln_66, ln_67, ln_68, ln_69, ln_70, ln_71, ln_72, ln_73, ln_74, ln_75, ln_76, ln_77, ln_78, ln_79, ln_80, ln_81, ln_82, ln_83, ln_84, ln_85, ln_86, cs, ct, vs, vt, true_and]
          simp only [z1, z3, z4, y1, y2, y3, ↓reduceIte, ne10, if_neg (nm1 (show i < 2 ^ 31 by omega))]
          exact hR h I
        · have y4 : gI h 83 t = nI j := y4
          simp only [↓e_isEmpty, ↓e_isRow, shV_at m1, shV_at m2, z1, z3, z4, y1, y3, y4, ↓reduceIte, ne10, if_neg (nm1 (show i < 2 ^ 31 by omega)), if_neg (nm1 (show j < 2 ^ 31 by omega)), if_pos (nl (nI_pos (show i < 2 ^ 31 by omega)))]
          refine ⟨b1, b2, b3, b4, b5, ?_⟩; unfold wX12_shift; simp only [↓e_mShelf, if_neg c, if_neg d, ↓reduceIte, ne10, rf_0_0, rf_0_1, rf_0_2, rf_0_4, rf_0_5, rf_0_6, rf_0_8, rf_0_9, rf_0_10, rf_0_11, rf_0_12, rf_0_13, rf_1_0, rf_3_0, rf_3_1, rf_3_2, rf_8_0, rf_8_1, rf_8_2, rf_8_3, rf_10_0, rf_10_1, rf_10_2, rf_14_0, rf_14_1, rf_14_2, rf_18_0, rf_18_1, rf_19_0, rf_19_1, rf_19_2, rf_23_0, rf_25_0, rf_27_0, rf_27_1, rf_27_2, rf_27_3, rf_27_4, rf_30_0, rf_30_1, rf_30_2, rf_30_3, rf_30_4, rf_33_0, rf_33_1, rf_33_2, rf_33_3, rf_39_0, rf_39_1, rf_42_0, rf_42_1, rf_42_2, rf_42_3, rf_42_4, rf_42_5, rf_43_0, rf_45_0, rf_47_0, rf_49_0, rf_51_0, rf_53_0, rf_55_2, rf_55_4, rf_55_5, rf_55_6, rf_55_10, rf_55_13, rf_55_14, rf_55_15, rf_55_16, rf_55_17, rf_55_23, rf_55_24, rf_55_25, rf_55_26, rf_55_27, rf_55_28, rf_55_29, rf_55_30, rf_55_31, rf_55_32, rf_55_37, rf_55_38, rf_55_39, rf_55_40, rf_55_47, rf_55_49, rf_55_51, rf_55_52, rf_55_53, rf_55_54, rf_55_55, ln_2, ln_4, ln_5, ln_6, ln_7, ln_9, ln_11, ln_12, ln_13, ln_15, ln_16, ln_17, ln_20, ln_21, ln_22, ln_24, ln_26, ln_28, ln_29, ln_31, ln_32, ln_34, ln_35, ln_36, ln_37, ln_38, ln_40, ln_41, ln_42, ln_44, ln_46, ln_48, ln_50, ln_52, ln_54, ln_56, ln_57, ln_58, ln_59, ln_60, ln_61, ln_62, ln_63, ln_64, ln_65, ln_66, ln_67, ln_68, ln_69, ln_70, ln_71, ln_72, ln_73, ln_74, ln_75, ln_76, ln_77, ln_78, ln_79, ln_80, ln_81, ln_82, ln_83, ln_84, ln_85, ln_86, cs, ct, vs, vt, true_and]
          simp only [z1, z3, z4, y1, y3, y4, ↓reduceIte, ne10, if_neg (nm1 (show i < 2 ^ 31 by omega)), if_neg (nm1 (show j < 2 ^ 31 by omega)), if_pos (nl (nI_pos (show i < 2 ^ 31 by omega)))]
          exact hR h I
        · have y5 : gI h 83 t = -nI (q' + 2) := y5
          simp only [↓e_isEmpty, ↓e_isRow, shV_at m1, shV_at m2, z1, z3, z4, y1, y4, y5, ↓reduceIte, ne10, if_neg (nm1 (show i < 2 ^ 31 by omega)), if_neg (nm1 (show q' < 2 ^ 31 by omega)), if_neg (show ¬ -nI (q' + 2) = -1 from ngne (n := q' + 2) (m := 1) (by omega) (by omega) (by omega)), if_pos (nl (nI_pos (show i < 2 ^ 31 by omega)))]
          refine ⟨b1, b2, b3, b4, b5, ?_⟩; unfold wX12_shift; simp only [↓e_mShelf, if_neg c, if_neg d, ↓reduceIte, ne10, rf_0_0, rf_0_1, rf_0_2, rf_0_4, rf_0_5, rf_0_6, rf_0_8, rf_0_9, rf_0_10, rf_0_11, rf_0_12, rf_0_13, rf_1_0, rf_3_0, rf_3_1, rf_3_2, rf_8_0, rf_8_1, rf_8_2, rf_8_3, rf_10_0, rf_10_1, rf_10_2, rf_14_0, rf_14_1, rf_14_2, rf_18_0, rf_18_1, rf_19_0, rf_19_1, rf_19_2, rf_23_0, rf_25_0, rf_27_0, rf_27_1, rf_27_2, rf_27_3, rf_27_4, rf_30_0, rf_30_1, rf_30_2, rf_30_3, rf_30_4, rf_33_0, rf_33_1, rf_33_2, rf_33_3, rf_39_0, rf_39_1, rf_42_0, rf_42_1, rf_42_2, rf_42_3, rf_42_4, rf_42_5, rf_43_0, rf_45_0, rf_47_0, rf_49_0, rf_51_0, rf_53_0, rf_55_2, rf_55_4, rf_55_5, rf_55_6, rf_55_10, rf_55_13, rf_55_14, rf_55_15, rf_55_16, rf_55_17, rf_55_23, rf_55_24, rf_55_25, rf_55_26, rf_55_27, rf_55_28, rf_55_29, rf_55_30, rf_55_31, rf_55_32, rf_55_37, rf_55_38, rf_55_39, rf_55_40, rf_55_47, rf_55_49, rf_55_51, rf_55_52, rf_55_53, rf_55_54, rf_55_55, ln_2, ln_4, ln_5, ln_6, ln_7, ln_9, ln_11, ln_12, ln_13, ln_15, ln_16, ln_17, ln_20, ln_21, ln_22, ln_24, ln_26, ln_28, ln_29, ln_31, ln_32, ln_34, ln_35, ln_36, ln_37, ln_38, ln_40, ln_41, ln_42, ln_44, ln_46, ln_48, ln_50, ln_52, ln_54, ln_56, ln_57, ln_58, ln_59, ln_60, ln_61, ln_62, ln_63, ln_64, ln_65, ln_66, ln_67, ln_68, ln_69, ln_70, ln_71, ln_72, ln_73, ln_74, ln_75, ln_76, ln_77, ln_78, ln_79, ln_80, ln_81, ln_82, ln_83, ln_84, ln_85, ln_86, cs, ct, vs, vt, true_and]
          simp only [z1, z3, z4, y1, y4, y5, ↓reduceIte, ne10, if_neg (nm1 (show i < 2 ^ 31 by omega)), if_neg (nm1 (show q' < 2 ^ 31 by omega)), if_neg (show ¬ -nI (q' + 2) = -1 from ngne (n := q' + 2) (m := 1) (by omega) (by omega) (by omega)), if_pos (nl (nI_pos (show i < 2 ^ 31 by omega)))]
          exact hR h I
      · have z5 : gI h 83 s = -nI (q + 2) := z5
        have z7 : gI h 84 s = nI z := z7
        rcases hs t m2 with ⟨y1, y2, y3⟩ | ⟨y1, j, y2, y3, y4⟩ | ⟨y1, q', z', y2, y3, y4, y5, y6, y7, y8, y9⟩
        · have y3 : gI h 83 t = -1 := y3
          simp only [↓e_isEmpty, ↓e_isRow, shV_at m1, shV_at m2, z1, z4, z5, y1, y2, y3, ↓reduceIte, ne10, if_neg (nm1 (show q < 2 ^ 31 by omega)), if_neg (show ¬ -nI (q + 2) = -1 from ngne (n := q + 2) (m := 1) (by omega) (by omega) (by omega))]
          refine ⟨b1, b2, b3, b4, b5, ?_⟩; unfold wX12_shift; simp only [↓e_mShelf, if_neg c, if_neg d, ↓reduceIte, ne10, rf_0_0, rf_0_1, rf_0_2, rf_0_4, rf_0_5, rf_0_6, rf_0_8, rf_0_9, rf_0_10, rf_0_11, rf_0_12, rf_0_13, rf_1_0, rf_3_0, rf_3_1, rf_3_2, rf_8_0, rf_8_1, rf_8_2, rf_8_3, rf_10_0, rf_10_1, rf_10_2, rf_14_0, rf_14_1, rf_14_2, rf_18_0, rf_18_1, rf_19_0, rf_19_1, rf_19_2, rf_23_0, rf_25_0, rf_27_0, rf_27_1, rf_27_2, rf_27_3, rf_27_4, rf_30_0, rf_30_1, rf_30_2, rf_30_3, rf_30_4, rf_33_0, rf_33_1, rf_33_2, rf_33_3, rf_39_0, rf_39_1, rf_42_0, rf_42_1, rf_42_2, rf_42_3, rf_42_4, rf_42_5, rf_43_0, rf_45_0, rf_47_0, rf_49_0, rf_51_0, rf_53_0, rf_55_2, rf_55_4, rf_55_5, rf_55_6, rf_55_10, rf_55_13, rf_55_14, rf_55_15, rf_55_16, rf_55_17, rf_55_23, rf_55_24, rf_55_25, rf_55_26, rf_55_27, rf_55_28, rf_55_29, rf_55_30, rf_55_31, rf_55_32, rf_55_37, rf_55_38, rf_55_39, rf_55_40, rf_55_47, rf_55_49, rf_55_51, rf_55_52, rf_55_53, rf_55_54, rf_55_55, ln_2, ln_4, ln_5, ln_6, ln_7, ln_9, ln_11, ln_12, ln_13, ln_15, ln_16, ln_17, ln_20, ln_21, ln_22, ln_24, ln_26, ln_28, ln_29, ln_31, ln_32, ln_34, ln_35, ln_36, ln_37, ln_38, ln_40, ln_41, ln_42, ln_44, ln_46, ln_48, ln_50, ln_52, ln_54, ln_56, ln_57, ln_58, ln_59, ln_60, ln_61, ln_62, ln_63, ln_64, ln_65, ln_66, ln_67, ln_68, ln_69, ln_70, ln_71, ln_72, ln_73, ln_74, ln_75, ln_76, ln_77, ln_78, ln_79, ln_80, ln_81, ln_82, ln_83, ln_84, ln_85, ln_86, cs, ct, vs, vt, true_and]
          simp only [z1, z4, z5, y1, y2, y3, ↓reduceIte, ne10, if_neg (nm1 (show q < 2 ^ 31 by omega)), if_neg (show ¬ -nI (q + 2) = -1 from ngne (n := q + 2) (m := 1) (by omega) (by omega) (by omega))]
          exact hR h I
        · have y4 : gI h 83 t = nI j := y4
          simp only [↓e_isEmpty, ↓e_isRow, shV_at m1, shV_at m2, z1, z4, z5, y1, y3, y4, ↓reduceIte, ne10, if_neg (nm1 (show q < 2 ^ 31 by omega)), if_neg (nm1 (show j < 2 ^ 31 by omega)), if_neg (show ¬ -nI (q + 2) = -1 from ngne (n := q + 2) (m := 1) (by omega) (by omega) (by omega)), if_neg (show ¬ 0 ≤ -nI (q + 2) from Int32.not_le.mpr (ng0 (n := q + 2) (by omega) (by omega))), if_neg (show ¬ -nI (q + 2) = nI j from fun w => (neg_ne_nI (by omega) (by omega) (by omega)).mp w)]
          refine ⟨b1, b2, b3, b4, b5, ?_⟩; unfold wX12_shift; simp only [↓e_mShelf, if_neg c, if_neg d, ↓reduceIte, ne10, rf_0_0, rf_0_1, rf_0_2, rf_0_4, rf_0_5, rf_0_6, rf_0_8, rf_0_9, rf_0_10, rf_0_11, rf_0_12, rf_0_13, rf_1_0, rf_3_0, rf_3_1, rf_3_2, rf_8_0, rf_8_1, rf_8_2, rf_8_3, rf_10_0, rf_10_1, rf_10_2, rf_14_0, rf_14_1, rf_14_2, rf_18_0, rf_18_1, rf_19_0, rf_19_1, rf_19_2, rf_23_0, rf_25_0, rf_27_0, rf_27_1, rf_27_2, rf_27_3, rf_27_4, rf_30_0, rf_30_1, rf_30_2, rf_30_3, rf_30_4, rf_33_0, rf_33_1, rf_33_2, rf_33_3, rf_39_0, rf_39_1, rf_42_0, rf_42_1, rf_42_2, rf_42_3, rf_42_4, rf_42_5, rf_43_0, rf_45_0, rf_47_0, rf_49_0, rf_51_0, rf_53_0, rf_55_2, rf_55_4, rf_55_5, rf_55_6, rf_55_10, rf_55_13, rf_55_14, rf_55_15, rf_55_16, rf_55_17, rf_55_23, rf_55_24, rf_55_25, rf_55_26, rf_55_27, rf_55_28, rf_55_29, rf_55_30, rf_55_31, rf_55_32, rf_55_37, rf_55_38, rf_55_39, rf_55_40, rf_55_47, rf_55_49, rf_55_51, rf_55_52, rf_55_53, rf_55_54, rf_55_55, ln_2, ln_4, ln_5, ln_6, ln_7, ln_9, ln_11, ln_12, ln_13, ln_15, ln_16, ln_17, ln_20, ln_21, ln_22, ln_24, ln_26, ln_28, ln_29, ln_31, ln_32, ln_34, ln_35, ln_36, ln_37, ln_38, ln_40, ln_41, ln_42, ln_44, ln_46, ln_48, ln_50, ln_52, ln_54, ln_56, ln_57, ln_58, ln_59, ln_60, ln_61, ln_62, ln_63, ln_64, ln_65, ln_66, ln_67, ln_68, ln_69, ln_70, ln_71, ln_72, ln_73, ln_74, ln_75, ln_76, ln_77, ln_78, ln_79, ln_80, ln_81, ln_82, ln_83, ln_84, ln_85, ln_86, cs, ct, vs, vt, true_and]
          simp only [z1, z4, z5, y1, y3, y4, ↓reduceIte, ne10, if_neg (nm1 (show q < 2 ^ 31 by omega)), if_neg (nm1 (show j < 2 ^ 31 by omega)), if_neg (show ¬ -nI (q + 2) = -1 from ngne (n := q + 2) (m := 1) (by omega) (by omega) (by omega)), if_neg (show ¬ 0 ≤ -nI (q + 2) from Int32.not_le.mpr (ng0 (n := q + 2) (by omega) (by omega))), if_neg (show ¬ -nI (q + 2) = nI j from fun w => (neg_ne_nI (by omega) (by omega) (by omega)).mp w)]
          exact hR h I
        · have y5 : gI h 83 t = -nI (q' + 2) := y5
          have y7 : gI h 84 t = nI z' := y7
          have f1 : ¬ -nI (q + 2) = -1 := ngne (n := q + 2) (m := 1) (by omega) (by omega) (by omega)
          have f2 : ¬ -nI (q' + 2) = -1 := ngne (n := q' + 2) (m := 1) (by omega) (by omega) (by omega)
          have f3 : ¬ 0 ≤ -nI (q + 2) := Int32.not_le.mpr (ng0 (n := q + 2) (by omega) (by omega))
          simp only [↓e_isEmpty, ↓e_isRow, shV_at m1, shV_at m2, z1, z4, y1, y4, ↓reduceIte, ne10, if_neg (nm1 (show q < 2 ^ 31 by omega)), if_neg (nm1 (show q' < 2 ^ 31 by omega))]
          by_cases e : q = q'
          · subst e
            simp only [↓reduceIte, ↓e_hasPlaces, shV_at m1, shV_at m2, z6, y6]
            rcases pl3 (x := x2) (n := x5) z3 with g | ⟨i, m, rfl, rfl, g1, g2⟩
            · simp only [if_pos g, ↓reduceIte]
              refine ⟨b1, b2, b3, b4, b5, ?_⟩; unfold wX12_shift; simp only [↓e_mShelf, if_neg c, if_neg d, ↓reduceIte, ne10, rf_0_0, rf_0_1, rf_0_2, rf_0_4, rf_0_5, rf_0_6, rf_0_8, rf_0_9, rf_0_10, rf_0_11, rf_0_12, rf_0_13, rf_1_0, rf_3_0, rf_3_1, rf_3_2, rf_8_0, rf_8_1, rf_8_2, rf_8_3, rf_10_0, rf_10_1, rf_10_2, rf_14_0, rf_14_1, rf_14_2, rf_18_0, rf_18_1, rf_19_0, rf_19_1, rf_19_2, rf_23_0, rf_25_0, rf_27_0, rf_27_1, rf_27_2, rf_27_3, rf_27_4, rf_30_0, rf_30_1, rf_30_2, rf_30_3, rf_30_4, rf_33_0, rf_33_1, rf_33_2, rf_33_3, rf_39_0, rf_39_1, rf_42_0, rf_42_1, rf_42_2, rf_42_3, rf_42_4, rf_42_5, rf_43_0, rf_45_0, rf_47_0, rf_49_0, rf_51_0, rf_53_0, rf_55_2, rf_55_4, rf_55_5, rf_55_6, rf_55_10, rf_55_13, rf_55_14, rf_55_15, rf_55_16, rf_55_17, rf_55_23, rf_55_24, rf_55_25, rf_55_26, rf_55_27, rf_55_28, rf_55_29, rf_55_30, rf_55_31, rf_55_32, rf_55_37, rf_55_38, rf_55_39, rf_55_40, rf_55_47, rf_55_49, rf_55_51, rf_55_52, rf_55_53, rf_55_54, rf_55_55, ln_2, ln_4, ln_5, ln_6, ln_7, ln_9, ln_11, ln_12, ln_13, ln_15, ln_16, ln_17, ln_20, ln_21, ln_22, ln_24, ln_26, ln_28, ln_29, ln_31, ln_32, ln_34, ln_35, ln_36, ln_37, ln_38, ln_40, ln_41, ln_42, ln_44, ln_46, ln_48, ln_50, ln_52, ln_54, ln_56, ln_57, ln_58, ln_59, ln_60, ln_61, ln_62, ln_63, ln_64, ln_65, ln_66, ln_67, ln_68, ln_69, ln_70, ln_71, ln_72, ln_73, ln_74, ln_75, ln_76, ln_77, ln_78, ln_79, ln_80, ln_81, ln_82, ln_83, ln_84, ln_85, ln_86, cs, ct, vs, vt, true_and]
              simp only [z5, y5, z7, y7, if_neg f1, if_neg f2, if_neg f3, ↓reduceIte]
              by_cases k1 : x5 < 0
              · simp only [if_pos k1, ↓reduceIte]; exact hR h I
              · by_cases k2 : x2 < 0
                · simp only [if_neg k1, if_pos k2, ↓reduceIte]; exact hR h I
                · by_cases k3 : x4 < 0
                  · simp only [if_neg k1, if_neg k2, if_pos k3, ↓reduceIte]; exact hR h I
                  · have k4 : nI z - x5 < x2 := by
                      rw [lgsub z3 k1]
                      rw [ltI0] at k1 k2
                      rcases g with g | g | g
                      · exact absurd g k2
                      · exact absurd g k1
                      · exact g
                    simp only [if_neg k1, if_neg k2, if_neg k3, if_pos k4, ↓reduceIte]; exact hR h I
            · simp only [if_neg g2, ne10, ↓reduceIte]
              have u1 : ¬ nI m < 0 := nI_pos (by omega)
              have u2 : ¬ nI i < 0 := nI_pos (by omega)
              have u3 : ¬ nI z - nI m < nI i := by
                rw [lgsub z3 u1]
                omega
              by_cases g : x4.toInt < 0 ∨ (nI m).toInt < 0 ∨ (nI z').toInt - (nI m).toInt < x4.toInt
              · simp only [if_pos g, ↓reduceIte]
                refine ⟨b1, b2, b3, b4, b5, ?_⟩; unfold wX12_shift; simp only [↓e_mShelf, if_neg c, if_neg d, ↓reduceIte, ne10, rf_0_0, rf_0_1, rf_0_2, rf_0_4, rf_0_5, rf_0_6, rf_0_8, rf_0_9, rf_0_10, rf_0_11, rf_0_12, rf_0_13, rf_1_0, rf_3_0, rf_3_1, rf_3_2, rf_8_0, rf_8_1, rf_8_2, rf_8_3, rf_10_0, rf_10_1, rf_10_2, rf_14_0, rf_14_1, rf_14_2, rf_18_0, rf_18_1, rf_19_0, rf_19_1, rf_19_2, rf_23_0, rf_25_0, rf_27_0, rf_27_1, rf_27_2, rf_27_3, rf_27_4, rf_30_0, rf_30_1, rf_30_2, rf_30_3, rf_30_4, rf_33_0, rf_33_1, rf_33_2, rf_33_3, rf_39_0, rf_39_1, rf_42_0, rf_42_1, rf_42_2, rf_42_3, rf_42_4, rf_42_5, rf_43_0, rf_45_0, rf_47_0, rf_49_0, rf_51_0, rf_53_0, rf_55_2, rf_55_4, rf_55_5, rf_55_6, rf_55_10, rf_55_13, rf_55_14, rf_55_15, rf_55_16, rf_55_17, rf_55_23, rf_55_24, rf_55_25, rf_55_26, rf_55_27, rf_55_28, rf_55_29, rf_55_30, rf_55_31, rf_55_32, rf_55_37, rf_55_38, rf_55_39, rf_55_40, rf_55_47, rf_55_49, rf_55_51, rf_55_52, rf_55_53, rf_55_54, rf_55_55, ln_2, ln_4, ln_5, ln_6, ln_7, ln_9, ln_11, ln_12, ln_13, ln_15, ln_16, ln_17, ln_20, ln_21, ln_22, ln_24, ln_26, ln_28, ln_29, ln_31, ln_32, ln_34, ln_35, ln_36, ln_37, ln_38, ln_40, ln_41, ln_42, ln_44, ln_46, ln_48, ln_50, ln_52, ln_54, ln_56, ln_57, ln_58, ln_59, ln_60, ln_61, ln_62, ln_63, ln_64, ln_65, ln_66, ln_67, ln_68, ln_69, ln_70, ln_71, ln_72, ln_73, ln_74, ln_75, ln_76, ln_77, ln_78, ln_79, ln_80, ln_81, ln_82, ln_83, ln_84, ln_85, ln_86, cs, ct, vs, vt, true_and]
                simp only [z5, y5, z7, y7, if_neg f1, if_neg f2, if_neg f3, ↓reduceIte, if_neg u1, if_neg u2, if_neg u3]
                by_cases k3 : x4 < 0
                · simp only [if_pos k3, ↓reduceIte]; exact hR h I
                · have k4 : ¬ x4 ≤ nI z' - nI m := by
                    rw [Int32.not_le, lgsub y3 u1]
                    rw [ltI0] at k3 u1
                    rcases g with g | g | g
                    · exact absurd g k3
                    · exact absurd g u1
                    · exact g
                  simp only [if_neg k3, if_neg k4, ↓reduceIte]; exact hR h I
              · rcases pl3 (x := x4) (n := nI m) y3 with g0 | ⟨j, m', rfl, hm', g3, g4⟩
                · exact absurd g0 g
                · have : m = m' := by
                    have a1 : (nI m).toInt = m := nI_toInt (by omega)
                    have a2 : (nI m').toInt = m' := nI_toInt (by omega)
                    rw [hm', a2] at a1
                    omega
                  subst this
                  simp only [if_neg g, ne10, ↓reduceIte]
                  simp (disch := omega) only [sh_id2, forall_eq, nI_clamp]
                  refine ⟨⟨u2, nI_pos (by omega), u1, ?_, ?_⟩, ?_⟩
                  · rw [sh_id3 m1, nI_clamp (by omega), nI_clamp (by omega)]; omega
                  · rw [sh_id3 m2, nI_clamp (by omega), nI_clamp (by omega)]; omega
                  · refine ⟨b1, b2, b3, b4, b5, ?_⟩; unfold wX12_shift; simp only [↓e_mShelf, if_neg c, if_neg d, ↓reduceIte, ne10, rf_0_0, rf_0_1, rf_0_2, rf_0_4, rf_0_5, rf_0_6, rf_0_8, rf_0_9, rf_0_10, rf_0_11, rf_0_12, rf_0_13, rf_1_0, rf_3_0, rf_3_1, rf_3_2, rf_8_0, rf_8_1, rf_8_2, rf_8_3, rf_10_0, rf_10_1, rf_10_2, rf_14_0, rf_14_1, rf_14_2, rf_18_0, rf_18_1, rf_19_0, rf_19_1, rf_19_2, rf_23_0, rf_25_0, rf_27_0, rf_27_1, rf_27_2, rf_27_3, rf_27_4, rf_30_0, rf_30_1, rf_30_2, rf_30_3, rf_30_4, rf_33_0, rf_33_1, rf_33_2, rf_33_3, rf_39_0, rf_39_1, rf_42_0, rf_42_1, rf_42_2, rf_42_3, rf_42_4, rf_42_5, rf_43_0, rf_45_0, rf_47_0, rf_49_0, rf_51_0, rf_53_0, rf_55_2, rf_55_4, rf_55_5, rf_55_6, rf_55_10, rf_55_13, rf_55_14, rf_55_15, rf_55_16, rf_55_17, rf_55_23, rf_55_24, rf_55_25, rf_55_26, rf_55_27, rf_55_28, rf_55_29, rf_55_30, rf_55_31, rf_55_32, rf_55_37, rf_55_38, rf_55_39, rf_55_40, rf_55_47, rf_55_49, rf_55_51, rf_55_52, rf_55_53, rf_55_54, rf_55_55, ln_2, ln_4, ln_5, ln_6, ln_7, ln_9, ln_11, ln_12, ln_13, ln_15, ln_16, ln_17, ln_20, ln_21, ln_22, ln_24, ln_26, ln_28, ln_29, ln_31, ln_32, ln_34, ln_35, ln_36, ln_37, ln_38, ln_40, ln_41, ln_42, ln_44, ln_46, ln_48, ln_50, ln_52, ln_54, ln_56, ln_57, ln_58, ln_59, ln_60, ln_61, ln_62, ln_63, ln_64, ln_65, ln_66, ln_67, ln_68, ln_69, ln_70, ln_71, ln_72, ln_73, ln_74, ln_75, ln_76, ln_77, ln_78, ln_79, ln_80, ln_81, ln_82, ln_83, ln_84, ln_85, ln_86, cs, ct, vs, vt, true_and]
                    have u4 : ¬ nI j < 0 := nI_pos (by omega)
                    have u5 : nI j ≤ nI z' - nI m := by
                      apply nl
                      rw [lgsub y3 u1]
                      omega
                    simp only [gI_cpL, z5, y5, z7, y7, if_neg f1, if_neg f2, if_neg f3, ↓reduceIte, if_neg u1, if_neg u2, if_neg u3, if_neg u4, if_pos u5]
                    apply m_sh1 m1 m2 (by omega) (by omega)
                    intro h2 f1 f2 f3
                    refine fin rfl (hR h2 (I.js (fun a k _ _ _ _ => ?_) ?_))
                    · rw [f1, gI_cpL]
                    · refine ⟨n, hn, e1, fun r hr => ?_⟩
                      have v : ∀ l, shV h2 l r = shV h l r := by
                        intro l
                        unfold shV
                        rw [if_pos hr, if_pos hr, f1, gI_cpL]
                      have v1 : rI h2 83 r = rI h 83 r := by
                        show gI h2 83 r = gI h 83 r
                        rw [f1, gI_cpL]
                      have v2 : rI h2 84 r = rI h 84 r := by
                        show gI h2 84 r = gI h 84 r
                        rw [f1, gI_cpL]
                      have ve : ∀ k, shE h2 r k = if r = t ∧ j ≤ k ∧ k < j + m then shE h s (i + (k - j)) else shE h r k := by
                        intro k
                        unfold shE
                        rw [if_pos hr, if_pos m1, if_pos hr, f2 _ _ (by omega) (by omega), gL_cpL]
                        by_cases q1 : r = t ∧ j ≤ k ∧ k < j + m
                        · rw [if_pos q1, if_pos (by omega)]
                        · rw [if_neg q1, if_neg (by omega)]
                      have vm : ∀ k, k < 60 → gL h2 85 (60 * r + k) = if r = t ∧ j ≤ k ∧ k < j + m then gL h 85 (60 * s + (i + (k - j))) else gL h 85 (60 * r + k) := by
                        intro k hk
                        rw [f3]
                        by_cases q1 : r = t ∧ j ≤ k ∧ k < j + m
                        · rw [if_pos q1, if_pos (by omega), gL_cpL, if_neg (by omega)]
                          congr 1; omega
                        · rw [if_neg q1, if_neg (by omega), gL_cpL, if_neg (by omega)]
                      rw [v, v, v, v1, v2]
                      rcases hs r hr with x | x | ⟨x1, q', zr, x2, x3, x4, x5, x6, x7, x8, x9⟩
                      · exact Or.inl x
                      · exact Or.inr (Or.inl x)
                      · refine Or.inr (Or.inr ⟨x1, q', zr, x2, x3, x4, x5, x6, x7, fun k hk => ?_, fun hq k hk => ?_⟩)
                        · show gL h2 85 (60 * r + k) = _
                          rw [ve, vm k (by omega)]
                          by_cases q1 : r = t ∧ j ≤ k ∧ k < j + m
                          · rw [if_pos q1, if_pos q1]
                            exact z8 _ (by omega)
                          · rw [if_neg q1, if_neg q1]
                            exact x8 k hk
                        · rw [ve]
                          by_cases q1 : r = t ∧ j ≤ k ∧ k < j + m
                          · rw [if_pos q1]
                            refine z9 ?_ _ (by omega)
                            obtain ⟨q1, _⟩ := q1
                            subst q1
                            have : q = q' := (nI_eq (by omega) (by omega)).mp (y4.symm.trans x4)
                            omega
                          · rw [if_neg q1]
                            exact x9 hq k hk
          · rw [if_neg (fun w => e ((nI_eq (by omega) (by omega)).mp w))]
            refine ⟨b1, b2, b3, b4, b5, ?_⟩; unfold wX12_shift; simp only [↓e_mShelf, if_neg c, if_neg d, ↓reduceIte, ne10, rf_0_0, rf_0_1, rf_0_2, rf_0_4, rf_0_5, rf_0_6, rf_0_8, rf_0_9, rf_0_10, rf_0_11, rf_0_12, rf_0_13, rf_1_0, rf_3_0, rf_3_1, rf_3_2, rf_8_0, rf_8_1, rf_8_2, rf_8_3, rf_10_0, rf_10_1, rf_10_2, rf_14_0, rf_14_1, rf_14_2, rf_18_0, rf_18_1, rf_19_0, rf_19_1, rf_19_2, rf_23_0, rf_25_0, rf_27_0, rf_27_1, rf_27_2, rf_27_3, rf_27_4, rf_30_0, rf_30_1, rf_30_2, rf_30_3, rf_30_4, rf_33_0, rf_33_1, rf_33_2, rf_33_3, rf_39_0, rf_39_1, rf_42_0, rf_42_1, rf_42_2, rf_42_3, rf_42_4, rf_42_5, rf_43_0, rf_45_0, rf_47_0, rf_49_0, rf_51_0, rf_53_0, rf_55_2, rf_55_4, rf_55_5, rf_55_6, rf_55_10, rf_55_13, rf_55_14, rf_55_15, rf_55_16, rf_55_17, rf_55_23, rf_55_24, rf_55_25, rf_55_26, rf_55_27, rf_55_28, rf_55_29, rf_55_30, rf_55_31, rf_55_32, rf_55_37, rf_55_38, rf_55_39, rf_55_40, rf_55_47, rf_55_49, rf_55_51, rf_55_52, rf_55_53, rf_55_54, rf_55_55, ln_2, ln_4, ln_5, ln_6, ln_7, ln_9, ln_11, ln_12, ln_13, ln_15, ln_16, ln_17, ln_20, ln_21, ln_22, ln_24, ln_26, ln_28, ln_29, ln_31, ln_32, ln_34, ln_35, ln_36, ln_37, ln_38, ln_40, ln_41, ln_42, ln_44, ln_46, ln_48, ln_50, ln_52, ln_54, ln_56, ln_57, ln_58, ln_59, ln_60, ln_61, ln_62, ln_63, ln_64, ln_65, ln_66, ln_67, ln_68, ln_69, ln_70, ln_71, ln_72, ln_73, ln_74, ln_75, ln_76, ln_77, ln_78, ln_79, ln_80, ln_81, ln_82, ln_83, ln_84, ln_85, ln_86, cs, ct, vs, vt, true_and]
            simp only [z5, y5, if_neg f1, if_neg f2, if_neg f3, if_neg (ngne (n := q + 2) (m := q' + 2) (by omega) (by omega) (by omega)), ↓reduceIte]
            exact hR h I
