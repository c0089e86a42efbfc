theorem in_ok {j n : Nat} (h : j < n) (hn : n < 2 ^ 31) : ¬ (nI j < 0 ∨ ¬ nI j < nI n) := fun q => q.elim (fun q => nI_pos (by omega) q) (fun q => q (nI_lt h hn))
theorem c_bec0 {h : Hp} {i p : Nat} (e : gI h 3 3 = nI p) (hi : i < p) (hp : p ≤ 12) (v : Int32) {Q : Int32 → Hp → Prop} (hQ : Q (gI h 6 i) (sI h 6 i v)) : wX11_become 0 (nI i) 0 v h Q := by
  unfold wX11_become
  rw [if_neg (by decide)]
  simp only [jX11_become_67, wX11_replace, e_in, e_isTime, e_mTime, e_isShelf, e_mShelf, e_isKind, e_isNumber, e_gHas, e_pHas, e_bHas, e_isRow, e_isBook, e_isEmpty, rf_0_0, rf_0_1, rf_0_2, rf_0_4, rf_0_5, rf_0_6, rf_0_8, rf_0_9, rf_0_10, rf_0_11, rf_0_12, rf_0_13, rf_1_0, rf_3_0, rf_3_1, rf_3_2, rf_8_0, rf_8_1, rf_8_2, rf_8_3, rf_10_0, rf_10_1, rf_10_2, rf_14_0, rf_14_1, rf_14_2, rf_18_0, rf_18_1, rf_19_0, rf_19_1, rf_19_2, rf_23_0, rf_25_0, rf_27_0, rf_27_1, rf_27_2, rf_27_3, rf_27_4, rf_30_0, rf_30_1, rf_30_2, rf_30_3, rf_30_4, rf_33_0, rf_33_1, rf_33_2, rf_33_3, rf_39_0, rf_39_1, rf_42_0, rf_42_1, rf_42_2, rf_42_3, rf_42_4, rf_42_5, rf_43_0, rf_45_0, rf_47_0, rf_49_0, rf_51_0, rf_53_0, rf_55_2, rf_55_4, rf_55_5, rf_55_6, rf_55_10, rf_55_13, rf_55_14, rf_55_15, rf_55_16, rf_55_17, rf_55_23, rf_55_24, rf_55_25, rf_55_26, rf_55_27, rf_55_28, rf_55_29, rf_55_30, rf_55_31, rf_55_32, rf_55_37, rf_55_38, rf_55_39, rf_55_40, rf_55_47, rf_55_49, rf_55_51, rf_55_52, rf_55_53, rf_55_54, rf_55_55, ln_2, ln_4, ln_5, ln_6, ln_7, ln_9, ln_11, ln_12, ln_13, ln_15, ln_16, ln_17, ln_20, ln_21, ln_22, ln_24, ln_26, ln_28, ln_29, ln_31, ln_32, ln_34, ln_35, ln_36, ln_37, ln_38, ln_40, ln_41, ln_42, ln_44, ln_46, ln_48, ln_50, ln_52, ln_54, ln_56, ln_57, ln_58, ln_59, ln_60, ln_61, ln_62, ln_63, ln_64, ln_65, ln_66, ln_67, ln_68, ln_69, ln_70, ln_71, ln_72, ln_73, ln_74, ln_75, ln_76, ln_77, ln_78, ln_79, ln_80, ln_81, ln_82, ln_83, ln_84, ln_85, ln_86, e, if_neg (in_ok hi (by omega)), ne10, ↓reduceIte, forall_eq]
  simp (disch := omega) only [nI_clamp, vp_nI]
  exact ⟨by omega, by omega, hQ⟩
theorem c_bec1 {h : Hp} {i p : Nat} (e : gI h 3 3 = nI p) (hi : i < p) (hp : p ≤ 12) (v : Int32) {Q : Int32 → Hp → Prop} (hQ : Q (gI h 5 i) (sI h 5 i v)) : wX11_become 0 (nI i) 1 v h Q := by
  unfold wX11_become
  rw [if_neg (by decide)]
  simp only [jX11_become_67, wX11_replace, e_in, e_isTime, e_mTime, e_isShelf, e_mShelf, e_isKind, e_isNumber, e_gHas, e_pHas, e_bHas, e_isRow, e_isBook, e_isEmpty, rf_0_0, rf_0_1, rf_0_2, rf_0_4, rf_0_5, rf_0_6, rf_0_8, rf_0_9, rf_0_10, rf_0_11, rf_0_12, rf_0_13, rf_1_0, rf_3_0, rf_3_1, rf_3_2, rf_8_0, rf_8_1, rf_8_2, rf_8_3, rf_10_0, rf_10_1, rf_10_2, rf_14_0, rf_14_1, rf_14_2, rf_18_0, rf_18_1, rf_19_0, rf_19_1, rf_19_2, rf_23_0, rf_25_0, rf_27_0, rf_27_1, rf_27_2, rf_27_3, rf_27_4, rf_30_0, rf_30_1, rf_30_2, rf_30_3, rf_30_4, rf_33_0, rf_33_1, rf_33_2, rf_33_3, rf_39_0, rf_39_1, rf_42_0, rf_42_1, rf_42_2, rf_42_3, rf_42_4, rf_42_5, rf_43_0, rf_45_0, rf_47_0, rf_49_0, rf_51_0, rf_53_0, rf_55_2, rf_55_4, rf_55_5, rf_55_6, rf_55_10, rf_55_13, rf_55_14, rf_55_15, rf_55_16, rf_55_17, rf_55_23, rf_55_24, rf_55_25, rf_55_26, rf_55_27, rf_55_28, rf_55_29, rf_55_30, rf_55_31, rf_55_32, rf_55_37, rf_55_38, rf_55_39, rf_55_40, rf_55_47, rf_55_49, rf_55_51, rf_55_52, rf_55_53, rf_55_54, rf_55_55, ln_2, ln_4, ln_5, ln_6, ln_7, ln_9, ln_11, ln_12, ln_13, ln_15, ln_16, ln_17, ln_20, ln_21, ln_22, ln_24, ln_26, ln_28, ln_29, ln_31, ln_32, ln_34, ln_35, ln_36, ln_37, ln_38, ln_40, ln_41, ln_42, ln_44, ln_46, ln_48, ln_50, ln_52, ln_54, ln_56, ln_57, ln_58, ln_59, ln_60, ln_61, ln_62, ln_63, ln_64, ln_65, ln_66, ln_67, ln_68, ln_69, ln_70, ln_71, ln_72, ln_73, ln_74, ln_75, ln_76, ln_77, ln_78, ln_79, ln_80, ln_81, ln_82, ln_83, ln_84, ln_85, ln_86, e, if_neg (in_ok hi (by omega)), ne10, ↓reduceIte, forall_eq]
  simp (disch := omega) only [nI_clamp, vp_nI]
  exact ⟨by omega, by omega, hQ⟩
theorem c_bec2 {h : Hp} {i g : Nat} (e : gI h 1 1 = nI g) (hi : i < g) (hg : g ≤ 3) (v : Int32) {Q : Int32 → Hp → Prop} (hQ : Q (gI h 2 i) (sI h 2 i v)) : wX11_become 0 (nI i) 2 v h Q := by
  unfold wX11_become
  rw [if_pos rfl]
  simp only [wX11_replace, e_in, e_isTime, e_mTime, e_isShelf, e_mShelf, e_isKind, e_isNumber, e_gHas, e_pHas, e_bHas, e_isRow, e_isBook, e_isEmpty, rf_0_0, rf_0_1, rf_0_2, rf_0_4, rf_0_5, rf_0_6, rf_0_8, rf_0_9, rf_0_10, rf_0_11, rf_0_12, rf_0_13, rf_1_0, rf_3_0, rf_3_1, rf_3_2, rf_8_0, rf_8_1, rf_8_2, rf_8_3, rf_10_0, rf_10_1, rf_10_2, rf_14_0, rf_14_1, rf_14_2, rf_18_0, rf_18_1, rf_19_0, rf_19_1, rf_19_2, rf_23_0, rf_25_0, rf_27_0, rf_27_1, rf_27_2, rf_27_3, rf_27_4, rf_30_0, rf_30_1, rf_30_2, rf_30_3, rf_30_4, rf_33_0, rf_33_1, rf_33_2, rf_33_3, rf_39_0, rf_39_1, rf_42_0, rf_42_1, rf_42_2, rf_42_3, rf_42_4, rf_42_5, rf_43_0, rf_45_0, rf_47_0, rf_49_0, rf_51_0, rf_53_0, rf_55_2, rf_55_4, rf_55_5, rf_55_6, rf_55_10, rf_55_13, rf_55_14, rf_55_15, rf_55_16, rf_55_17, rf_55_23, rf_55_24, rf_55_25, rf_55_26, rf_55_27, rf_55_28, rf_55_29, rf_55_30, rf_55_31, rf_55_32, rf_55_37, rf_55_38, rf_55_39, rf_55_40, rf_55_47, rf_55_49, rf_55_51, rf_55_52, rf_55_53, rf_55_54, rf_55_55, ln_2, ln_4, ln_5, ln_6, ln_7, ln_9, ln_11, ln_12, ln_13, ln_15, ln_16, ln_17, ln_20, ln_21, ln_22, ln_24, ln_26, ln_28, ln_29, ln_31, ln_32, ln_34, ln_35, ln_36, ln_37, ln_38, ln_40, ln_41, ln_42, ln_44, ln_46, ln_48, ln_50, ln_52, ln_54, ln_56, ln_57, ln_58, ln_59, ln_60, ln_61, ln_62, ln_63, ln_64, ln_65, ln_66, ln_67, ln_68, ln_69, ln_70, ln_71, ln_72, ln_73, ln_74, ln_75, ln_76, ln_77, ln_78, ln_79, ln_80, ln_81, ln_82, ln_83, ln_84, ln_85, ln_86, e, if_neg (in_ok hi (by omega)), ne10, ↓reduceIte, forall_eq]
  simp (disch := omega) only [nI_clamp, vp_nI]
  exact ⟨by omega, by omega, hQ⟩
theorem m_lay0 {h : Hp} {i : Nat} (hi : i < 12) (v : Int32) {Q : Hp → Prop} (hQ : Q (sI h 59 i v)) : wX12_lays 55 0 (nI i) v h Q := by
  unfold wX12_lays
  simp (disch := omega) only [rf_0_0, rf_0_1, rf_0_2, rf_0_4, rf_0_5, rf_0_6, rf_0_8, rf_0_9, rf_0_10, rf_0_11, rf_0_12, rf_0_13, rf_1_0, rf_3_0, rf_3_1, rf_3_2, rf_8_0, rf_8_1, rf_8_2, rf_8_3, rf_10_0, rf_10_1, rf_10_2, rf_14_0, rf_14_1, rf_14_2, rf_18_0, rf_18_1, rf_19_0, rf_19_1, rf_19_2, rf_23_0, rf_25_0, rf_27_0, rf_27_1, rf_27_2, rf_27_3, rf_27_4, rf_30_0, rf_30_1, rf_30_2, rf_30_3, rf_30_4, rf_33_0, rf_33_1, rf_33_2, rf_33_3, rf_39_0, rf_39_1, rf_42_0, rf_42_1, rf_42_2, rf_42_3, rf_42_4, rf_42_5, rf_43_0, rf_45_0, rf_47_0, rf_49_0, rf_51_0, rf_53_0, rf_55_2, rf_55_4, rf_55_5, rf_55_6, rf_55_10, rf_55_13, rf_55_14, rf_55_15, rf_55_16, rf_55_17, rf_55_23, rf_55_24, rf_55_25, rf_55_26, rf_55_27, rf_55_28, rf_55_29, rf_55_30, rf_55_31, rf_55_32, rf_55_37, rf_55_38, rf_55_39, rf_55_40, rf_55_47, rf_55_49, rf_55_51, rf_55_52, rf_55_53, rf_55_54, rf_55_55, ln_2, ln_4, ln_5, ln_6, ln_7, ln_9, ln_11, ln_12, ln_13, ln_15, ln_16, ln_17, ln_20, ln_21, ln_22, ln_24, ln_26, ln_28, ln_29, ln_31, ln_32, ln_34, ln_35, ln_36, ln_37, ln_38, ln_40, ln_41, ln_42, ln_44, ln_46, ln_48, ln_50, ln_52, ln_54, ln_56, ln_57, ln_58, ln_59, ln_60, ln_61, ln_62, ln_63, ln_64, ln_65, ln_66, ln_67, ln_68, ln_69, ln_70, ln_71, ln_72, ln_73, ln_74, ln_75, ln_76, ln_77, ln_78, ln_79, ln_80, ln_81, ln_82, ln_83, ln_84, ln_85, ln_86, forall_eq, ↓reduceIte, nI_clamp, vp_nI]
  exact ⟨hi, hQ⟩
theorem m_lay1 {h : Hp} {i : Nat} (hi : i < 12) (v : Int32) {Q : Hp → Prop} (hQ : Q (sI h 58 i v)) : wX12_lays 55 1 (nI i) v h Q := by
  unfold wX12_lays
  simp (disch := omega) only [rf_0_0, rf_0_1, rf_0_2, rf_0_4, rf_0_5, rf_0_6, rf_0_8, rf_0_9, rf_0_10, rf_0_11, rf_0_12, rf_0_13, rf_1_0, rf_3_0, rf_3_1, rf_3_2, rf_8_0, rf_8_1, rf_8_2, rf_8_3, rf_10_0, rf_10_1, rf_10_2, rf_14_0, rf_14_1, rf_14_2, rf_18_0, rf_18_1, rf_19_0, rf_19_1, rf_19_2, rf_23_0, rf_25_0, rf_27_0, rf_27_1, rf_27_2, rf_27_3, rf_27_4, rf_30_0, rf_30_1, rf_30_2, rf_30_3, rf_30_4, rf_33_0, rf_33_1, rf_33_2, rf_33_3, rf_39_0, rf_39_1, rf_42_0, rf_42_1, rf_42_2, rf_42_3, rf_42_4, rf_42_5, rf_43_0, rf_45_0, rf_47_0, rf_49_0, rf_51_0, rf_53_0, rf_55_2, rf_55_4, rf_55_5, rf_55_6, rf_55_10, rf_55_13, rf_55_14, rf_55_15, rf_55_16, rf_55_17, rf_55_23, rf_55_24, rf_55_25, rf_55_26, rf_55_27, rf_55_28, rf_55_29, rf_55_30, rf_55_31, rf_55_32, rf_55_37, rf_55_38, rf_55_39, rf_55_40, rf_55_47, rf_55_49, rf_55_51, rf_55_52, rf_55_53, rf_55_54, rf_55_55, ln_2, ln_4, ln_5, ln_6, ln_7, ln_9, ln_11, ln_12, ln_13, ln_15, ln_16, ln_17, ln_20, ln_21, ln_22, ln_24, ln_26, ln_28, ln_29, ln_31, ln_32, ln_34, ln_35, ln_36, ln_37, ln_38, ln_40, ln_41, ln_42, ln_44, ln_46, ln_48, ln_50, ln_52, ln_54, ln_56, ln_57, ln_58, ln_59, ln_60, ln_61, ln_62, ln_63, ln_64, ln_65, ln_66, ln_67, ln_68, ln_69, ln_70, ln_71, ln_72, ln_73, ln_74, ln_75, ln_76, ln_77, ln_78, ln_79, ln_80, ln_81, ln_82, ln_83, ln_84, ln_85, ln_86, forall_eq, ↓reduceIte, nI_clamp, vp_nI, ne10]
  exact ⟨hi, hQ⟩
theorem m_lay2 {h : Hp} {i : Nat} (hi : i < 3) (v : Int32) {Q : Hp → Prop} (hQ : Q (sI h 56 i v)) : wX12_lays 55 2 (nI i) v h Q := by
  unfold wX12_lays
  rw [if_neg (by decide), if_neg (by decide)]
  simp (disch := omega) only [rf_0_0, rf_0_1, rf_0_2, rf_0_4, rf_0_5, rf_0_6, rf_0_8, rf_0_9, rf_0_10, rf_0_11, rf_0_12, rf_0_13, rf_1_0, rf_3_0, rf_3_1, rf_3_2, rf_8_0, rf_8_1, rf_8_2, rf_8_3, rf_10_0, rf_10_1, rf_10_2, rf_14_0, rf_14_1, rf_14_2, rf_18_0, rf_18_1, rf_19_0, rf_19_1, rf_19_2, rf_23_0, rf_25_0, rf_27_0, rf_27_1, rf_27_2, rf_27_3, rf_27_4, rf_30_0, rf_30_1, rf_30_2, rf_30_3, rf_30_4, rf_33_0, rf_33_1, rf_33_2, rf_33_3, rf_39_0, rf_39_1, rf_42_0, rf_42_1, rf_42_2, rf_42_3, rf_42_4, rf_42_5, rf_43_0, rf_45_0, rf_47_0, rf_49_0, rf_51_0, rf_53_0, rf_55_2, rf_55_4, rf_55_5, rf_55_6, rf_55_10, rf_55_13, rf_55_14, rf_55_15, rf_55_16, rf_55_17, rf_55_23, rf_55_24, rf_55_25, rf_55_26, rf_55_27, rf_55_28, rf_55_29, rf_55_30, rf_55_31, rf_55_32, rf_55_37, rf_55_38, rf_55_39, rf_55_40, rf_55_47, rf_55_49, rf_55_51, rf_55_52, rf_55_53, rf_55_54, rf_55_55, ln_2, ln_4, ln_5, ln_6, ln_7, ln_9, ln_11, ln_12, ln_13, ln_15, ln_16, ln_17, ln_20, ln_21, ln_22, ln_24, ln_26, ln_28, ln_29, ln_31, ln_32, ln_34, ln_35, ln_36, ln_37, ln_38, ln_40, ln_41, ln_42, ln_44, ln_46, ln_48, ln_50, ln_52, ln_54, ln_56, ln_57, ln_58, ln_59, ln_60, ln_61, ln_62, ln_63, ln_64, ln_65, ln_66, ln_67, ln_68, ln_69, ln_70, ln_71, ln_72, ln_73, ln_74, ln_75, ln_76, ln_77, ln_78, ln_79, ln_80, ln_81, ln_82, ln_83, ln_84, ln_85, ln_86, forall_eq, nI_clamp, vp_nI]
  exact ⟨hi, hQ⟩
theorem JG_set {g i c : Nat} {gc mc : Int32} {gr mr : Nat → Int32} (h : JG gc gr mc mr) (e : gc = nI g) (hg : g ≤ 3) (hi : i < g) (h1 : 1 ≤ c) (h2 : c ≤ 6) : JG gc (upd gr i (nI c)) mc (upd mr i (nI c)) := by
  obtain ⟨g', q1, q2, q3, q4⟩ := h
  have : g = g' := (nI_eq (by omega) (by omega)).mp (e.symm.trans q2)
  subst this
  refine ⟨g, q1, q2, q3, fun k hk => ?_⟩
  by_cases hki : k = i
  · subst hki
    simp [upd]
    exact ⟨c, rfl, h1, h2⟩
  · simp only [upd, if_neg hki]
    exact q4 k hk
theorem JP_setc {p i v : Nat} {pc mpc : Int32} {lr rr cr mlr mrr mcr : Nat → Int32} (h : JP pc lr rr cr mpc mlr mrr mcr) (h1 : 1 ≤ v) (h2 : v ≤ 9) : JP pc lr rr (upd cr i (nI v)) mpc mlr mrr (upd mcr i (nI v)) := by
  obtain ⟨p', q1, q2, q3, q4⟩ := h
  refine ⟨p', q1, q2, q3, fun k hk => ?_⟩
  by_cases hki : k = i
  · subst hki
    obtain ⟨z1, z2, z3, a, b, c, z4, z5, z6, z7, z8, z9⟩ := q4 k hk
    simp only [upd, if_pos]
    exact ⟨z1, z2, trivial, a, b, v, z4, z5, rfl, z7, z8, h1, h2⟩
  · simp only [upd, if_neg hki]
    exact q4 k hk
theorem JP_setr {p i a v : Nat} {pc mpc : Int32} {lr rr cr mlr mrr mcr : Nat → Int32} (h : JP pc lr rr cr mpc mlr mrr mcr) (e : lr i = nI a) (h0 : a < v) (h2 : v ≤ 60) : JP pc lr (upd rr i (nI v)) cr mpc mlr (upd mrr i (nI v)) mcr := by
  obtain ⟨p', q1, q2, q3, q4⟩ := h
  refine ⟨p', q1, q2, q3, fun k hk => ?_⟩
  by_cases hki : k = i
  · subst hki
    obtain ⟨z1, z2, z3, a', b, c, z4, z5, z6, z7, z8, z9⟩ := q4 k hk
    simp only [upd, if_pos]
    have : a = a' := (nI_eq (by omega) (by omega)).mp (e.symm.trans z4)
    subst this
    exact ⟨z1, trivial, z3, a, v, c, z4, rfl, z6, h0, h2, z9⟩
  · simp only [upd, if_neg hki]
    exact q4 k hk
theorem JC_un {gc pc sz dn mdn mun : Int32} {lr nu wh we be mof mat mbf mbh : Nat → Int32} {d s : Nat} (h : JC gc pc lr sz dn nu wh we be mdn mun mof mat mbf mbh) (e : dn = nI (d + 1)) (es : sz = nI s) (hd : d + 1 ≤ s) (hs : s ≤ 40) : JC gc pc lr sz (nI d) nu wh we be (nI d) (nI (s - d)) mof mat mbf mbh := by
  obtain ⟨g, p, d', s', q1, q2, q3, q4, q5, q6, q7, q8, q9, q10, q11⟩ := h
  have : s = s' := (nI_eq (by omega) (by omega)).mp (es.symm.trans q7)
  subst this
  exact ⟨g, p, d, s, q1, q2, q3, q4, by omega, q6, q7, rfl, rfl, rfl, q11⟩
theorem JC_to {gc pc sz dn mdn mun : Int32} {lr nu wh we be mof mat mbf mbh : Nat → Int32} {d s : Nat} (h : JC gc pc lr sz dn nu wh we be mdn mun mof mat mbf mbh) (es : sz = nI s) (hd : d ≤ s) (hs : s ≤ 40) : JC gc pc lr sz (nI d) nu wh we be (nI d) (nI (s - d)) mof mat mbf mbh := by
  obtain ⟨g, p, d', s', q1, q2, q3, q4, q5, q6, q7, q8, q9, q10, q11⟩ := h
  have : s = s' := (nI_eq (by omega) (by omega)).mp (es.symm.trans q7)
  subst this
  exact ⟨g, p, d, s, q1, q2, q3, q4, by omega, q6, q7, rfl, rfl, rfl, q11⟩
-- undo
set_option maxRecDepth 20000 in
set_option maxHeartbeats 1000000 in
theorem ok_undo {h : Hp} (I : Inv h) {R : Hp → Prop} {Q0 : Prop} (hR : ∀ h', Inv h' → R h') : wX11_undo 0  h (fun v h1 => wX12_undo 55  h1 (fun v' h2 => if v = v' then R h2 else Q0)) := by
  obtain ⟨iG, iP, iD, iT, iI, iC, iB, iS, iL0, iL1⟩ := id I
  obtain ⟨g, p, d, s, q1, q2, q3, q4, q5, q6, q7, q8, q9, q10, q11⟩ := id iC
  simp only [wX11_undo, wX1_lastDone, wX1_stepBack, wX12_undo, rf_0_0, rf_0_1, rf_0_2, rf_0_4, rf_0_5, rf_0_6, rf_0_8, rf_0_9, rf_0_10, rf_0_11, rf_0_12, rf_0_13, rf_1_0, rf_3_0, rf_3_1, rf_3_2, rf_8_0, rf_8_1, rf_8_2, rf_8_3, rf_10_0, rf_10_1, rf_10_2, rf_14_0, rf_14_1, rf_14_2, rf_18_0, rf_18_1, rf_19_0, rf_19_1, rf_19_2, rf_23_0, rf_25_0, rf_27_0, rf_27_1, rf_27_2, rf_27_3, rf_27_4, rf_30_0, rf_30_1, rf_30_2, rf_30_3, rf_30_4, rf_33_0, rf_33_1, rf_33_2, rf_33_3, rf_39_0, rf_39_1, rf_42_0, rf_42_1, rf_42_2, rf_42_3, rf_42_4, rf_42_5, rf_43_0, rf_45_0, rf_47_0, rf_49_0, rf_51_0, rf_53_0, rf_55_2, rf_55_4, rf_55_5, rf_55_6, rf_55_10, rf_55_13, rf_55_14, rf_55_15, rf_55_16, rf_55_17, rf_55_23, rf_55_24, rf_55_25, rf_55_26, rf_55_27, rf_55_28, rf_55_29, rf_55_30, rf_55_31, rf_55_32, rf_55_37, rf_55_38, rf_55_39, rf_55_40, rf_55_47, rf_55_49, rf_55_51, rf_55_52, rf_55_53, rf_55_54, rf_55_55, ln_2, ln_4, ln_5, ln_6, ln_7, ln_9, ln_11, ln_12, ln_13, ln_15, ln_16, ln_17, ln_20, ln_21, ln_22, ln_24, ln_26, ln_28, ln_29, ln_31, ln_32, ln_34, ln_35, ln_36, ln_37, ln_38, ln_40, ln_41, ln_42, ln_44, ln_46, ln_48, ln_50, ln_52, ln_54, ln_56, ln_57, ln_58, ln_59, ln_60, ln_61, ln_62, ln_63, ln_64, ln_65, ln_66, ln_67, ln_68, ln_69, ln_70, ln_71, ln_72, ln_73, ln_74, ln_75, ln_76, ln_77, ln_78, ln_79, ln_80, ln_81, ln_82, ln_83, ln_84, ln_85, ln_86, forall_eq, gI_sI, gI_sL, gL_sI, gL_sL, gI_cpI, gL_cpI, gI_cpL, gL_cpL, Nat.reduceEqDiff, Nat.reduceAdd, Nat.reduceSub, cl0, cl1, cl12, cl39, and_false, false_and, and_true, true_and, and_self, ↓reduceIte, q8]
  by_cases hd : d = 0
  · subst hd
    rw [if_neg (by decide), q9, if_pos (show nI 0 = 0 from rfl)]
    exact hR h I
  · obtain ⟨d, rfl⟩ : ∃ d', d = d' + 1 := ⟨d - 1, by omega⟩
    rw [show nI (d + 1) - 1 = nI d from nI_pred d, if_pos (nI_pos' (by omega))]
    simp (disch := omega) only [nI_clamp, vp_nI]
    refine ⟨by omega, by omega, by omega, ?_⟩
    obtain ⟨y1, y2, y3, y4, y5, y6⟩ := q11 d (by omega)
    have y1 : gI h 61 d = gI h 35 d := y1
    have y2 : gI h 62 d = gI h 34 d := y2
    have y3 : gI h 63 d = gI h 36 d := y3
    have ne : ¬ nI (d + 1) = 0 := nI_ne0 (by omega) (by omega)
    rcases y5 with ⟨w0, i, c, hi, hn, hv, h1, h2⟩ | ⟨w0, i, a, b, hi, hn, hl, hv, h1, h2⟩ | ⟨w0, i, c, hi, hn, hv, h1, h2⟩
    · have w0 : gI h 35 d = 0 := w0
      have hn : gI h 34 d = nI i := hn
      have hv : gI h 36 d = nI c := hv
      rw [w0, hn, hv]
      apply c_bec0 q2 hi q4
      simp only [forall_eq, gI_sI, gI_sL, gL_sI, gL_sL, gI_cpI, gL_cpI, gI_cpL, gL_cpL, Nat.reduceEqDiff, Nat.reduceAdd, Nat.reduceSub, cl0, cl1, cl12, cl39, and_false, false_and, and_true, true_and, and_self, ↓reduceIte, q8, q9, q10, if_neg ne]
      rw [show nI (d + 1) - 1 = nI d from nI_pred d]
      simp (disch := omega) only [nI_clamp, vp_nI, show d < 40 by omega, true_and, y1, y2, y3, w0, hn, hv]
      apply m_lay0 (by omega)
      simp only [forall_eq, gI_sI, gI_sL, gL_sI, gL_sL, gI_cpI, gL_cpI, gI_cpL, gL_cpL, Nat.reduceEqDiff, Nat.reduceAdd, Nat.reduceSub, cl0, cl1, cl12, cl39, and_false, false_and, and_true, true_and, and_self, ↓reduceIte]
      apply hR
      unfold Inv; simp [gI_sI, gI_sL, gL_sI, gL_sL, gI_cpI, gL_cpI, gI_cpL, gL_cpL, rI_sI, rI_sL, rL_sI, rL_sL, shV_sI, shV_sL, shE_sI, shE_sL, rI_cpI, rL_cpI, rI_cpL, rL_cpL, shV_cpI, shE_cpI, shV_cpL]
      rw [show nI (s - (d + 1)) + 1 = nI (s - d) by rw [nI_1]; congr 1; omega]
      exact ⟨iG, JP_setc (p := p) iP h1 h2, iD, iT, iI, JC_un iC q8 q7 (by omega) q6, iB, iS, iL0, iL1⟩
    · have w0 : gI h 35 d = 1 := w0
      have hn : gI h 34 d = nI i := hn
      have hv : gI h 36 d = nI b := hv
      rw [w0, hn, hv]
      apply c_bec1 q2 hi q4
      simp only [forall_eq, gI_sI, gI_sL, gL_sI, gL_sL, gI_cpI, gL_cpI, gI_cpL, gL_cpL, Nat.reduceEqDiff, Nat.reduceAdd, Nat.reduceSub, cl0, cl1, cl12, cl39, and_false, false_and, and_true, true_and, and_self, ↓reduceIte, q8, q9, q10, if_neg ne]
      rw [show nI (d + 1) - 1 = nI d from nI_pred d]
      simp (disch := omega) only [nI_clamp, vp_nI, show d < 40 by omega, true_and, y1, y2, y3, w0, hn, hv]
      apply m_lay1 (by omega)
      simp only [forall_eq, gI_sI, gI_sL, gL_sI, gL_sL, gI_cpI, gL_cpI, gI_cpL, gL_cpL, Nat.reduceEqDiff, Nat.reduceAdd, Nat.reduceSub, cl0, cl1, cl12, cl39, and_false, false_and, and_true, true_and, and_self, ↓reduceIte]
      apply hR
      unfold Inv; simp [gI_sI, gI_sL, gL_sI, gL_sL, gI_cpI, gL_cpI, gI_cpL, gL_cpL, rI_sI, rI_sL, rL_sI, rL_sL, shV_sI, shV_sL, shE_sI, shE_sL, rI_cpI, rL_cpI, rI_cpL, rL_cpL, shV_cpI, shE_cpI, shV_cpL]
      rw [show nI (s - (d + 1)) + 1 = nI (s - d) by rw [nI_1]; congr 1; omega]
      exact ⟨iG, JP_setr (p := p) iP hl h1 h2, iD, iT, iI, JC_un iC q8 q7 (by omega) q6, iB, iS, iL0, iL1⟩
    · have w0 : gI h 35 d = 2 := w0
      have hn : gI h 34 d = nI i := hn
      have hv : gI h 36 d = nI c := hv
      rw [w0, hn, hv]
      apply c_bec2 q1 hi q3
      simp only [forall_eq, gI_sI, gI_sL, gL_sI, gL_sL, gI_cpI, gL_cpI, gI_cpL, gL_cpL, Nat.reduceEqDiff, Nat.reduceAdd, Nat.reduceSub, cl0, cl1, cl12, cl39, and_false, false_and, and_true, true_and, and_self, ↓reduceIte, q8, q9, q10, if_neg ne]
      rw [show nI (d + 1) - 1 = nI d from nI_pred d]
      simp (disch := omega) only [nI_clamp, vp_nI, show d < 40 by omega, true_and, y1, y2, y3, w0, hn, hv]
      apply m_lay2 (by omega)
      simp only [forall_eq, gI_sI, gI_sL, gL_sI, gL_sL, gI_cpI, gL_cpI, gI_cpL, gL_cpL, Nat.reduceEqDiff, Nat.reduceAdd, Nat.reduceSub, cl0, cl1, cl12, cl39, and_false, false_and, and_true, true_and, and_self, ↓reduceIte]
      apply hR
      unfold Inv; simp [gI_sI, gI_sL, gL_sI, gL_sL, gI_cpI, gL_cpI, gI_cpL, gL_cpL, rI_sI, rI_sL, rL_sI, rL_sL, shV_sI, shV_sL, shE_sI, shE_sL, rI_cpI, rL_cpI, rI_cpL, rL_cpL, shV_cpI, shE_cpI, shV_cpL]
      rw [show nI (s - (d + 1)) + 1 = nI (s - d) by rw [nI_1]; congr 1; omega]
      exact ⟨JG_set iG q1 q3 hi h1 h2, iP, iD, iT, iI, JC_un iC q8 q7 (by omega) q6, iB, iS, iL0, iL1⟩
-- redo
set_option maxRecDepth 20000 in
set_option maxHeartbeats 1000000 in
theorem ok_redo {h : Hp} (I : Inv h) {R : Hp → Prop} {Q0 : Prop} (hR : ∀ h', Inv h' → R h') : wX11_redo 0  h (fun v h1 => wX12_redo 55  h1 (fun v' h2 => if v = v' then R h2 else Q0)) := by
  obtain ⟨iG, iP, iD, iT, iI, iC, iB, iS, iL0, iL1⟩ := id I
  obtain ⟨g, p, d, s, q1, q2, q3, q4, q5, q6, q7, q8, q9, q10, q11⟩ := id iC
  simp only [wX11_redo, wX1_firstUndone, wX1_stepOn, wX12_redo, rf_0_0, rf_0_1, rf_0_2, rf_0_4, rf_0_5, rf_0_6, rf_0_8, rf_0_9, rf_0_10, rf_0_11, rf_0_12, rf_0_13, rf_1_0, rf_3_0, rf_3_1, rf_3_2, rf_8_0, rf_8_1, rf_8_2, rf_8_3, rf_10_0, rf_10_1, rf_10_2, rf_14_0, rf_14_1, rf_14_2, rf_18_0, rf_18_1, rf_19_0, rf_19_1, rf_19_2, rf_23_0, rf_25_0, rf_27_0, rf_27_1, rf_27_2, rf_27_3, rf_27_4, rf_30_0, rf_30_1, rf_30_2, rf_30_3, rf_30_4, rf_33_0, rf_33_1, rf_33_2, rf_33_3, rf_39_0, rf_39_1, rf_42_0, rf_42_1, rf_42_2, rf_42_3, rf_42_4, rf_42_5, rf_43_0, rf_45_0, rf_47_0, rf_49_0, rf_51_0, rf_53_0, rf_55_2, rf_55_4, rf_55_5, rf_55_6, rf_55_10, rf_55_13, rf_55_14, rf_55_15, rf_55_16, rf_55_17, rf_55_23, rf_55_24, rf_55_25, rf_55_26, rf_55_27, rf_55_28, rf_55_29, rf_55_30, rf_55_31, rf_55_32, rf_55_37, rf_55_38, rf_55_39, rf_55_40, rf_55_47, rf_55_49, rf_55_51, rf_55_52, rf_55_53, rf_55_54, rf_55_55, ln_2, ln_4, ln_5, ln_6, ln_7, ln_9, ln_11, ln_12, ln_13, ln_15, ln_16, ln_17, ln_20, ln_21, ln_22, ln_24, ln_26, ln_28, ln_29, ln_31, ln_32, ln_34, ln_35, ln_36, ln_37, ln_38, ln_40, ln_41, ln_42, ln_44, ln_46, ln_48, ln_50, ln_52, ln_54, ln_56, ln_57, ln_58, ln_59, ln_60, ln_61, ln_62, ln_63, ln_64, ln_65, ln_66, ln_67, ln_68, ln_69, ln_70, ln_71, ln_72, ln_73, ln_74, ln_75, ln_76, ln_77, ln_78, ln_79, ln_80, ln_81, ln_82, ln_83, ln_84, ln_85, ln_86, forall_eq, gI_sI, gI_sL, gL_sI, gL_sL, gI_cpI, gL_cpI, gI_cpL, gL_cpL, Nat.reduceEqDiff, Nat.reduceAdd, Nat.reduceSub, cl0, cl1, cl12, cl39, and_false, false_and, and_true, true_and, and_self, ↓reduceIte, q8, q7]
  by_cases hd : s ≤ d
  · have : d = s := by omega
    subst this
    rw [if_pos (nI_le hd (by omega)), if_neg (by decide), q10, Nat.sub_self, if_pos (show nI 0 = 0 from rfl)]
    exact hR h I
  · rw [if_neg (nI_ge (by omega) (by omega)), if_pos (nI_pos' (by omega))]
    simp (disch := omega) only [nI_clamp, vp_nI]
    refine ⟨by omega, by omega, by omega, ?_⟩
    obtain ⟨y1, y2, y3, y4, y5, y6⟩ := q11 d (by omega)
    have y1 : gI h 61 d = gI h 35 d := y1
    have y2 : gI h 62 d = gI h 34 d := y2
    have y3 : gI h 64 d = gI h 37 d := y4
    have ne : ¬ nI (s - d) = 0 := nI_ne0 (by omega) (by omega)
    have es : nI (s - d) - 1 = nI (s - (d + 1)) := by
      rw [show s - d = (s - (d + 1)) + 1 by omega, nI_pred]
    have es2 : nI s - nI (d + 1) = nI (s - (d + 1)) := pk_sub (by omega)
    rcases y6 with ⟨w0, i, c, hi, hn, hv, h1, h2⟩ | ⟨w0, i, a, b, hi, hn, hl, hv, h1, h2⟩ | ⟨w0, i, c, hi, hn, hv, h1, h2⟩
    · have w0 : gI h 35 d = 0 := w0
      have hn : gI h 34 d = nI i := hn
      have hv : gI h 37 d = nI c := hv
      rw [w0, hn, hv]
      apply c_bec0 q2 hi q4
      simp only [forall_eq, gI_sI, gI_sL, gL_sI, gL_sL, gI_cpI, gL_cpI, gI_cpL, gL_cpL, Nat.reduceEqDiff, Nat.reduceAdd, Nat.reduceSub, cl0, cl1, cl12, cl39, and_false, false_and, and_true, true_and, and_self, ↓reduceIte, q7, q8, q9, q10, if_neg ne]
      simp (disch := omega) only [nI_clamp, vp_nI, show d < 40 by omega, true_and, y1, y2, y3, w0, hn, hv]
      apply m_lay0 (by omega)
      simp only [forall_eq, gI_sI, gI_sL, gL_sI, gL_sL, gI_cpI, gL_cpI, gI_cpL, gL_cpL, Nat.reduceEqDiff, Nat.reduceAdd, Nat.reduceSub, cl0, cl1, cl12, cl39, and_false, false_and, and_true, true_and, and_self, ↓reduceIte, q9, q10, nI_1, es, es2]
      apply hR
      unfold Inv; simp [gI_sI, gI_sL, gL_sI, gL_sL, gI_cpI, gL_cpI, gI_cpL, gL_cpL, rI_sI, rI_sL, rL_sI, rL_sL, shV_sI, shV_sL, shE_sI, shE_sL, rI_cpI, rL_cpI, rI_cpL, rL_cpL, shV_cpI, shE_cpI, shV_cpL]
      exact ⟨iG, JP_setc (p := p) iP h1 h2, iD, iT, iI, JC_to iC q7 (by omega) q6, iB, iS, iL0, iL1⟩
    · have w0 : gI h 35 d = 1 := w0
      have hn : gI h 34 d = nI i := hn
      have hv : gI h 37 d = nI b := hv
      rw [w0, hn, hv]
      apply c_bec1 q2 hi q4
      simp only [forall_eq, gI_sI, gI_sL, gL_sI, gL_sL, gI_cpI, gL_cpI, gI_cpL, gL_cpL, Nat.reduceEqDiff, Nat.reduceAdd, Nat.reduceSub, cl0, cl1, cl12, cl39, and_false, false_and, and_true, true_and, and_self, ↓reduceIte, q7, q8, q9, q10, if_neg ne]
      simp (disch := omega) only [nI_clamp, vp_nI, show d < 40 by omega, true_and, y1, y2, y3, w0, hn, hv]
      apply m_lay1 (by omega)
      simp only [forall_eq, gI_sI, gI_sL, gL_sI, gL_sL, gI_cpI, gL_cpI, gI_cpL, gL_cpL, Nat.reduceEqDiff, Nat.reduceAdd, Nat.reduceSub, cl0, cl1, cl12, cl39, and_false, false_and, and_true, true_and, and_self, ↓reduceIte, q9, q10, nI_1, es, es2]
      apply hR
      unfold Inv; simp [gI_sI, gI_sL, gL_sI, gL_sL, gI_cpI, gL_cpI, gI_cpL, gL_cpL, rI_sI, rI_sL, rL_sI, rL_sL, shV_sI, shV_sL, shE_sI, shE_sL, rI_cpI, rL_cpI, rI_cpL, rL_cpL, shV_cpI, shE_cpI, shV_cpL]
      exact ⟨iG, JP_setr (p := p) iP hl h1 h2, iD, iT, iI, JC_to iC q7 (by omega) q6, iB, iS, iL0, iL1⟩
    · have w0 : gI h 35 d = 2 := w0
      have hn : gI h 34 d = nI i := hn
      have hv : gI h 37 d = nI c := hv
      rw [w0, hn, hv]
      apply c_bec2 q1 hi q3
      simp only [forall_eq, gI_sI, gI_sL, gL_sI, gL_sL, gI_cpI, gL_cpI, gI_cpL, gL_cpL, Nat.reduceEqDiff, Nat.reduceAdd, Nat.reduceSub, cl0, cl1, cl12, cl39, and_false, false_and, and_true, true_and, and_self, ↓reduceIte, q7, q8, q9, q10, if_neg ne]
      simp (disch := omega) only [nI_clamp, vp_nI, show d < 40 by omega, true_and, y1, y2, y3, w0, hn, hv]
      apply m_lay2 (by omega)
      simp only [forall_eq, gI_sI, gI_sL, gL_sI, gL_sL, gI_cpI, gL_cpI, gI_cpL, gL_cpL, Nat.reduceEqDiff, Nat.reduceAdd, Nat.reduceSub, cl0, cl1, cl12, cl39, and_false, false_and, and_true, true_and, and_self, ↓reduceIte, q9, q10, nI_1, es, es2]
      apply hR
      unfold Inv; simp [gI_sI, gI_sL, gL_sI, gL_sL, gI_cpI, gL_cpI, gI_cpL, gL_cpL, rI_sI, rI_sL, rL_sI, rL_sL, shV_sI, shV_sL, shE_sI, shE_sL, rI_cpI, rL_cpI, rI_cpL, rL_cpL, shV_cpI, shE_cpI, shV_cpL]
      exact ⟨JG_set iG q1 q3 hi h1 h2, iP, iD, iT, iI, JC_to iC q7 (by omega) q6, iB, iS, iL0, iL1⟩
