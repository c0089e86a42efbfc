-- people
abbrev fitsP (a b c : Int32) : Prop := ¬ a < 0 ∧ a < 60 ∧ ¬ b ≤ a ∧ ¬ 60 < b ∧ ¬ c < 1 ∧ ¬ 9 < c
theorem e_fits (a b c : Int32) (h : Hp) (Q : Int32 → Prop) : wX8_fits a b c h Q = Q (if fitsP a b c then 1 else 0) := by
  unfold wX8_fits fitsP
  rw [e_isTime]
  by_cases c1 : a < 0
  · simp only [c1, true_or, ↓reduceIte, not_true, false_and]
  · by_cases c2 : a < 60
    · by_cases c3 : b ≤ a
      · simp only [c1, c2, c3, not_true, or_false, ↓reduceIte, ne10, not_false_iff, false_and, and_false]
      · by_cases c4 : 60 < b
        · simp only [c1, c2, c3, c4, not_true, or_false, ↓reduceIte, ne10, not_false_iff, false_and, and_false]
        · by_cases c5 : c < 1
          · simp only [c1, c2, c3, c4, c5, not_true, or_false, ↓reduceIte, ne10, not_false_iff, false_and, and_false]
          · by_cases c6 : 9 < c
            · simp only [c1, c2, c3, c4, c5, c6, not_true, or_false, ↓reduceIte, ne10, not_false_iff, false_and, and_false]
            · simp only [c1, c2, c3, c4, c5, c6, not_true, or_false, ↓reduceIte, ne10, not_false_iff, true_and, and_true]
    · simp only [c1, c2, false_or, not_false_iff, ↓reduceIte, false_and, and_false, true_and]
theorem lt_succ {a b : Int32} (h : a < 60) : (b < a + 1) = (b ≤ a) := by
  have ha := i32b a
  have hb := i32b b
  rw [Int32.lt_iff_toInt_lt] at h
  have h : a.toInt < 60 := h
  rw [Int32.lt_iff_toInt_lt, Int32.le_iff_toInt_le, Int32.toInt_add, show (1 : Int32).toInt = 1 from rfl, Int.bmod_eq_of_le (by omega) (by omega)]
  apply propext
  omega
theorem e_mfits (a b c : Int32) (h : Hp) (Q : Int32 → Prop) : wX12_isPersonSo a b c h Q = Q (if fitsP a b c then 1 else 0) := by
  unfold wX12_isPersonSo fitsP
  rw [e_mTime]
  by_cases c1 : a < 0
  · simp only [c1, true_or, ↓reduceIte, not_true, false_and]
  · by_cases c2 : a < 60
    · simp only [↓e_in, lt_succ c2]
      by_cases c3 : b ≤ a
      · simp only [c1, c2, c3, true_or, not_true, or_false, ↓reduceIte, ne10, not_false_iff, false_and, and_false]
      · by_cases c4 : 60 < b
        · simp only [c1, c2, c3, c4, or_true, not_true, or_false, ↓reduceIte, ne10, not_false_iff, false_and, and_false]
        · by_cases c5 : c < 1
          · simp only [c1, c2, c3, c4, c5, true_or, not_true, or_false, ↓reduceIte, ne10, not_false_iff, false_and, and_false]
          · by_cases c6 : 9 < c
            · simp only [c1, c2, c3, c4, c5, c6, or_true, not_true, or_false, ↓reduceIte, ne10, not_false_iff, false_and, and_false]
            · simp only [c1, c2, c3, c4, c5, c6, not_true, or_false, ↓reduceIte, ne10, not_false_iff, true_and, and_true]
    · simp only [c1, c2, false_or, not_false_iff, ↓reduceIte, false_and, and_false, true_and]
theorem fitsP_nat {a b c : Int32} (h : fitsP a b c) : ∃ x y z : Nat, a = nI x ∧ b = nI y ∧ c = nI z ∧ x < y ∧ y ≤ 60 ∧ 1 ≤ z ∧ z ≤ 9 := by
  obtain ⟨h1, h2, h3, h4, h5, h6⟩ := h
  obtain ⟨x, rfl, _, x2⟩ := nI_small (lo := 0) (hi := 60) (nl h1) (Int32.le_of_lt h2) (by omega) (by omega)
  have h0 : (0 : Int32) ≤ b := Int32.le_trans (nl h1) (Int32.le_of_lt (Int32.not_le.mp h3))
  obtain ⟨y, rfl, _, y2⟩ := nI_small (lo := 0) (hi := 60) h0 (nl h4) (by omega) (by omega)
  obtain ⟨z, rfl, z1, z2⟩ := nI_small (lo := 1) (hi := 9) (nl h5) (nl h6) (by omega) (by omega)
  exact ⟨x, y, z, rfl, rfl, rfl, by
    rw [nI_leI (by omega) (by omega)] at h3
    omega, y2, z1, z2⟩
def ad (f : Nat → Int32) (p j : Nat) (E : Nat → Int32) : Nat → Int32 := fun k => if p ≤ k ∧ k < p + j then E (k - p) else f k
theorem ad_0 (f : Nat → Int32) (p : Nat) (E : Nat → Int32) : ad f p 0 E = f := by
  funext k
  unfold ad
  rw [if_neg (by omega)]
theorem ad_s (f : Nat → Int32) (p j : Nat) (E : Nat → Int32) : upd (ad f p j E) (p + j) (E j) = ad f p (j + 1) E := by
  funext k
  unfold ad upd
  by_cases c : k = p + j
  · rw [if_pos c, if_pos (by omega)]
    congr 1; omega
  · rw [if_neg c]
    show (if p ≤ k ∧ k < p + j then E (k - p) else f k) = _
    by_cases d : p ≤ k ∧ k < p + j
    · rw [if_pos d, if_pos (by omega)]
    · rw [if_neg d, if_neg (by omega)]
def recE (e : Nat → Int64) (i m : Nat) : Nat → Int32 := fun k => (e (i + 3 * k + m)).toInt32
def good (e : Nat → Int64) (i z p k : Nat) : Prop := i + 3 * k + 2 < z ∧ p + k < 12 ∧ fitsP (recE e i 0 k) (recE e i 1 k) (recE e i 2 k)
theorem l64a {i k : Nat} (hi : i < 2 ^ 31) (hk : k < 100) : ((nI i).toInt64 + (3 : Int64) * (nI k).toInt64).toInt = ((i + 3 * k : Nat) : Int) := by
  have e : ((3 : Int64) * (nI k).toInt64).toInt = 3 * k := by
    rw [Int64.toInt_mul, i64, nI_toInt (by omega), show (3 : Int64).toInt = 3 from rfl, Int.bmod_eq_of_le] <;> omega
  rw [Int64.toInt_add, e, i64, nI_toInt hi, Int.bmod_eq_of_le] <;> omega
theorem l64b {i k : Nat} (hi : i < 2 ^ 31) (hk : k < 100) : ((nI i).toInt64 + ((3 : Int32) * nI k).toInt64).toInt = ((i + 3 * k : Nat) : Int) := by
  have e3 : (3 : Int32) * nI k = nI (3 * k) := by simp (disch := omega) only [lit, nI_ltI, nI_leI, nI_eq, nI_clamp, nI_add, vp_nI, nI_ne_neg, neg_ne_nI, pk_sub, pk_mul, pk_div, Nat.reduceAdd, Nat.reduceMul, Nat.reducePow, e_mn, e_mx, e_rm, lt_t, lt_f, le_t, le_f, eq_f, eq_t, ↓reduceIte, true_and, and_true, and_false, false_and, and_self, or_true, or_false, true_or, false_or, not_true, not_false_iff]
  rw [e3, Int64.toInt_add, i64, i64, nI_toInt hi, nI_toInt (by omega), Int.bmod_eq_of_le] <;> omega
theorem l64c {v : Int64} {n z : Nat} (hv : v.toInt = n) (hn : n < 2 ^ 33) (hz : z ≤ 60) : ¬ lg_cmp v 0 < 0 ∧ ((lg_cmp (v + 2) (nI z).toInt64 < 0) ↔ n + 2 < z) ∧ ((0 ≤ lg_cmp (v + 2) (nI z).toInt64) ↔ ¬ n + 2 < z) := by
  have e2 : (v + 2).toInt = n + 2 := by
    rw [Int64.toInt_add, hv, show (2 : Int64).toInt = 2 from rfl, Int.bmod_eq_of_le] <;> omega
  have q : (lg_cmp (v + 2) (nI z).toInt64 < 0) ↔ n + 2 < z := by
    rw [lg_cmp_lt, Int64.lt_iff_toInt_lt, e2, i64, nI_toInt (by omega)]
    omega
  refine ⟨?_, q, ?_⟩
  · rw [lg_cmp_lt, Int64.lt_iff_toInt_lt, hv, show (0 : Int64).toInt = 0 from rfl]
    omega
  · rw [lg_cmp_ge, Int64.le_iff_toInt_le, e2, i64, nI_toInt (by omega)]
    omega
theorem l64d {v : Int64} {n : Nat} (hv : v.toInt = n) (hn : n < 2 ^ 31) : v.toInt32 = nI n := by
  rw [← Int32.toInt_inj, Int64.toInt_toInt32, hv, nI_toInt hn, Int.bmod_eq_of_le] <;> omega
theorem eq12 {n : Nat} (h : n < 2 ^ 31) : (nI n = 12) ↔ n = 12 := nI_eq (b := 12) h (by omega)
theorem c_come {h : Hp} {s z p i n : Nat} (hs : s < 6) (hz : z ≤ 60) (hi : i < 2 ^ 31) (hn : n ≤ 12) (ez : gI h (43 + 2 * s) 3 = nI z) (ep : gI h 3 3 = nI p) (hp : p ≤ 12) {Q : Int32 → Hp → Prop}
    (hQ : ∀ (h2 : Hp) (j : Nat), j ≤ n → (∀ k, k < j → good (shE h s) i z p k) → (j = n ∨ ¬ good (shE h s) i z p j) → gI h2 3 3 = nI (p + j) → rI h2 4 = ad (rI h 4) p j (recE (shE h s) i 0) → rI h2 5 = ad (rI h 5) p j (recE (shE h s) i 1) → rI h2 6 = ad (rI h 6) p j (recE (shE h s) i 2) → (∀ a k, a ≠ 4 → a ≠ 5 → a ≠ 6 → (a = 3 → k ≠ 3) → gI h2 a k = gI h a k) → (∀ a k, gL h2 a k = gL h a k) → Q (nI j) h2) : wX11_comeFrom 0 (43 + 2 * s) (nI i) (nI n) h Q := by
  unfold wX11_comeFrom
  refine iX11_comeFrom_3 (I := fun x h2 => ∃ j : Nat, x = nI j ∧ j ≤ n ∧ (∀ k, k < j → good (shE h s) i z p k) ∧ gI h2 3 3 = nI (p + j) ∧ rI h2 4 = ad (rI h 4) p j (recE (shE h s) i 0) ∧ rI h2 5 = ad (rI h 5) p j (recE (shE h s) i 1) ∧ rI h2 6 = ad (rI h 6) p j (recE (shE h s) i 2) ∧ (∀ a k, a ≠ 4 → a ≠ 5 → a ≠ 6 → (a = 3 → k ≠ 3) → gI h2 a k = gI h a k) ∧ (∀ a k, gL h2 a k = gL h a k)) (μ := fun x _ => n - x.toNatClampNeg) ?_ 0 h ⟨0, rfl, by omega, fun k hk => by omega, by simpa using ep, by rw [ad_0], by rw [ad_0], by rw [ad_0], fun _ _ _ _ _ _ => rfl, fun _ _ => rfl⟩
  rintro x h2 ⟨j, rfl, hj, g0, g1, g2, g3, g4, f1, f2⟩ K hK
  unfold fX11_comeFrom_3
  by_cases c : n ≤ j
  · rw [if_pos (nI_le c (by omega))]
    have : j = n := by omega
    subst this
    exact hQ h2 j (by omega) g0 (Or.inl rfl) g1 g2 g3 g4 f1 f2
  · rw [if_neg (nI_ge (by omega) (by omega))]
    simp only [forall_eq]
    have hv := l64a (k := j) hi (by omega)
    obtain ⟨w1, w2, w3⟩ := l64c (z := z) hv (by omega) hz
    have ez2 : gI h2 (43 + 2 * s) 3 = nI z := by rw [f1 _ _ (by omega) (by omega) (by omega) (by omega)]; exact ez
    have eE : shE h2 s = shE h s := by
      funext k
      unfold shE
      rw [if_pos hs, if_pos hs, f2]
    rw [if_neg w1, ez2]
    by_cases d : i + 3 * j + 2 < z
    · rw [if_pos (w2.mpr d), l64d hv (by omega)]
      rw [e_at (s := s) (z := z) (i := i + 3 * j) _ _ h2 _ hs rfl ez2 hz (by omega) rfl]
      rw [e_at (s := s) (z := z) (i := i + 3 * j + 1) _ _ h2 _ hs rfl ez2 hz (by omega) (by rw [nI_1])]
      rw [e_at (s := s) (z := z) (i := i + 3 * j + 2) _ _ h2 _ hs rfl ez2 hz (by omega) (by rw [lit, nI_add])]
      rw [e_fits, eE, show (shE h s (i + 3 * j)).toInt32 = recE (shE h s) i 0 j from rfl, show (shE h s (i + 3 * j + 1)).toInt32 = recE (shE h s) i 1 j from rfl, show (shE h s (i + 3 * j + 2)).toInt32 = recE (shE h s) i 2 j from rfl]
      by_cases e : fitsP (recE (shE h s) i 0 j) (recE (shE h s) i 1 j) (recE (shE h s) i 2 j)
      · rw [if_pos e]
        simp only [ne10, ↓reduceIte, rf_0_1, wX8_add, g1]
        by_cases e2 : p + j < 12
        · rw [if_pos (show nI (p + j) < 12 from nI_lt (b := 12) e2 (by omega))]
          simp (disch := omega) only [rf_0_0, rf_0_1, rf_0_2, rf_0_4, rf_0_5, rf_0_6, rf_0_8, rf_0_9, rf_0_10, rf_0_11, rf_0_12, rf_0_13, rf_1_0, rf_3_0, rf_3_1, rf_3_2, rf_8_0, rf_8_1, rf_8_2, rf_8_3, rf_10_0, rf_10_1, rf_10_2, rf_14_0, rf_14_1, rf_14_2, rf_18_0, rf_18_1, rf_19_0, rf_19_1, rf_19_2, rf_23_0, rf_25_0, rf_27_0, rf_27_1, rf_27_2, rf_27_3, rf_27_4, rf_30_0, rf_30_1, rf_30_2, rf_30_3, rf_30_4, rf_33_0, rf_33_1, rf_33_2, rf_33_3, rf_39_0, rf_39_1, rf_42_0, rf_42_1, rf_42_2, rf_42_3, rf_42_4, rf_42_5, rf_43_0, rf_45_0, rf_47_0, rf_49_0, rf_51_0, rf_53_0, rf_55_2, rf_55_4, rf_55_5, rf_55_6, rf_55_10, rf_55_13, rf_55_14, rf_55_15, rf_55_16, rf_55_17, rf_55_23, rf_55_24, rf_55_25, rf_55_26, rf_55_27, rf_55_28, rf_55_29, rf_55_30, rf_55_31, rf_55_32, rf_55_37, rf_55_38, rf_55_39, rf_55_40, rf_55_47, rf_55_49, rf_55_51, rf_55_52, rf_55_53, rf_55_54, rf_55_55, ln_2, ln_4, ln_5, ln_6, ln_7, ln_9, ln_11, ln_12, ln_13, ln_15, ln_16, ln_17, ln_20, ln_21, ln_22, ln_24, ln_26, ln_28, ln_29, ln_31, ln_32, ln_34, ln_35, ln_36, ln_37, ln_38, ln_40, ln_41, ln_42, ln_44, ln_46, ln_48, ln_50, ln_52, ln_54, ln_56, ln_57, ln_58, ln_59, ln_60, ln_61, ln_62, ln_63, ln_64, ln_65, ln_66, ln_67, ln_68, ln_69, ln_70, ln_71, ln_72, ln_73, ln_74, ln_75, ln_76, ln_77, ln_78, ln_79, ln_80, ln_81, ln_82, ln_83, ln_84, ln_85, ln_86, forall_eq, nI_clamp, vp_nI, gI_sI, gI_sL, gL_sI, gL_sL, gI_cpI, gL_cpI, gI_cpL, gL_cpL, g1, Nat.reduceEqDiff, false_and, and_false, ↓reduceIte, and_self, lit, nI_add, pk_sub, nI_ne_neg]
          refine ⟨e2, e2, e2, hK _ _ ⟨j + 1, rfl, by omega, fun k hk => ?_, by simp only [forall_eq, gI_sI, gI_sL, gL_sI, gL_sL, gI_cpI, gL_cpI, gI_cpL, gL_cpL, Nat.reduceEqDiff, Nat.reduceAdd, Nat.reduceSub, cl0, cl1, cl12, cl39, and_false, false_and, and_true, true_and, and_self, ↓reduceIte]; rfl, ?_, ?_, ?_, fun a k n1 n2 n3 n4 => ?_, fun a k => ?_⟩ (by rw [nI_clamp (by omega), nI_clamp (by omega)]; omega)⟩
          · by_cases hkj : k = j
            · subst hkj; exact ⟨d, e2, e⟩
            · exact g0 k (by omega)
          · simp only [rI_sI, rI_sL, rL_sI, rL_sL, Nat.reduceEqDiff, ↓reduceIte, g2, ad_s]
          · simp only [rI_sI, rI_sL, rL_sI, rL_sL, Nat.reduceEqDiff, ↓reduceIte, g3, ad_s]
          · simp only [rI_sI, rI_sL, rL_sI, rL_sL, Nat.reduceEqDiff, ↓reduceIte, g4, ad_s]
          · simp only [gI_sI, gI_sL, gL_sI, gL_sL, gI_cpI, gL_cpI, gI_cpL, gL_cpL, n1, n2, n3, false_and, ↓reduceIte]
            rw [if_neg (fun q => n4 q.1 q.2)]
            exact f1 a k n1 n2 n3 n4
          · exact f2 a k
        · rw [if_neg (show ¬ nI (p + j) < 12 from fun q => e2 ((nI_ltI (b := 12) (by omega) (by omega)).mp q))]
          exact hQ h2 j (by omega) g0 (Or.inr (fun q => e2 q.2.1)) g1 g2 g3 g4 f1 f2
      · rw [if_neg e]
        simp only [↓reduceIte]
        exact hQ h2 j (by omega) g0 (Or.inr (fun q => e q.2.2)) g1 g2 g3 g4 f1 f2
    · rw [if_neg (fun q => d (w2.mp q))]
      exact hQ h2 j (by omega) g0 (Or.inr (fun q => d q.1)) g1 g2 g3 g4 f1 f2
theorem m_come {h : Hp} {s z p i n : Nat} (hs : s < 6) (hz : z ≤ 60) (hi : i < 2 ^ 31) (hn : n ≤ 12) (ez : gI h 84 s = nI z) (ep : gI h 55 3 = nI p) (hp : p ≤ 12) {e : Nat → Int64} (he : e = fun k => gL h 85 (60 * s + k)) {Q : Int32 → Hp → Prop}
    (hQ : ∀ (h2 : Hp) (j : Nat), j ≤ n → (∀ k, k < j → good e i z p k) → (j = n ∨ ¬ good e i z p j) → gI h2 55 3 = nI (p + j) → rI h2 57 = ad (rI h 57) p j (recE e i 0) → rI h2 58 = ad (rI h 58) p j (recE e i 1) → rI h2 59 = ad (rI h 59) p j (recE e i 2) → rI h2 60 = ad (rI h 60) p j (fun _ => 0) → (∀ a k, a ≠ 57 → a ≠ 58 → a ≠ 59 → a ≠ 60 → (a = 55 → k ≠ 3) → gI h2 a k = gI h a k) → (∀ a k, gL h2 a k = gL h a k) → Q (nI j) h2) : eX12_people_58 55 (nI s) (nI i) (nI n) Q 0 h := by
  refine iX12_people_58 (I := fun x h2 => ∃ j : Nat, x = nI j ∧ j ≤ n ∧ (∀ k, k < j → good e i z p k) ∧ gI h2 55 3 = nI (p + j) ∧ rI h2 57 = ad (rI h 57) p j (recE e i 0) ∧ rI h2 58 = ad (rI h 58) p j (recE e i 1) ∧ rI h2 59 = ad (rI h 59) p j (recE e i 2) ∧ rI h2 60 = ad (rI h 60) p j (fun _ => 0) ∧ (∀ a k, a ≠ 57 → a ≠ 58 → a ≠ 59 → a ≠ 60 → (a = 55 → k ≠ 3) → gI h2 a k = gI h a k) ∧ (∀ a k, gL h2 a k = gL h a k)) (μ := fun x _ => n - x.toNatClampNeg) ?_ 0 h ⟨0, rfl, by omega, fun k hk => by omega, by simpa using ep, by rw [ad_0], by rw [ad_0], by rw [ad_0], by rw [ad_0], fun _ _ _ _ _ _ _ => rfl, fun _ _ => rfl⟩
  rintro x h2 ⟨j, rfl, hj, g0, g1, g2, g3, g4, g5, f1, f2⟩ K hK
  unfold fX12_people_58
  by_cases c : n ≤ j
  · rw [if_pos (nI_le c (by omega))]
    have : j = n := by omega
    subst this
    exact hQ h2 j (by omega) g0 (Or.inl rfl) g1 g2 g3 g4 g5 f1 f2
  · rw [if_neg (nI_ge (by omega) (by omega))]
    simp only [forall_eq]
    have hv := l64b (k := j) hi (by omega)
    obtain ⟨w1, w2, w3⟩ := l64c (z := z) hv (by omega) hz
    have a84 : gI h2 84 s = nI z := (f1 84 s (by decide) (by decide) (by decide) (by decide) (fun q => absurd q (by decide))).trans ez
    rw [if_neg w1]
    refine ⟨(vp_nI (by omega)).mpr hs, ?_⟩
    simp only [rf_55_53, rf_55_54, nI_clamp (show s < 2 ^ 31 by omega), a84, g1]
    by_cases d : i + 3 * j + 2 < z
    · rw [if_neg (fun q => w3.mp q d)]
      have pj : p + j ≤ 12 := by
        by_cases j0 : j = 0
        · omega
        · have := (g0 (j - 1) (by omega)).2.1
          omega
      by_cases e2 : p + j < 12
      · rw [if_neg (show ¬ nI (p + j) = 12 from fun q => by have := (eq12 (by omega)).mp q; omega), l64d hv (by omega)]
        have r : ∀ m, gL h2 85 (60 * s + (i + 3 * j + m)) = e (i + 3 * j + m) := fun m => by rw [f2, he]
        simp (disch := omega) only [lit, pk_mul, nI_add, nI_clamp, vp_nI, ln_85]
        refine ⟨by omega, by omega, by omega, ?_⟩
        rw [show 60 * s + (i + 3 * j) + 1 = 60 * s + (i + 3 * j + 1) from rfl, show 60 * s + (i + 3 * j) + 2 = 60 * s + (i + 3 * j + 2) from rfl, r 1, r 2, show gL h2 85 (60 * s + (i + 3 * j)) = e (i + 3 * j + 0) from r 0, show (e (i + 3 * j + 0)).toInt32 = recE e i 0 j from rfl, show (e (i + 3 * j + 1)).toInt32 = recE e i 1 j from rfl, show (e (i + 3 * j + 2)).toInt32 = recE e i 2 j from rfl, e_mfits]
        by_cases e : fitsP (recE e i 0 j) (recE e i 1 j) (recE e i 2 j)
        · rw [if_pos e]
          simp only [ne10, ↓reduceIte, wX12_addPerson, g1]
          simp (disch := omega) only [rf_0_0, rf_0_1, rf_0_2, rf_0_4, rf_0_5, rf_0_6, rf_0_8, rf_0_9, rf_0_10, rf_0_11, rf_0_12, rf_0_13, rf_1_0, rf_3_0, rf_3_1, rf_3_2, rf_8_0, rf_8_1, rf_8_2, rf_8_3, rf_10_0, rf_10_1, rf_10_2, rf_14_0, rf_14_1, rf_14_2, rf_18_0, rf_18_1, rf_19_0, rf_19_1, rf_19_2, rf_23_0, rf_25_0, rf_27_0, rf_27_1, rf_27_2, rf_27_3, rf_27_4, rf_30_0, rf_30_1, rf_30_2, rf_30_3, rf_30_4, rf_33_0, rf_33_1, rf_33_2, rf_33_3, rf_39_0, rf_39_1, rf_42_0, rf_42_1, rf_42_2, rf_42_3, rf_42_4, rf_42_5, rf_43_0, rf_45_0, rf_47_0, rf_49_0, rf_51_0, rf_53_0, rf_55_2, rf_55_4, rf_55_5, rf_55_6, rf_55_10, rf_55_13, rf_55_14, rf_55_15, rf_55_16, rf_55_17, rf_55_23, rf_55_24, rf_55_25, rf_55_26, rf_55_27, rf_55_28, rf_55_29, rf_55_30, rf_55_31, rf_55_32, rf_55_37, rf_55_38, rf_55_39, rf_55_40, rf_55_47, rf_55_49, rf_55_51, rf_55_52, rf_55_53, rf_55_54, rf_55_55, ln_2, ln_4, ln_5, ln_6, ln_7, ln_9, ln_11, ln_12, ln_13, ln_15, ln_16, ln_17, ln_20, ln_21, ln_22, ln_24, ln_26, ln_28, ln_29, ln_31, ln_32, ln_34, ln_35, ln_36, ln_37, ln_38, ln_40, ln_41, ln_42, ln_44, ln_46, ln_48, ln_50, ln_52, ln_54, ln_56, ln_57, ln_58, ln_59, ln_60, ln_61, ln_62, ln_63, ln_64, ln_65, ln_66, ln_67, ln_68, ln_69, ln_70, ln_71, ln_72, ln_73, ln_74, ln_75, ln_76, ln_77, ln_78, ln_79, ln_80, ln_81, ln_82, ln_83, ln_84, ln_85, ln_86, forall_eq, nI_clamp, vp_nI, gI_sI, gI_sL, gL_sI, gL_sL, gI_cpI, gL_cpI, gI_cpL, gL_cpL, g1, Nat.reduceEqDiff, false_and, and_false, ↓reduceIte, and_self, lit, nI_add]
          refine ⟨by omega, by omega, by omega, e2, e2, e2, e2, hK _ _ ⟨j + 1, rfl, by omega, fun k hk => ?_, by simp only [forall_eq, gI_sI, gI_sL, gL_sI, gL_sL, gI_cpI, gL_cpI, gI_cpL, gL_cpL, Nat.reduceEqDiff, Nat.reduceAdd, Nat.reduceSub, cl0, cl1, cl12, cl39, and_false, false_and, and_true, true_and, and_self, ↓reduceIte]; rfl, ?_, ?_, ?_, ?_, fun a k n1 n2 n3 n4 n5 => ?_, fun a k => ?_⟩ (by rw [nI_clamp (by omega), nI_clamp (by omega)]; omega)⟩
          · by_cases hkj : k = j
            · subst hkj; exact ⟨d, e2, e⟩
            · exact g0 k (by omega)
          · simp only [rI_sI, rI_sL, rL_sI, rL_sL, Nat.reduceEqDiff, ↓reduceIte, g2, ad_s]
          · simp only [rI_sI, rI_sL, rL_sI, rL_sL, Nat.reduceEqDiff, ↓reduceIte, g3, ad_s]
          · simp only [rI_sI, rI_sL, rL_sI, rL_sL, Nat.reduceEqDiff, ↓reduceIte, g4, ad_s]
          · simp only [rI_sI, rI_sL, rL_sI, rL_sL, Nat.reduceEqDiff, ↓reduceIte, g5]
            exact ad_s _ p j (fun _ => 0)
          · simp only [gI_sI, gI_sL, gL_sI, gL_sL, gI_cpI, gL_cpI, gI_cpL, gL_cpL, n1, n2, n3, n4, false_and, ↓reduceIte]
            rw [if_neg (fun q => n5 q.1 q.2)]
            exact f1 a k n1 n2 n3 n4 n5
          · exact f2 a k
        · rw [if_neg e]
          exact hQ h2 j (by omega) g0 (Or.inr (fun q => e q.2.2)) g1 g2 g3 g4 g5 f1 f2
      · rw [if_pos (show nI (p + j) = 12 from (eq12 (by omega)).mpr (by omega))]
        exact hQ h2 j (by omega) g0 (Or.inr (fun q => e2 q.2.1)) g1 g2 g3 g4 g5 f1 f2
    · rw [if_pos (w3.mpr d)]
      exact hQ h2 j (by omega) g0 (Or.inr (fun q => d q.1)) g1 g2 g3 g4 g5 f1 f2
theorem good_eq {e e' : Nat → Int64} {i z p k : Nat} (h : ∀ k, k < z → e' k = e k) : good e' i z p k ↔ good e i z p k := by
  unfold good recE
  constructor
  · rintro ⟨h1, h2, h3⟩
    rw [h _ (by omega), h _ (by omega), h _ (by omega)] at h3
    exact ⟨h1, h2, h3⟩
  · rintro ⟨h1, h2, h3⟩
    rw [h _ (by omega), h _ (by omega), h _ (by omega)]
    exact ⟨h1, h2, h3⟩
theorem neg_v {x : Int32} (hx : x < 0) : lg_cmp (x.toInt64 + (3 : Int64) * (0 : Int32).toInt64) 0 < 0 := by
  rw [Int32.lt_iff_toInt_lt] at hx
  have hx : x.toInt < 0 := hx
  have := i32b x
  rw [lg_cmp_lt, Int64.lt_iff_toInt_lt, show (3 : Int64) * (0 : Int32).toInt64 = 0 from by decide, Int64.toInt_add, i64, show (0 : Int64).toInt = 0 from rfl, Int.bmod_eq_of_le] <;> omega
theorem neg_w {x : Int32} (hx : x < 0) : lg_cmp (x.toInt64 + ((3 : Int32) * (0 : Int32)).toInt64) 0 < 0 := by
  have := neg_v hx
  rwa [show (3 : Int64) * (0 : Int32).toInt64 = ((3 : Int32) * (0 : Int32)).toInt64 from by decide] at this
theorem n1_le {n : Nat} (h : 1 ≤ n) (h2 : n ≤ 12) : ¬ nI n ≤ 0 := fun q => by
  have := (nI_leI (b := 0) (by omega) (by omega)).mp q
  omega
theorem c_neg {h : Hp} {a n : Nat} {x : Int32} (x0 : x < 0) (d1 : 1 ≤ n) (d2 : n ≤ 12) {Q : Int32 → Hp → Prop} (hQ : Q 0 h) : wX11_comeFrom 0 a x (nI n) h Q := by
  unfold wX11_comeFrom
  refine iX11_comeFrom_3 (I := fun y h' => y = 0 ∧ h' = h) (μ := fun _ _ => 0) ?_ 0 h ⟨rfl, rfl⟩
  rintro y h' ⟨rfl, rfl⟩ K _
  unfold fX11_comeFrom_3
  rw [if_neg (n1_le d1 d2)]
  intro v hv
  rw [hv, if_pos (neg_v x0)]
  exact hQ
theorem m_neg {h : Hp} {n : Nat} {x s : Int32} (x0 : x < 0) (d1 : 1 ≤ n) (d2 : n ≤ 12) {Q : Int32 → Hp → Prop} (hQ : Q 0 h) : eX12_people_58 55 s x (nI n) Q 0 h := by
  refine iX12_people_58 (I := fun y h' => y = 0 ∧ h' = h) (μ := fun _ _ => 0) ?_ 0 h ⟨rfl, rfl⟩
  rintro y h' ⟨rfl, rfl⟩ K _
  unfold fX12_people_58
  rw [if_neg (n1_le d1 d2)]
  intro v hv
  rw [hv, if_pos (neg_w x0)]
  exact hQ
set_option maxRecDepth 20000 in
set_option maxHeartbeats 1000000 in
theorem ok_people {h : Hp} (I : Inv h) (x1 : Int32) (x2 : Int32) (x3 : Int32) {A1 : Prop} (b1 : A1) {A2 : Prop} (b2 : A2) {A3 : Prop} (b3 : A3) {R : Hp → Prop} {Q0 : Prop} (hR : ∀ h', Inv h' → R h') : wX11_people 0 x1 x2 x3 h (fun v h1 => A1 ∧ (A2 ∧ (A3 ∧ (wX12_people 55 x1 x2 x3 h1 (fun v' h2 => if v = v' then R h2 else Q0))))) := by
  obtain ⟨iG, iP, iD, iT, iI, iC, iB, iS, iL0, iL1⟩ := id I
  obtain ⟨n0, hn0, e1, hs⟩ := id iS
  unfold wX11_people
  simp only [↓e_isShelf]
  rcases ix x1 6 (by omega) with c | ⟨s, m1, rfl, c⟩
  · have c : x1 < 0 ∨ ¬ x1 < 6 := c
    simp only [if_pos c, ↓reduceIte]
    refine ⟨b1, b2, b3, ?_⟩
    unfold wX12_people
    simp only [↓e_mShelf, if_pos c, ↓reduceIte]
    exact hR h I
  · have c : ¬ (nI s < 0 ∨ ¬ nI s < 6) := c
    simp only [if_neg c, ne10, ↓reduceIte]
    rcases bd x3 1 12 (l := 1) (u := 12) rfl rfl (by omega) (by omega) with d | ⟨n, d1, d2, rfl, d⟩
    · have key : ∀ Q : Int32 → Hp → Prop, Q (-1) h → wX12_people 55 (nI s) x2 x3 h Q := by
        intro Q hQ
        unfold wX12_people
        simp only [↓e_mShelf, if_neg c, ne10, ↓reduceIte, ↓e_in, if_pos d]
        exact hQ
      by_cases d0 : x3 < 1
      · rw [if_pos d0]
        exact ⟨b1, b2, b3, key _ (fin rfl (hR h I))⟩
      · rw [if_neg d0, if_neg (Int32.not_le.mpr (d.resolve_left d0))]
        exact ⟨b1, b2, b3, key _ (fin rfl (hR h I))⟩
    · rw [if_neg (show ¬ nI n < 1 from fun q => d (Or.inl q)), if_pos (nl (show ¬ (12 : Int32) < nI n from fun q => d (Or.inr q)))]
      simp only [rf_0_13, nI_clamp (show s < 2 ^ 31 by omega), sh_id1 m1]
      refine ⟨(vp_nI (by omega)).mpr m1, ?_⟩
      have vs : vp_in (nI s) 6 := (vp_nI (by omega)).mpr m1
      have open_m : ∀ Q : Int32 → Hp → Prop, (if gI h 83 s = -1 then jX12_people_43 55 (nI s) x2 (nI n) h Q else if gI h 83 s = -2 then jX12_people_43 55 (nI s) x2 (nI n) h Q else Q (-12) h) → wX12_people 55 (nI s) x2 (nI n) h Q := by
        intro Q hQ
        unfold wX12_people
        simp only [↓e_mShelf, if_neg c, ne10, ↓reduceIte, ↓e_in, if_neg d, rf_55_52, ln_83, nI_clamp (show s < 2 ^ 31 by omega)]
        exact ⟨vs, by
          by_cases q : gI h 83 s = -1
          · rw [if_pos q] at hQ ⊢
            exact hQ
          · rw [if_neg q] at hQ ⊢
            exact ⟨vs, hQ⟩⟩
      rcases hs s m1 with ⟨z1, z2, z3⟩ | ⟨z1, i, z2, z3, z4⟩ | ⟨z1, q, z, z2, z3, z4, z5, z6, z7, z8, z9⟩
      · have z3 : gI h 83 s = -1 := z3
        simp only [↓e_isEmpty, shV_at m1, z1, z2, ↓reduceIte, ne10]
        refine ⟨b1, b2, b3, open_m _ ?_⟩
        rw [if_pos z3]
        unfold jX12_people_43
        simp only [rf_55_52, ln_83, nI_clamp (show s < 2 ^ 31 by omega), z3, ↓reduceIte]
        exact ⟨vs, hR h I⟩
      · have z4 : gI h 83 s = nI i := z4
        simp only [↓e_isEmpty, ↓e_isBook, shV_at m1, z1, z3, ↓reduceIte, if_neg (nm1 (show i < 2 ^ 31 by omega)), show ¬ (-1 : Int32) = 0 from by decide]
        refine ⟨b1, b2, b3, open_m _ ?_⟩
        rw [z4, if_neg (nm1 (by omega)), if_neg (show ¬ nI i = -2 from fun w => (nI_ne_neg (n := i) (m := 2) (by omega) (by omega) (by omega)).mp w)]
        exact fin rfl (hR h I)
      · have z5 : gI h 83 s = -nI (q + 2) := z5
        have z7 : gI h 84 s = nI z := z7
        by_cases q0 : q = 0
        · subst q0
          have z5 : gI h 83 s = -2 := z5
          simp only [↓e_isEmpty, ↓e_isBook, shV_at m1, z1, z4, ↓reduceIte, if_neg (nm1 (show 0 < 2 ^ 31 by omega)), show nI 0 = 0 from rfl, ne10]
          obtain ⟨p, hp, p1, p2, hq⟩ := id iP
          by_cases x0 : x2 < 0
          · refine c_neg x0 d1 d2 ⟨b1, b2, b3, open_m _ ?_⟩
            rw [z5, if_neg (by decide), if_pos rfl]
            unfold jX12_people_43
            simp only [rf_55_52, ln_83, nI_clamp (show s < 2 ^ 31 by omega), z5]
            refine ⟨vs, ?_⟩
            rw [if_neg (by decide)]
            exact m_neg x0 d1 d2 (fin rfl (hR h I))
          · obtain ⟨i, i1, rfl⟩ := nI_of x0
            apply c_come m1 z3 i1 d2 (by rw [shV_at m1]; exact z6) p1 hp
            intro h1 j hj g0 gj g1 g2 g3 g4 f1 f2
            refine ⟨b1, b2, b3, ?_⟩
            have a83 : gI h1 83 s = -2 := (f1 83 s (by decide) (by decide) (by decide) (fun q => absurd q (by decide))).trans z5
            unfold wX12_people
            simp only [↓e_mShelf, if_neg c, ne10, ↓reduceIte, ↓e_in, if_neg d, rf_55_52, ln_83, nI_clamp (show s < 2 ^ 31 by omega)]
            refine ⟨vs, ?_⟩
            rw [a83, if_neg (by decide)]
            refine ⟨vs, ?_⟩
            rw [if_pos rfl]
            unfold jX12_people_43
            simp only [rf_55_52, ln_83, nI_clamp (show s < 2 ^ 31 by omega), a83]
            refine ⟨vs, ?_⟩
            rw [if_neg (by decide)]
            apply m_come (p := p) (z := z) m1 z3 i1 d2 ((f1 84 s (by decide) (by decide) (by decide) (fun q => absurd q (by decide))).trans z7) ((f1 55 3 (by decide) (by decide) (by decide) (fun q => absurd q (by decide))).trans p2) hp rfl
            intro h2 j' hj' g0' gj' k1 k2 k3 k4 k5 l1 l2
            have eE : ∀ k, k < z → (fun k => gL h1 85 (60 * s + k)) k = shE h s k := fun k hk => (f2 85 (60 * s + k)).trans (z8 k hk)
            have ej : j = j' := by
              rcases Nat.lt_trichotomy j j' with q | q | q
              · rcases gj with gj | gj
                · omega
                · exact absurd ((good_eq eE).mp (g0' j q)) gj
              · exact q
              · rcases gj' with gj' | gj'
                · omega
                · exact absurd ((good_eq eE).mpr (g0 j' q)) gj'
            subst ej
            have pj : p + j ≤ 12 := by
              by_cases j0 : j = 0
              · omega
              · have := (g0 (j - 1) (by omega)).2.1
                omega
            have l4 : rI h2 4 = rI h1 4 := funext fun k => l1 4 k (by decide) (by decide) (by decide) (by decide) (fun q => absurd q (by decide))
            have l5 : rI h2 5 = rI h1 5 := funext fun k => l1 5 k (by decide) (by decide) (by decide) (by decide) (fun q => absurd q (by decide))
            have l6 : rI h2 6 = rI h1 6 := funext fun k => l1 6 k (by decide) (by decide) (by decide) (by decide) (fun q => absurd q (by decide))
            have o57 : rI h1 57 = rI h 57 := funext fun k => f1 57 k (by decide) (by decide) (by decide) (fun q => absurd q (by decide))
            have o58 : rI h1 58 = rI h 58 := funext fun k => f1 58 k (by decide) (by decide) (by decide) (fun q => absurd q (by decide))
            have o59 : rI h1 59 = rI h 59 := funext fun k => f1 59 k (by decide) (by decide) (by decide) (fun q => absurd q (by decide))
            have o60 : rI h1 60 = rI h 60 := funext fun k => f1 60 k (by decide) (by decide) (by decide) (fun q => absurd q (by decide))
            refine fin rfl (hR h2 (I.jp (fun a k hu hn => ?_) (fun a k _ => ?_) ?_ ?_ ?_ ?_))
            · obtain ⟨n1, n2, n3, n4, n5, n6, n7, n8, n9⟩ := hn
              rw [l1 a k n4 n5 n6 n7 (fun q q2 => n9 (by rw [q, q2])), f1 a k n1 n2 n3 (fun q q2 => n8 (by rw [q, q2]))]
            · rw [l2, f2]
            · rw [l1 3 3 (by decide) (by decide) (by decide) (by decide) (by decide), g1, k1, l4, g2, l5, g3, l6, g4, k2, k3, k4, o57, o58, o59]
              refine ⟨p + j, pj, rfl, rfl, fun k hk => ?_⟩
              unfold ad
              by_cases q : p ≤ k ∧ k < p + j
              · simp only [if_pos q]
                have hg := g0 (k - p) (by omega)
                obtain ⟨a, b, c, w1, w2, w3, w4, w5, w6, w7⟩ := fitsP_nat hg.2.2
                have hh := hg.1
                refine ⟨?_, ?_, ?_, a, b, c, w1, w2, w3, w4, w5, w6, w7⟩
                · unfold recE; rw [eE _ (by omega)]
                · unfold recE; rw [eE _ (by omega)]
                · unfold recE; rw [eE _ (by omega)]
              · simp only [if_neg q]
                exact hq k (by omega)
            · rw [l1 3 3 (by decide) (by decide) (by decide) (by decide) (by decide), g1, k5, o60]
              obtain ⟨r1, r2, r3, p', t, o, w, q0, q1, q2, q3, q4, q5, q6, q7, q8, q9, q10⟩ := iD
              have : p = p' := (nI_eq (by omega) (by omega)).mp (p1.symm.trans q1)
              subst this
              have hpw : 2 ^ p ≤ 2 ^ (p + j) := Nat.pow_le_pow_right (by omega) (by omega)
              refine ⟨r1, r2, r3, p + j, t, o, w, pj, rfl, q2, q3, q4, q5, by omega, by omega, q8, fun k hk => ?_, fun k hk hk2 => q10 k (by omega) hk2⟩
              unfold ad
              by_cases q : p ≤ k ∧ k < p + j
              · simp only [if_pos q]
                exact (q10 k (by omega) (by omega)).symm
              · simp only [if_neg q]
                exact q9 k (by omega)
            · rw [l1 3 3 (by decide) (by decide) (by decide) (by decide) (by decide), g1]
              rcases iI with iI | ⟨r1, r2, r3, r4, r5, p', q, t, o, w, q1, q2, q3, q4⟩
              · exact Or.inl iI
              · have : p = p' := (nI_eq (by omega) (by omega)).mp (p1.symm.trans q1)
                subst this
                exact Or.inr ⟨r1, r2, r3, r4, r5, p + j, q, t, o, w, rfl, by omega, pj, q4⟩
            · rw [l1 3 3 (by decide) (by decide) (by decide) (by decide) (by decide), g1, l4, g2]
              obtain ⟨g, p', d', s', q1, q2, q3, q4, q5, q6, q7, q8, q9, q10, q11⟩ := iC
              have : p = p' := (nI_eq (by omega) (by omega)).mp (p1.symm.trans q2)
              subst this
              refine ⟨g, p + j, d', s', q1, rfl, q3, pj, q5, q6, q7, q8, q9, q10, fun k hk => ?_⟩
              obtain ⟨z1, z2, z3, z4, z5, z6⟩ := q11 k hk
              have hl : ∀ i', i' < p → ad (rI h 4) p j (recE (shE h s) i 0) i' = rI h 4 i' := fun i' hi' => by unfold ad; rw [if_neg (by omega)]
              exact ⟨z1, z2, z3, z4, (z5.lr hl).grow (Nat.le_refl _) (by omega), (z6.lr hl).grow (Nat.le_refl _) (by omega)⟩
        · simp only [↓e_isEmpty, ↓e_isBook, shV_at m1, z1, z4, ↓reduceIte, if_neg (nm1 (show q < 2 ^ 31 by omega)), if_neg (nI_ne0 (show 0 < q by omega) (by omega))]
          refine ⟨b1, b2, b3, open_m _ ?_⟩
          rw [z5, if_neg (show ¬ -nI (q + 2) = -1 from ngne (n := q + 2) (m := 1) (by omega) (by omega) (by omega)), if_neg (show ¬ -nI (q + 2) = -2 from ngne (n := q + 2) (m := 2) (by omega) (by omega) (by omega))]
          exact fin rfl (hR h I)
