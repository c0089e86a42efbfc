/-! what the invariant reads, the day apart -/
def usd (a k : Nat) : Bool :=
  decide (a ∈ ([2, 56, 4, 5, 6, 57, 58, 59, 7, 65, 26, 80, 34, 35, 36, 37, 61, 62, 63, 64, 40, 41, 81, 82, 83, 84, 11, 12, 15, 16, 66, 67, 68, 69, 70, 73] : List Nat)) ||
  decide ((a, k) ∈ ([(1, 1), (3, 3), (0, 3), (0, 7), (25, 1), (25, 2), (25, 3), (33, 4), (33, 5), (39, 2), (39, 3), (10, 3), (10, 4), (14, 3), (14, 4), (55, 1), (55, 3), (55, 11), (55, 12), (55, 18), (55, 42), (55, 43), (55, 44), (55, 45), (55, 46), (55, 48), (55, 50)] : List (Nat × Nat))) ||
  (decide (43 ≤ a ∧ a ≤ 53 ∧ a % 2 = 1 ∧ 1 ≤ k ∧ k ≤ 3))
def usL (a : Nat) : Bool := decide (a = 85 ∨ (44 ≤ a ∧ a ≤ 54))
theorem Inv.jd {h h2 : Hp} (I : Inv h) (f : ∀ a k, usd a k = true → gI h2 a k = gI h a k) (fl : ∀ a k, usL a = true → gL h2 a k = gL h a k)
    (J : JD (gI h 3 3) (gI h2 23 1) (gI h2 23 2) (gI h2 23 3) (rI h2 24) (gI h2 55 7) (gI h2 55 8) (gI h2 55 9) (rI h2 60)) : Inv h2 := by
  have r : ∀ a, (∀ k, usd a k = true) → rI h2 a = rI h a := fun a ha => funext fun k => f a k (ha k)
  have rl : rL h2 85 = rL h 85 := funext fun k => fl 85 k rfl
  have sv : ∀ j, 1 ≤ j → j ≤ 3 → shV h2 j = shV h j := by
    intro j j1 j3
    funext s
    unfold shV
    by_cases hs : s < 6
    · rw [if_pos hs, if_pos hs]
      exact f _ _ (by unfold usd; rw [decide_eq_true (p := 43 ≤ 43 + 2 * s ∧ _) ⟨by omega, by omega, by omega, j1, j3⟩, Bool.or_true])
    · rw [if_neg hs, if_neg hs]
  have se : shE h2 = shE h := by
    funext s k
    unfold shE
    by_cases hs : s < 6
    · rw [if_pos hs, if_pos hs]
      exact fl _ _ (by unfold usL; exact decide_eq_true (Or.inr ⟨by omega, by omega⟩))
    · rw [if_neg hs, if_neg hs]
  obtain ⟨iG, iP, iD, iT, iI, iC, iB, iS, iL0, iL1⟩ := I
  unfold Inv
  rw [f 1 1 rfl, f 3 3 rfl, f 0 3 rfl, f 0 7 rfl, f 25 1 rfl, f 25 2 rfl, f 25 3 rfl, f 33 4 rfl, f 33 5 rfl, f 39 2 rfl, f 39 3 rfl, f 10 3 rfl, f 10 4 rfl, f 14 3 rfl, f 14 4 rfl, f 55 1 rfl, f 55 3 rfl, f 55 11 rfl, f 55 12 rfl, f 55 18 rfl, f 55 42 rfl, f 55 43 rfl, f 55 44 rfl, f 55 45 rfl, f 55 46 rfl, f 55 48 rfl, f 55 50 rfl,
    r 2 (fun _ => rfl), r 56 (fun _ => rfl), r 4 (fun _ => rfl), r 5 (fun _ => rfl), r 6 (fun _ => rfl), r 57 (fun _ => rfl), r 58 (fun _ => rfl), r 59 (fun _ => rfl), r 7 (fun _ => rfl), r 65 (fun _ => rfl), r 26 (fun _ => rfl), r 80 (fun _ => rfl), r 34 (fun _ => rfl), r 35 (fun _ => rfl), r 36 (fun _ => rfl), r 37 (fun _ => rfl), r 61 (fun _ => rfl), r 62 (fun _ => rfl), r 63 (fun _ => rfl), r 64 (fun _ => rfl), r 40 (fun _ => rfl), r 41 (fun _ => rfl), r 81 (fun _ => rfl), r 82 (fun _ => rfl), r 83 (fun _ => rfl), r 84 (fun _ => rfl), r 11 (fun _ => rfl), r 12 (fun _ => rfl), r 15 (fun _ => rfl), r 16 (fun _ => rfl), r 66 (fun _ => rfl), r 67 (fun _ => rfl), r 68 (fun _ => rfl), r 69 (fun _ => rfl), r 70 (fun _ => rfl), r 73 (fun _ => rfl), rl, sv 1 (by omega) (by omega), sv 2 (by omega) (by omega), sv 3 (by omega) (by omega), se]
  exact ⟨iG, iP, J, iT, iI, iC, iB, iS, iL0, iL1⟩
def usD (a k : Nat) : Bool := decide (a = 24 ∨ a = 60 ∨ (a = 23 ∧ (k = 1 ∨ k = 2 ∨ k = 3)) ∨ (a = 55 ∧ (k = 7 ∨ k = 8 ∨ k = 9)))
/-- nothing that the invariant reads has changed -/
theorem Inv.same {h h2 : Hp} (I : Inv h) (f : ∀ a k, usd a k = true ∨ usD a k = true → gI h2 a k = gI h a k) (fl : ∀ a k, usL a = true → gL h2 a k = gL h a k) : Inv h2 := by
  refine I.jd (fun a k q => f a k (Or.inl q)) fl ?_
  have r : ∀ a, (∀ k, usD a k = true) → rI h2 a = rI h a := fun a ha => funext fun k => f a k (Or.inr (ha k))
  rw [f 23 1 (Or.inr rfl), f 23 2 (Or.inr rfl), f 23 3 (Or.inr rfl), f 55 7 (Or.inr rfl), f 55 8 (Or.inr rfl), f 55 9 (Or.inr rfl), r 24 (fun _ => rfl), r 60 (fun _ => rfl)]
  exact I.2.2.1
theorem Inv.js {h h2 : Hp} (I : Inv h) (f : ∀ a k, usd a k = true ∨ usD a k = true → a ≠ 83 → a ≠ 84 → (a < 43 ∨ 54 < a) → gI h2 a k = gI h a k)
    (J : JS (gI h 39 2) (shV h2 1) (shV h2 2) (shV h2 3) (shE h2) (rI h2 83) (rI h2 84) (rL h2 85)) : Inv h2 := by
  have fu : ∀ a k, usd a k = true → a ≠ 83 ∧ a ≠ 84 ∧ (a < 43 ∨ 54 < a) → gI h2 a k = gI h a k := fun a k q1 q => f a k (Or.inl q1) q.1 q.2.1 q.2.2
  have fD : ∀ a k, usD a k = true → a ≠ 83 ∧ a ≠ 84 ∧ (a < 43 ∨ 54 < a) → gI h2 a k = gI h a k := fun a k q1 q => f a k (Or.inr q1) q.1 q.2.1 q.2.2
  have r : ∀ a, (∀ k, usd a k = true) → a ≠ 83 ∧ a ≠ 84 ∧ (a < 43 ∨ 54 < a) → rI h2 a = rI h a := fun a ha q => funext fun k => fu a k (ha k) q
  have rD : ∀ a, (∀ k, usD a k = true) → a ≠ 83 ∧ a ≠ 84 ∧ (a < 43 ∨ 54 < a) → rI h2 a = rI h a := fun a ha q => funext fun k => fD a k (ha k) q
  obtain ⟨iG, iP, iD, iT, iI, iC, iB, iS, iL0, iL1⟩ := I
  unfold Inv
  rw [fu 1 1 rfl (by decide), fu 3 3 rfl (by decide), fu 0 3 rfl (by decide), fu 0 7 rfl (by decide), fu 25 1 rfl (by decide), fu 25 2 rfl (by decide), fu 25 3 rfl (by decide), fu 33 4 rfl (by decide), fu 33 5 rfl (by decide), fu 39 2 rfl (by decide), fu 39 3 rfl (by decide), fu 10 3 rfl (by decide), fu 10 4 rfl (by decide), fu 14 3 rfl (by decide), fu 14 4 rfl (by decide), fu 55 1 rfl (by decide), fu 55 3 rfl (by decide), fu 55 11 rfl (by decide), fu 55 12 rfl (by decide), fu 55 18 rfl (by decide), fu 55 42 rfl (by decide), fu 55 43 rfl (by decide), fu 55 44 rfl (by decide), fu 55 45 rfl (by decide), fu 55 46 rfl (by decide), fu 55 48 rfl (by decide), fu 55 50 rfl (by decide),
    r 2 (fun _ => rfl) (by decide), r 56 (fun _ => rfl) (by decide), r 4 (fun _ => rfl) (by decide), r 5 (fun _ => rfl) (by decide), r 6 (fun _ => rfl) (by decide), r 57 (fun _ => rfl) (by decide), r 58 (fun _ => rfl) (by decide), r 59 (fun _ => rfl) (by decide), r 7 (fun _ => rfl) (by decide), r 65 (fun _ => rfl) (by decide), r 26 (fun _ => rfl) (by decide), r 80 (fun _ => rfl) (by decide), r 34 (fun _ => rfl) (by decide), r 35 (fun _ => rfl) (by decide), r 36 (fun _ => rfl) (by decide), r 37 (fun _ => rfl) (by decide), r 61 (fun _ => rfl) (by decide), r 62 (fun _ => rfl) (by decide), r 63 (fun _ => rfl) (by decide), r 64 (fun _ => rfl) (by decide), r 40 (fun _ => rfl) (by decide), r 41 (fun _ => rfl) (by decide), r 81 (fun _ => rfl) (by decide), r 82 (fun _ => rfl) (by decide), r 11 (fun _ => rfl) (by decide), r 12 (fun _ => rfl) (by decide), r 15 (fun _ => rfl) (by decide), r 16 (fun _ => rfl) (by decide), r 66 (fun _ => rfl) (by decide), r 67 (fun _ => rfl) (by decide), r 68 (fun _ => rfl) (by decide), r 69 (fun _ => rfl) (by decide), r 70 (fun _ => rfl) (by decide), r 73 (fun _ => rfl) (by decide), fD 23 1 rfl (by decide), fD 23 2 rfl (by decide), fD 23 3 rfl (by decide), fD 55 7 rfl (by decide), fD 55 8 rfl (by decide), fD 55 9 rfl (by decide), rD 24 (fun _ => rfl) (by decide), rD 60 (fun _ => rfl) (by decide)]
  exact ⟨iG, iP, iD, iT, iI, iC, iB, J, iL0, iL1⟩
theorem Inv.jp {h h2 : Hp} (I : Inv h) (f : ∀ a k, usd a k = true ∨ usD a k = true → a ≠ 4 ∧ a ≠ 5 ∧ a ≠ 6 ∧ a ≠ 57 ∧ a ≠ 58 ∧ a ≠ 59 ∧ a ≠ 60 ∧ (a, k) ≠ (3, 3) ∧ (a, k) ≠ (55, 3) → gI h2 a k = gI h a k) (fl : ∀ a k, usL a = true → gL h2 a k = gL h a k)
    (jP : JP (gI h2 3 3) (rI h2 4) (rI h2 5) (rI h2 6) (gI h2 55 3) (rI h2 57) (rI h2 58) (rI h2 59))
    (jD : JD (gI h2 3 3) (gI h 23 1) (gI h 23 2) (gI h 23 3) (rI h 24) (gI h 55 7) (gI h 55 8) (gI h 55 9) (rI h2 60))
    (jI : JI (gI h2 3 3) (gI h 0 7) (gI h 25 1) (gI h 25 2) (gI h 25 3) (rI h 26) (gI h 55 42) (gI h 55 43) (gI h 55 44) (gI h 55 45) (gI h 55 46) (rI h 80))
    (jC : JC (gI h 1 1) (gI h2 3 3) (rI h2 4) (gI h 33 4) (gI h 33 5) (rI h 34) (rI h 35) (rI h 36) (rI h 37) (gI h 55 11) (gI h 55 12) (rI h 61) (rI h 62) (rI h 63) (rI h 64)) : Inv h2 := by
  have ff : ∀ a k, usd a k = true ∨ usD a k = true → a ≠ 4 ∧ a ≠ 5 ∧ a ≠ 6 ∧ a ≠ 57 ∧ a ≠ 58 ∧ a ≠ 59 ∧ a ≠ 60 ∧ a ≠ 3 ∧ a ≠ 55 → gI h2 a k = gI h a k := fun a k q1 q2 => f a k q1 ⟨q2.1, q2.2.1, q2.2.2.1, q2.2.2.2.1, q2.2.2.2.2.1, q2.2.2.2.2.2.1, q2.2.2.2.2.2.2.1, fun e => q2.2.2.2.2.2.2.2.1 (congrArg Prod.fst e), fun e => q2.2.2.2.2.2.2.2.2 (congrArg Prod.fst e)⟩
  have r : ∀ a, (∀ k, usd a k = true ∨ usD a k = true) → a ≠ 4 ∧ a ≠ 5 ∧ a ≠ 6 ∧ a ≠ 57 ∧ a ≠ 58 ∧ a ≠ 59 ∧ a ≠ 60 ∧ a ≠ 3 ∧ a ≠ 55 → rI h2 a = rI h a := fun a ha q => funext fun k => ff a k (ha k) q
  have rl : rL h2 85 = rL h 85 := funext fun k => fl 85 k rfl
  have sv : ∀ j, 1 ≤ j → j ≤ 3 → shV h2 j = shV h j := by
    intro j j1 j3
    funext s
    unfold shV
    by_cases hs : s < 6
    · rw [if_pos hs, if_pos hs]
      refine ff _ _ (Or.inl ?_) ⟨by omega, by omega, by omega, by omega, by omega, by omega, by omega, by omega, by omega⟩
      unfold usd
      rw [decide_eq_true (p := 43 ≤ 43 + 2 * s ∧ _) ⟨by omega, by omega, by omega, j1, j3⟩, Bool.or_true]
    · rw [if_neg hs, if_neg hs]
  have se : shE h2 = shE h := by
    funext s k
    unfold shE
    by_cases hs : s < 6
    · rw [if_pos hs, if_pos hs]
      exact fl _ _ (by unfold usL; exact decide_eq_true (Or.inr ⟨by omega, by omega⟩))
    · rw [if_neg hs, if_neg hs]
  obtain ⟨iG, iP, iD, iT, iI, iC, iB, iS, iL0, iL1⟩ := I
  unfold Inv
  rw [f 1 1 (Or.inl rfl) (by decide), f 0 3 (Or.inl rfl) (by decide), f 0 7 (Or.inl rfl) (by decide), f 25 1 (Or.inl rfl) (by decide), f 25 2 (Or.inl rfl) (by decide), f 25 3 (Or.inl rfl) (by decide), f 33 4 (Or.inl rfl) (by decide), f 33 5 (Or.inl rfl) (by decide), f 39 2 (Or.inl rfl) (by decide), f 39 3 (Or.inl rfl) (by decide), f 10 3 (Or.inl rfl) (by decide), f 10 4 (Or.inl rfl) (by decide), f 14 3 (Or.inl rfl) (by decide), f 14 4 (Or.inl rfl) (by decide), f 55 1 (Or.inl rfl) (by decide), f 55 11 (Or.inl rfl) (by decide), f 55 12 (Or.inl rfl) (by decide), f 55 18 (Or.inl rfl) (by decide), f 55 42 (Or.inl rfl) (by decide), f 55 43 (Or.inl rfl) (by decide), f 55 44 (Or.inl rfl) (by decide), f 55 45 (Or.inl rfl) (by decide), f 55 46 (Or.inl rfl) (by decide), f 55 48 (Or.inl rfl) (by decide), f 55 50 (Or.inl rfl) (by decide),
    r 2 (fun _ => Or.inl rfl) (by decide), r 56 (fun _ => Or.inl rfl) (by decide), r 7 (fun _ => Or.inl rfl) (by decide), r 65 (fun _ => Or.inl rfl) (by decide), r 26 (fun _ => Or.inl rfl) (by decide), r 80 (fun _ => Or.inl rfl) (by decide), r 34 (fun _ => Or.inl rfl) (by decide), r 35 (fun _ => Or.inl rfl) (by decide), r 36 (fun _ => Or.inl rfl) (by decide), r 37 (fun _ => Or.inl rfl) (by decide), r 61 (fun _ => Or.inl rfl) (by decide), r 62 (fun _ => Or.inl rfl) (by decide), r 63 (fun _ => Or.inl rfl) (by decide), r 64 (fun _ => Or.inl rfl) (by decide), r 40 (fun _ => Or.inl rfl) (by decide), r 41 (fun _ => Or.inl rfl) (by decide), r 81 (fun _ => Or.inl rfl) (by decide), r 82 (fun _ => Or.inl rfl) (by decide), r 83 (fun _ => Or.inl rfl) (by decide), r 84 (fun _ => Or.inl rfl) (by decide), r 11 (fun _ => Or.inl rfl) (by decide), r 12 (fun _ => Or.inl rfl) (by decide), r 15 (fun _ => Or.inl rfl) (by decide), r 16 (fun _ => Or.inl rfl) (by decide), r 66 (fun _ => Or.inl rfl) (by decide), r 67 (fun _ => Or.inl rfl) (by decide), r 68 (fun _ => Or.inl rfl) (by decide), r 69 (fun _ => Or.inl rfl) (by decide), r 70 (fun _ => Or.inl rfl) (by decide), r 73 (fun _ => Or.inl rfl) (by decide), f 23 1 (Or.inr rfl) (by decide), f 23 2 (Or.inr rfl) (by decide), f 23 3 (Or.inr rfl) (by decide), f 55 7 (Or.inr rfl) (by decide), f 55 8 (Or.inr rfl) (by decide), f 55 9 (Or.inr rfl) (by decide), r 24 (fun _ => Or.inr rfl) (by decide), rl, sv 1 (by omega) (by omega), sv 2 (by omega) (by omega), sv 3 (by omega) (by omega), se]
  exact ⟨iG, jP, jD, iT, jI, jC, iB, iS, iL0, iL1⟩
-- tick
set_option maxRecDepth 20000 in
set_option maxHeartbeats 1000000 in
theorem ok_tick {h : Hp} (I : Inv h) (x1 : Int32) {A1 : Prop} (b1 : A1) {R : Hp → Prop} {Q0 : Prop} (hR : ∀ h', Inv h' → R h') : wX11_tick 0 x1 h (fun v h1 => A1 ∧ (wX12_tick 55 x1 h1 (fun v' h2 => if v = v' then R h2 else Q0))) := by
  obtain ⟨iG, iP, iD, iT, iI, iC, iB, iS, iL0, iL1⟩ := id I
  obtain ⟨r1, r2, r3, p, t, o, w, q0, q1, q2, q3, q4, q5, q6, q7, q8, q9, q10⟩ := id iD
  obtain ⟨p', P⟩ := I.people
  have : p = p' := (nI_eq (by omega) (by have := P.1; omega)).mp (q1.symm.trans P.2.1)
  subst this
  have h2 := p12 q0
  simp only [wX11_tick, wX12_tick, e_in, e_isTime, e_mTime, e_isShelf, e_mShelf, e_isKind, e_isNumber, e_gHas, e_pHas, e_bHas, e_isRow, e_isBook, e_isEmpty, rf_0_0, rf_0_1, rf_0_2, rf_0_4, rf_0_5, rf_0_6, rf_0_8, rf_0_9, rf_0_10, rf_0_11, rf_0_12, rf_0_13, rf_1_0, rf_3_0, rf_3_1, rf_3_2, rf_8_0, rf_8_1, rf_8_2, rf_8_3, rf_10_0, rf_10_1, rf_10_2, rf_14_0, rf_14_1, rf_14_2, rf_18_0, rf_18_1, rf_19_0, rf_19_1, rf_19_2, rf_23_0, rf_25_0, rf_27_0, rf_27_1, rf_27_2, rf_27_3, rf_27_4, rf_30_0, rf_30_1, rf_30_2, rf_30_3, rf_30_4, rf_33_0, rf_33_1, rf_33_2, rf_33_3, rf_39_0, rf_39_1, rf_42_0, rf_42_1, rf_42_2, rf_42_3, rf_42_4, rf_42_5, rf_43_0, rf_45_0, rf_47_0, rf_49_0, rf_51_0, rf_53_0, rf_55_2, rf_55_4, rf_55_5, rf_55_6, rf_55_10, rf_55_13, rf_55_14, rf_55_15, rf_55_16, rf_55_17, rf_55_23, rf_55_24, rf_55_25, rf_55_26, rf_55_27, rf_55_28, rf_55_29, rf_55_30, rf_55_31, rf_55_32, rf_55_37, rf_55_38, rf_55_39, rf_55_40, rf_55_47, rf_55_49, rf_55_51, rf_55_52, rf_55_53, rf_55_54, rf_55_55, ln_2, ln_4, ln_5, ln_6, ln_7, ln_9, ln_11, ln_12, ln_13, ln_15, ln_16, ln_17, ln_20, ln_21, ln_22, ln_24, ln_26, ln_28, ln_29, ln_31, ln_32, ln_34, ln_35, ln_36, ln_37, ln_38, ln_40, ln_41, ln_42, ln_44, ln_46, ln_48, ln_50, ln_52, ln_54, ln_56, ln_57, ln_58, ln_59, ln_60, ln_61, ln_62, ln_63, ln_64, ln_65, ln_66, ln_67, ln_68, ln_69, ln_70, ln_71, ln_72, ln_73, ln_74, ln_75, ln_76, ln_77, ln_78, ln_79, ln_80, ln_81, ln_82, ln_83, ln_84, ln_85, ln_86]
  rcases bd x1 1 60 (l := 1) (u := 60) rfl rfl (by omega) (by omega) with c | ⟨n, m1, m2, rfl, c⟩
  · by_cases c0 : x1 < 1
    · simp only [if_pos c0, if_pos c, ↓reduceIte, ne10]
      exact ⟨b1, hR h I⟩
    · have c1 : 60 < x1 := c.resolve_left c0
      simp only [if_neg c0, if_neg (Int32.not_le.mpr c1), if_pos c, ↓reduceIte, ne10]
      exact ⟨b1, hR h I⟩
  · simp only [if_neg c, ↓reduceIte, ne10, r1, q2]
    rw [if_neg (show ¬ nI n < 1 from fun q => c (Or.inl q)), if_pos (nl (show ¬ (60 : Int32) < nI n from fun q => c (Or.inr q)))]
    by_cases d : t + n ≤ 60
    · rw [if_pos (show nI t + nI n ≤ 60 by simp (disch := omega) only [lit, nI_ltI, nI_leI, nI_eq, nI_clamp, nI_add, vp_nI, nI_ne_neg, neg_ne_nI, pk_sub, pk_mul, pk_div, Nat.reduceAdd, Nat.reduceMul, Nat.reducePow, e_mn, e_mx, e_rm, lt_t, lt_f, le_t, le_f, eq_f, eq_t, ↓reduceIte, true_and, and_true, and_false, false_and, and_self, or_true, or_false, true_or, false_or, not_true, not_false_iff])]
      apply c_ticks P d q2 q3 q4 q6 q8
      intro h1 f1 f2 f3 f4
      refine ⟨b1, ?_⟩
      rw [f1 55 7 (by decide) (by decide), r1, q2, if_pos (show nI t + nI n ≤ 60 by simp (disch := omega) only [lit, nI_ltI, nI_leI, nI_eq, nI_clamp, nI_add, vp_nI, nI_ne_neg, neg_ne_nI, pk_sub, pk_mul, pk_div, Nat.reduceAdd, Nat.reduceMul, Nat.reducePow, e_mn, e_mx, e_rm, lt_t, lt_f, le_t, le_f, eq_f, eq_t, ↓reduceIte, true_and, and_true, and_false, false_and, and_self, or_true, or_false, true_or, false_or, not_true, not_false_iff])]
      have R1 : ∀ a, a ≠ 24 → a ≠ 23 → rI h1 a = rI h a := fun a h1 h3 => funext fun k => f1 a k h1 (fun q => absurd q h3)
      have P1 : PN h1 p := P.kept (f1 _ _ (by decide) (by decide)) (f1 _ _ (by decide) (by decide)) (R1 _ (by decide) (by decide)) (R1 _ (by decide) (by decide)) (R1 _ (by decide) (by decide)) (R1 _ (by decide) (by decide)) (R1 _ (by decide) (by decide)) (R1 _ (by decide) (by decide))
      apply m_ticks P1 d (by rw [f1 _ _ (by decide) (by decide), r1]; exact q2) (by rw [f1 _ _ (by decide) (by decide), r2]; exact q3) (by rw [f1 _ _ (by decide) (by decide), r3]; exact q4) (by omega) (by omega)
      intro h2 k1 k2 k3 k4
      refine fin rfl (hR h2 (I.jd (fun a k hu => ?_) (fun a k _ => ?_) ?_))
      · rw [k1 a k (by rintro rfl; simp [usd] at hu) (by rintro rfl rfl; simp [usd] at hu), f1 a k (by rintro rfl; simp [usd] at hu) (by rintro rfl rfl; simp [usd] at hu)]
      · rw [k2, f2]
      · have ex : ∀ a, a ≠ 24 → a ≠ 60 → a ≠ 23 → a ≠ 55 → rI h2 a = rI h a := fun a z1 z2 z3 z4 => funext fun k => (k1 a k z2 (fun q => absurd q z4)).trans (f1 a k z1 (fun q => absurd q z3))
        have e24 : rI h2 24 = rI h1 24 := funext fun k => k1 24 k (by decide) (fun q => absurd q (by decide))
        have e60 : rI h1 60 = rI h 60 := R1 60 (by decide) (by decide)
        have e59 : rI h1 59 = rI h 59 := R1 59 (by decide) (by decide)
        have eW : (fun j => Wt h1 p (t + j) o w) = (fun j => Wt h p (t + j) o w) := funext fun j => Wt_kept (R1 4 (by decide) (by decide)) (R1 5 (by decide) (by decide)) p (t + j) o w
        rw [k3, k4, e24, f4, e60, e59, eW, k1 23 1 (by decide) (by decide), f3, k1 23 2 (by decide) (by decide), f1 23 2 (by decide) (by decide), k1 23 3 (by decide) (by decide), f1 23 3 (by decide) (by decide), k1 55 8 (by decide) (by decide), f1 55 8 (by decide) (by decide), k1 55 9 (by decide) (by decide), f1 55 9 (by decide) (by decide)]
        refine ⟨rfl, r2, r3, p, t + n, o, w, q0, q1, rfl, q3, q4, d, q6, q7, q8, fun k hk => ?_, fun k hk hk2 => ?_⟩
        · exact payJ_eq (fun k hk => by obtain ⟨y1, y2, y3, y4, y5, y6, y7⟩ := P.2.2.2 k hk; exact y6.trans y3.symm) q9 hk n
        · rw [payJ_hi hk]
          exact q10 k hk hk2
    · rw [if_neg (show ¬ nI t + nI n ≤ 60 by simp (disch := omega) only [lit, nI_ltI, nI_leI, nI_eq, nI_clamp, nI_add, vp_nI, nI_ne_neg, neg_ne_nI, pk_sub, pk_mul, pk_div, Nat.reduceAdd, Nat.reduceMul, Nat.reducePow, e_mn, e_mx, e_rm, lt_t, lt_f, le_t, le_f, eq_f, eq_t, ↓reduceIte, true_and, and_true, and_false, false_and, and_self, or_true, or_false, true_or, false_or, not_true, not_false_iff]), if_neg (show ¬ nI t + nI n ≤ 60 by simp (disch := omega) only [lit, nI_ltI, nI_leI, nI_eq, nI_clamp, nI_add, vp_nI, nI_ne_neg, neg_ne_nI, pk_sub, pk_mul, pk_div, Nat.reduceAdd, Nat.reduceMul, Nat.reducePow, e_mn, e_mx, e_rm, lt_t, lt_f, le_t, le_f, eq_f, eq_t, ↓reduceIte, true_and, and_true, and_false, false_and, and_self, or_true, or_false, true_or, false_or, not_true, not_false_iff])]
      exact ⟨b1, hR h I⟩
