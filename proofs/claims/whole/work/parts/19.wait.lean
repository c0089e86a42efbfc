theorem fin {c : Prop} {d : Decidable c} {R Q0 : Prop} (e : c) (r : R) : @ite Prop c d R Q0 := by rw [if_pos e]; exact r
def tn (f : Nat → Int32) : Nat → Nat := fun k => (f k).toNatClampNeg
theorem tn_nI {f : Nat → Int32} {k a : Nat} (h : f k = nI a) (ha : a < 2 ^ 31) : f k = nI (tn f k) ∧ tn f k = a := by
  have : tn f k = a := by unfold tn; rw [h, nI_clamp ha]
  exact ⟨by rw [this]; exact h, this⟩
/-- the people of a world as numbers -/
def PN (h : Hp) (p : Nat) : Prop := p ≤ 12 ∧ gI h 3 3 = nI p ∧ gI h 55 3 = nI p ∧ ∀ k, k < p → gI h 4 k = nI (tn (rI h 4) k) ∧ gI h 5 k = nI (tn (rI h 5) k) ∧ gI h 6 k = nI (tn (rI h 6) k) ∧ gI h 57 k = nI (tn (rI h 4) k) ∧ gI h 58 k = nI (tn (rI h 5) k) ∧ gI h 59 k = nI (tn (rI h 6) k) ∧ tn (rI h 4) k < tn (rI h 5) k ∧ tn (rI h 5) k ≤ 60 ∧ 1 ≤ tn (rI h 6) k ∧ tn (rI h 6) k ≤ 9
theorem Inv.people {h : Hp} (I : Inv h) : ∃ p, PN h p := by
  obtain ⟨p, hp, e1, e2, hq⟩ := I.2.1
  refine ⟨p, hp, e1, e2, fun k hk => ?_⟩
  obtain ⟨y1, y2, y3, a, b, c, y4, y5, y6, y7, y8, y9, y10⟩ := hq k hk
  obtain ⟨z1, z2⟩ := tn_nI y4 (by omega)
  obtain ⟨z3, z4⟩ := tn_nI y5 (by omega)
  obtain ⟨z5, z6⟩ := tn_nI y6 (by omega)
  exact ⟨z1, z3, z5, y1.trans z1, y2.trans z3, y3.trans z5, by omega, by omega, by omega, by omega⟩
/-- whether one waits -/
def wts (l r : Nat → Nat) (t o w k : Nat) : Bool := if o.testBit k then decide (r k ≤ t) else (!w.testBit k && decide (l k ≤ t))
abbrev hL (h : Hp) : Nat → Nat := tn (rI h 4)
abbrev hRt (h : Hp) : Nat → Nat := tn (rI h 5)
abbrev hC (h : Hp) : Nat → Nat := tn (rI h 6)
theorem c_wOut {h : Hp} {p t w : Nat} (P : PN h p) (ht : t ≤ 60) {Q : Int32 → Prop} (hQ : Q (nI (anot (setB (fun k => decide (hL h k ≤ t)) p) w))) : wX8_waitingOut 3 (nI t) (nI w) h Q := by
  obtain ⟨hp, e1, e2, hq⟩ := P
  unfold wX8_waitingOut
  rw [show rf 3 0 = 4 from rfl]
  apply c_dueBy (tm := hL h) hp e1 rfl (by omega) (fun k hk => ⟨(hq k hk).1, by have := hq k hk; show tn (rI h 4) k < 2 ^ 31; omega⟩)
  have := setB_lt (fun k => decide (hL h k ≤ t)) p
  have h2 := p12 hp
  rw [anot_nI (by omega)]
  exact hQ
theorem c_wIn {h : Hp} {p t o : Nat} (P : PN h p) (ht : t ≤ 60) (ho : o < 2 ^ 31) {Q : Int32 → Prop} (hQ : Q (nI (setB (fun k => decide (hRt h k ≤ t)) p &&& o))) : wX8_waitingIn 3 (nI t) (nI o) h Q := by
  obtain ⟨hp, e1, e2, hq⟩ := P
  unfold wX8_waitingIn
  by_cases c : o = 0
  · subst c
    rw [if_pos (show nI 0 = 0 from rfl)]
    rw [Nat.and_zero] at hQ
    exact hQ
  · rw [if_neg (nI_ne0 (by omega) ho), show rf 3 1 = 5 from rfl]
    apply c_dueBy (tm := hRt h) hp e1 rfl (by omega) (fun k hk => ⟨(hq k hk).2.1, by have := hq k hk; show tn (rI h 5) k < 2 ^ 31; omega⟩)
    rw [nI_and]
    exact hQ
/-- who waits, as a set -/
def Wt (h : Hp) (p t o w : Nat) : Nat := setB (wts (hL h) (hRt h) t o w) p
theorem Wt_eq {h : Hp} {p t o w : Nat} (hp : p ≤ 12) (ho : o < 2 ^ p) (how : o &&& w = o) : anot (setB (fun k => decide (hL h k ≤ t)) p) w ||| (setB (fun k => decide (hRt h k ≤ t)) p &&& o) = Wt h p t o w := by
  apply nat_ext
  intro i
  have := setB_lt (fun k => decide (hL h k ≤ t)) p
  have h2 := p12 hp
  unfold Wt
  rw [Nat.testBit_or, anot_bit (by omega), Nat.testBit_and, setB_bit, setB_bit, setB_bit]
  unfold wts
  have hb : o.testBit i = true → w.testBit i = true := by
    intro q
    have : (o &&& w).testBit i = true := by rw [how]; exact q
    rw [Nat.testBit_and, q] at this
    simpa using this
  by_cases hi : i < p
  · cases h1 : o.testBit i
    · cases w.testBit i <;> simp [hi]
    · rw [hb h1]; simp [hi]
  · simp [hi]
theorem c_waitingNow {h : Hp} {p t o w : Nat} (P : PN h p) (ht : t ≤ 60) (e1 : gI h 23 1 = nI t) (e2 : gI h 23 2 = nI o) (e3 : gI h 23 3 = nI w) (ho : o < 2 ^ p) (how : o &&& w = o) {Q : Int32 → Prop} (hQ : Q (nI (Wt h p t o w))) : wX11_waitingNow 0 h Q := by
  unfold wX11_waitingNow
  simp only [rf_0_0, rf_0_1, rf_0_2, rf_0_4, rf_0_5, rf_0_6, rf_0_8, rf_0_9, rf_0_10, rf_0_11, rf_0_12, rf_0_13, rf_1_0, rf_3_0, rf_3_1, rf_3_2, rf_8_0, rf_8_1, rf_8_2, rf_8_3, rf_10_0, rf_10_1, rf_10_2, rf_14_0, rf_14_1, rf_14_2, rf_18_0, rf_18_1, rf_19_0, rf_19_1, rf_19_2, rf_23_0, rf_25_0, rf_27_0, rf_27_1, rf_27_2, rf_27_3, rf_27_4, rf_30_0, rf_30_1, rf_30_2, rf_30_3, rf_30_4, rf_33_0, rf_33_1, rf_33_2, rf_33_3, rf_39_0, rf_39_1, rf_42_0, rf_42_1, rf_42_2, rf_42_3, rf_42_4, rf_42_5, rf_43_0, rf_45_0, rf_47_0, rf_49_0, rf_51_0, rf_53_0, rf_55_2, rf_55_4, rf_55_5, rf_55_6, rf_55_10, rf_55_13, rf_55_14, rf_55_15, rf_55_16, rf_55_17, rf_55_23, rf_55_24, rf_55_25, rf_55_26, rf_55_27, rf_55_28, rf_55_29, rf_55_30, rf_55_31, rf_55_32, rf_55_37, rf_55_38, rf_55_39, rf_55_40, rf_55_47, rf_55_49, rf_55_51, rf_55_52, rf_55_53, rf_55_54, rf_55_55, ln_2, ln_4, ln_5, ln_6, ln_7, ln_9, ln_11, ln_12, ln_13, ln_15, ln_16, ln_17, ln_20, ln_21, ln_22, ln_24, ln_26, ln_28, ln_29, ln_31, ln_32, ln_34, ln_35, ln_36, ln_37, ln_38, ln_40, ln_41, ln_42, ln_44, ln_46, ln_48, ln_50, ln_52, ln_54, ln_56, ln_57, ln_58, ln_59, ln_60, ln_61, ln_62, ln_63, ln_64, ln_65, ln_66, ln_67, ln_68, ln_69, ln_70, ln_71, ln_72, ln_73, ln_74, ln_75, ln_76, ln_77, ln_78, ln_79, ln_80, ln_81, ln_82, ln_83, ln_84, ln_85, ln_86, e1, e2, e3]
  have h2 := p12 P.1
  apply c_wOut P ht
  apply c_wIn P ht (by omega)
  rw [nI_or, Wt_eq P.1 ho how]
  exact hQ
theorem m_waitsIn {h : Hp} {p t o w k : Nat} (P : PN h p) (ht : t ≤ 60) (ho : o < 4096) (hw : w < 4096) (hk : k < p) {Q : Int32 → Prop} (hQ : Q (if wts (hL h) (hRt h) t o w k then 1 else 0)) : wX12_waitsIn 55 (nI k) (nI t) (nI o) (nI w) h Q := by
  obtain ⟨hp, e1, e2, hq⟩ := P
  obtain ⟨y1, y2, y3, y4, y5, y6, y7, y8, y9, y10⟩ := hq k hk
  unfold wX12_waitsIn
  rw [bit_nI (by omega) (by omega), bit_nI (by omega) (by omega)]
  simp (disch := omega) only [rf_0_0, rf_0_1, rf_0_2, rf_0_4, rf_0_5, rf_0_6, rf_0_8, rf_0_9, rf_0_10, rf_0_11, rf_0_12, rf_0_13, rf_1_0, rf_3_0, rf_3_1, rf_3_2, rf_8_0, rf_8_1, rf_8_2, rf_8_3, rf_10_0, rf_10_1, rf_10_2, rf_14_0, rf_14_1, rf_14_2, rf_18_0, rf_18_1, rf_19_0, rf_19_1, rf_19_2, rf_23_0, rf_25_0, rf_27_0, rf_27_1, rf_27_2, rf_27_3, rf_27_4, rf_30_0, rf_30_1, rf_30_2, rf_30_3, rf_30_4, rf_33_0, rf_33_1, rf_33_2, rf_33_3, rf_39_0, rf_39_1, rf_42_0, rf_42_1, rf_42_2, rf_42_3, rf_42_4, rf_42_5, rf_43_0, rf_45_0, rf_47_0, rf_49_0, rf_51_0, rf_53_0, rf_55_2, rf_55_4, rf_55_5, rf_55_6, rf_55_10, rf_55_13, rf_55_14, rf_55_15, rf_55_16, rf_55_17, rf_55_23, rf_55_24, rf_55_25, rf_55_26, rf_55_27, rf_55_28, rf_55_29, rf_55_30, rf_55_31, rf_55_32, rf_55_37, rf_55_38, rf_55_39, rf_55_40, rf_55_47, rf_55_49, rf_55_51, rf_55_52, rf_55_53, rf_55_54, rf_55_55, ln_2, ln_4, ln_5, ln_6, ln_7, ln_9, ln_11, ln_12, ln_13, ln_15, ln_16, ln_17, ln_20, ln_21, ln_22, ln_24, ln_26, ln_28, ln_29, ln_31, ln_32, ln_34, ln_35, ln_36, ln_37, ln_38, ln_40, ln_41, ln_42, ln_44, ln_46, ln_48, ln_50, ln_52, ln_54, ln_56, ln_57, ln_58, ln_59, ln_60, ln_61, ln_62, ln_63, ln_64, ln_65, ln_66, ln_67, ln_68, ln_69, ln_70, ln_71, ln_72, ln_73, ln_74, ln_75, ln_76, ln_77, ln_78, ln_79, ln_80, ln_81, ln_82, ln_83, ln_84, ln_85, ln_86, nI_clamp, vp_nI, y4, y5, show k < 12 by omega, true_and]
  unfold wts at hQ
  cases h1 : o.testBit k
  · simp only [h1, Bool.false_eq_true, ↓reduceIte] at hQ ⊢
    rw [if_neg (by decide)]
    cases h2 : w.testBit k
    · simp only [h2, Bool.false_eq_true, ↓reduceIte, Bool.not_false, Bool.true_and, decide_eq_true_eq] at hQ ⊢
      by_cases c : tn (rI h 4) k ≤ t
      · rw [if_neg (nI_nlt c (by omega))]
        rw [if_pos c] at hQ
        exact hQ
      · rw [if_pos (nI_lt (by omega) (by omega))]
        rw [if_neg c] at hQ
        exact hQ
    · simp only [h2, Bool.not_true, Bool.false_and, Bool.false_eq_true, ↓reduceIte, ne10] at hQ ⊢
      exact hQ
  · simp only [h1, ↓reduceIte, decide_eq_true_eq] at hQ ⊢
    by_cases c : tn (rI h 5) k ≤ t
    · rw [if_neg (nI_nlt c (by omega))]
      rw [if_pos c] at hQ
      exact hQ
    · rw [if_pos (nI_lt (by omega) (by omega))]
      rw [if_neg c] at hQ
      exact hQ
-- count
set_option maxRecDepth 20000 in
set_option maxHeartbeats 1000000 in
theorem ok_count {h : Hp} (I : Inv h) (x1 : Int32) {A1 : Prop} (b1 : A1) {R : Hp → Prop} {Q0 : Prop} (hR : ∀ h', Inv h' → R h') : wX11_count 0 x1 h (fun v => A1 ∧ (wX12_count 55 x1 h (fun v' => if v = v' then R h else Q0))) := by
  obtain ⟨iG, iP, iD, iT, iI, iC, iB, iS, iL0, iL1⟩ := id I
  obtain ⟨g, hg, e1, e2, hr⟩ := id iG
  obtain ⟨r1, r2, r3, p, t, o, w, q0, q1, q2, q3, q4, q5, q6, q7, q8, q9, q10⟩ := id iD
  obtain ⟨p', P⟩ := I.people
  have : p = p' := (nI_eq (by omega) (by have := P.1; omega)).mp (q1.symm.trans P.2.1)
  subst this
  obtain ⟨n, hn, t1, t2, ht⟩ := id iT
  obtain ⟨g', p', d, s, u1, u2, u3, u4, u5, u6, u7, u8, u9, u10, u11⟩ := id iC
  obtain ⟨n', r, v1, v2, v3, v4, v5, v6, v7, v8⟩ := id iB
  have h2 := p12 q0
  unfold wX11_count wX12_count
  simp only [rf_0_0, rf_0_1, rf_0_2, rf_0_4, rf_0_5, rf_0_6, rf_0_8, rf_0_9, rf_0_10, rf_0_11, rf_0_12, rf_0_13, rf_1_0, rf_3_0, rf_3_1, rf_3_2, rf_8_0, rf_8_1, rf_8_2, rf_8_3, rf_10_0, rf_10_1, rf_10_2, rf_14_0, rf_14_1, rf_14_2, rf_18_0, rf_18_1, rf_19_0, rf_19_1, rf_19_2, rf_23_0, rf_25_0, rf_27_0, rf_27_1, rf_27_2, rf_27_3, rf_27_4, rf_30_0, rf_30_1, rf_30_2, rf_30_3, rf_30_4, rf_33_0, rf_33_1, rf_33_2, rf_33_3, rf_39_0, rf_39_1, rf_42_0, rf_42_1, rf_42_2, rf_42_3, rf_42_4, rf_42_5, rf_43_0, rf_45_0, rf_47_0, rf_49_0, rf_51_0, rf_53_0, rf_55_2, rf_55_4, rf_55_5, rf_55_6, rf_55_10, rf_55_13, rf_55_14, rf_55_15, rf_55_16, rf_55_17, rf_55_23, rf_55_24, rf_55_25, rf_55_26, rf_55_27, rf_55_28, rf_55_29, rf_55_30, rf_55_31, rf_55_32, rf_55_37, rf_55_38, rf_55_39, rf_55_40, rf_55_47, rf_55_49, rf_55_51, rf_55_52, rf_55_53, rf_55_54, rf_55_55, ln_2, ln_4, ln_5, ln_6, ln_7, ln_9, ln_11, ln_12, ln_13, ln_15, ln_16, ln_17, ln_20, ln_21, ln_22, ln_24, ln_26, ln_28, ln_29, ln_31, ln_32, ln_34, ln_35, ln_36, ln_37, ln_38, ln_40, ln_41, ln_42, ln_44, ln_46, ln_48, ln_50, ln_52, ln_54, ln_56, ln_57, ln_58, ln_59, ln_60, ln_61, ln_62, ln_63, ln_64, ln_65, ln_66, ln_67, ln_68, ln_69, ln_70, ln_71, ln_72, ln_73, ln_74, ln_75, ln_76, ln_77, ln_78, ln_79, ln_80, ln_81, ln_82, ln_83, ln_84, ln_85, ln_86]
  by_cases c0 : x1 = 0
  · simp only [c0, ↓reduceIte, P.2.1, P.2.2.1]; exact ⟨b1, hR h I⟩
  · by_cases c1 : x1 = 1
    · simp only [c1, ne10, ↓reduceIte, e1, e2]; exact ⟨b1, hR h I⟩
    · by_cases c2 : x1 = 2
      · subst c2; simp only [if_neg c0, if_neg c1, ↓reduceIte, r1]; exact ⟨b1, hR h I⟩
      · by_cases c3 : x1 = 3
        · subst c3
          simp only [if_neg c0, if_neg c1, if_neg c2, ↓reduceIte, wX11_peopleWithin, rf_0_0, rf_0_1, rf_0_2, rf_0_4, rf_0_5, rf_0_6, rf_0_8, rf_0_9, rf_0_10, rf_0_11, rf_0_12, rf_0_13, rf_1_0, rf_3_0, rf_3_1, rf_3_2, rf_8_0, rf_8_1, rf_8_2, rf_8_3, rf_10_0, rf_10_1, rf_10_2, rf_14_0, rf_14_1, rf_14_2, rf_18_0, rf_18_1, rf_19_0, rf_19_1, rf_19_2, rf_23_0, rf_25_0, rf_27_0, rf_27_1, rf_27_2, rf_27_3, rf_27_4, rf_30_0, rf_30_1, rf_30_2, rf_30_3, rf_30_4, rf_33_0, rf_33_1, rf_33_2, rf_33_3, rf_39_0, rf_39_1, rf_42_0, rf_42_1, rf_42_2, rf_42_3, rf_42_4, rf_42_5, rf_43_0, rf_45_0, rf_47_0, rf_49_0, rf_51_0, rf_53_0, rf_55_2, rf_55_4, rf_55_5, rf_55_6, rf_55_10, rf_55_13, rf_55_14, rf_55_15, rf_55_16, rf_55_17, rf_55_23, rf_55_24, rf_55_25, rf_55_26, rf_55_27, rf_55_28, rf_55_29, rf_55_30, rf_55_31, rf_55_32, rf_55_37, rf_55_38, rf_55_39, rf_55_40, rf_55_47, rf_55_49, rf_55_51, rf_55_52, rf_55_53, rf_55_54, rf_55_55, ln_2, ln_4, ln_5, ln_6, ln_7, ln_9, ln_11, ln_12, ln_13, ln_15, ln_16, ln_17, ln_20, ln_21, ln_22, ln_24, ln_26, ln_28, ln_29, ln_31, ln_32, ln_34, ln_35, ln_36, ln_37, ln_38, ln_40, ln_41, ln_42, ln_44, ln_46, ln_48, ln_50, ln_52, ln_54, ln_56, ln_57, ln_58, ln_59, ln_60, ln_61, ln_62, ln_63, ln_64, ln_65, ln_66, ln_67, ln_68, ln_69, ln_70, ln_71, ln_72, ln_73, ln_74, ln_75, ln_76, ln_77, ln_78, ln_79, ln_80, ln_81, ln_82, ln_83, ln_84, ln_85, ln_86, q3, r2]
          rw [e_bitCount h (by omega)]
          refine ⟨b1, ?_⟩
          apply m_bitsOf (by omega)
          exact fin (by rw [show gI h 3 3 = _ from P.2.1, P.2.2.1]) (hR h I)
        · by_cases c4 : x1 = 4
          · subst c4; simp only [if_neg c0, if_neg c1, if_neg c2, if_neg c3, ↓reduceIte, t1, t2]; exact ⟨b1, hR h I⟩
          · by_cases c5 : x1 = 5
            · subst c5; simp only [if_neg c0, if_neg c1, if_neg c2, if_neg c3, if_neg c4, ↓reduceIte, u8, u9]; exact ⟨b1, hR h I⟩
            · by_cases c6 : x1 = 6
              · subst c6; simp only [if_neg c0, if_neg c1, if_neg c2, if_neg c3, if_neg c4, if_neg c5, ↓reduceIte, v3, v4]; exact ⟨b1, hR h I⟩
              · by_cases c7 : x1 = 7
                · subst c7; simp only [if_neg c0, if_neg c1, if_neg c2, if_neg c3, if_neg c4, if_neg c5, if_neg c6, ↓reduceIte, v5, v6]; exact ⟨b1, hR h I⟩
                · simp only [if_neg c0, if_neg c1, if_neg c2, if_neg c3, if_neg c4, if_neg c5, if_neg c6, if_neg c7, ↓reduceIte]; exact ⟨b1, hR h I⟩
-- of
set_option maxRecDepth 20000 in
set_option maxHeartbeats 1000000 in
theorem ok_of {h : Hp} (I : Inv h) (x1 : Int32) (x2 : Int32) {A1 : Prop} (b1 : A1) {A2 : Prop} (b2 : A2) {R : Hp → Prop} {Q0 : Prop} (hR : ∀ h', Inv h' → R h') : wX11_of 0 x1 x2 h (fun v => A1 ∧ (A2 ∧ (wX12_of 55 x1 x2 h (fun v' => if v = v' then R h else Q0)))) := by
  obtain ⟨iG, iP, iD, iT, iI, iC, iB, iS, iL0, iL1⟩ := id I
  obtain ⟨g, hg, e1, e2, hr⟩ := id iG
  obtain ⟨r1, r2, r3, p, t, o, w, q0, q1, q2, q3, q4, q5, q6, q7, q8, q9, q10⟩ := id iD
  obtain ⟨p', P⟩ := I.people
  have : p = p' := (nI_eq (by omega) (by have := P.1; omega)).mp (q1.symm.trans P.2.1)
  subst this
  have h2 := p12 q0
  unfold wX11_of wX12_of
  simp only [e_in, e_isTime, e_mTime, e_isShelf, e_mShelf, e_isKind, e_isNumber, e_gHas, e_pHas, e_bHas, e_isRow, e_isBook, e_isEmpty, e_isGate0, e_isPerson0, e_isBody0, rf_0_0, rf_0_1, rf_0_2, rf_0_4, rf_0_5, rf_0_6, rf_0_8, rf_0_9, rf_0_10, rf_0_11, rf_0_12, rf_0_13, rf_1_0, rf_3_0, rf_3_1, rf_3_2, rf_8_0, rf_8_1, rf_8_2, rf_8_3, rf_10_0, rf_10_1, rf_10_2, rf_14_0, rf_14_1, rf_14_2, rf_18_0, rf_18_1, rf_19_0, rf_19_1, rf_19_2, rf_23_0, rf_25_0, rf_27_0, rf_27_1, rf_27_2, rf_27_3, rf_27_4, rf_30_0, rf_30_1, rf_30_2, rf_30_3, rf_30_4, rf_33_0, rf_33_1, rf_33_2, rf_33_3, rf_39_0, rf_39_1, rf_42_0, rf_42_1, rf_42_2, rf_42_3, rf_42_4, rf_42_5, rf_43_0, rf_45_0, rf_47_0, rf_49_0, rf_51_0, rf_53_0, rf_55_2, rf_55_4, rf_55_5, rf_55_6, rf_55_10, rf_55_13, rf_55_14, rf_55_15, rf_55_16, rf_55_17, rf_55_23, rf_55_24, rf_55_25, rf_55_26, rf_55_27, rf_55_28, rf_55_29, rf_55_30, rf_55_31, rf_55_32, rf_55_37, rf_55_38, rf_55_39, rf_55_40, rf_55_47, rf_55_49, rf_55_51, rf_55_52, rf_55_53, rf_55_54, rf_55_55, ln_2, ln_4, ln_5, ln_6, ln_7, ln_9, ln_11, ln_12, ln_13, ln_15, ln_16, ln_17, ln_20, ln_21, ln_22, ln_24, ln_26, ln_28, ln_29, ln_31, ln_32, ln_34, ln_35, ln_36, ln_37, ln_38, ln_40, ln_41, ln_42, ln_44, ln_46, ln_48, ln_50, ln_52, ln_54, ln_56, ln_57, ln_58, ln_59, ln_60, ln_61, ln_62, ln_63, ln_64, ln_65, ln_66, ln_67, ln_68, ln_69, ln_70, ln_71, ln_72, ln_73, ln_74, ln_75, ln_76, ln_77, ln_78, ln_79, ln_80, ln_81, ln_82, ln_83, ln_84, ln_85, ln_86]
  by_cases c10 : x2 = 10
  · subst c10
    simp only [↓reduceIte, e1, e2]
    rcases ix x1 g (by omega) with c | ⟨i, hi, rfl, c⟩
    · simp (disch := omega) only [if_pos c, sub1_lt, ↓reduceIte]
      exact ⟨b1, b2, hR h I⟩
    · simp (disch := omega) only [if_neg c, sub1_lt, ne10, ↓reduceIte, nI_clamp, vp_nI, show i < 3 by omega, true_and]
      refine ⟨b1, b2, ?_⟩
      exact fin (show rI h 2 i = rI h 56 i from (hr i hi).1.symm) (hR h I)
  · by_cases c0 : x2 = 0
    · subst c0
      simp only [if_neg c10, ↓reduceIte, P.2.1, P.2.2.1]
      rcases ix x1 p (by omega) with c | ⟨i, hi, rfl, c⟩
      · simp (disch := omega) only [if_pos c, sub1_lt, ↓reduceIte]
        exact ⟨b1, b2, hR h I⟩
      · obtain ⟨y1, y2, y3, y4, y5, y6, y7, y8, y9, y10⟩ := P.2.2.2 i hi
        simp (disch := omega) only [if_neg c, sub1_lt, ne10, ↓reduceIte, nI_clamp, vp_nI, show i < 12 by omega, true_and]
        exact ⟨b1, b2, fin (by rw [y1, y4]) (hR h I)⟩
    · by_cases c1 : x2 = 1
      · subst c1
        simp only [if_neg c10, if_neg c0, ↓reduceIte, P.2.1, P.2.2.1]
        rcases ix x1 p (by omega) with c | ⟨i, hi, rfl, c⟩
        · simp (disch := omega) only [if_pos c, sub1_lt, ↓reduceIte]
          exact ⟨b1, b2, hR h I⟩
        · obtain ⟨y1, y2, y3, y4, y5, y6, y7, y8, y9, y10⟩ := P.2.2.2 i hi
          simp (disch := omega) only [if_neg c, sub1_lt, ne10, ↓reduceIte, nI_clamp, vp_nI, show i < 12 by omega, true_and]
          exact ⟨b1, b2, fin (by rw [y2, y5]) (hR h I)⟩
      · by_cases c2 : x2 = 2
        · subst c2
          simp only [if_neg c10, if_neg c0, if_neg c1, ↓reduceIte, P.2.1, P.2.2.1]
          rcases ix x1 p (by omega) with c | ⟨i, hi, rfl, c⟩
          · simp (disch := omega) only [if_pos c, sub1_lt, ↓reduceIte]
            exact ⟨b1, b2, hR h I⟩
          · obtain ⟨y1, y2, y3, y4, y5, y6, y7, y8, y9, y10⟩ := P.2.2.2 i hi
            simp (disch := omega) only [if_neg c, sub1_lt, ne10, ↓reduceIte, nI_clamp, vp_nI, show i < 12 by omega, true_and]
            exact ⟨b1, b2, fin (by rw [y3, y6]) (hR h I)⟩
        · by_cases c3 : x2 = 3
          · subst c3
            simp only [if_neg c10, if_neg c0, if_neg c1, if_neg c2, ↓reduceIte, P.2.1, P.2.2.1]
            rcases ix x1 p (by omega) with c | ⟨i, hi, rfl, c⟩
            · simp (disch := omega) only [if_pos c, sub1_lt, ↓reduceIte]
              exact ⟨b1, b2, hR h I⟩
            · obtain ⟨y1, y2, y3, y4, y5, y6, y7, y8, y9, y10⟩ := P.2.2.2 i hi
              simp (disch := omega) only [if_neg c, sub1_lt, ne10, ↓reduceIte, nI_clamp, vp_nI, show i < 12 by omega, true_and]
              simp only [wX11_bit, q3, r2]
              rw [bit_nI (by omega) (by omega)]
              refine ⟨b1, b2, ?_⟩
              cases o.testBit i
              · exact hR h I
              · exact hR h I
          · by_cases c4 : x2 = 4
            · subst c4
              simp only [if_neg c10, if_neg c0, if_neg c1, if_neg c2, if_neg c3, ↓reduceIte, P.2.1, P.2.2.1]
              rcases ix x1 p (by omega) with c | ⟨i, hi, rfl, c⟩
              · simp (disch := omega) only [if_pos c, sub1_lt, ↓reduceIte]
                exact ⟨b1, b2, hR h I⟩
              · obtain ⟨y1, y2, y3, y4, y5, y6, y7, y8, y9, y10⟩ := P.2.2.2 i hi
                simp (disch := omega) only [if_neg c, sub1_lt, ne10, ↓reduceIte, nI_clamp, vp_nI, show i < 12 by omega, true_and]
                simp only [wX11_bit, r3, ↓reduceIte]
                exact ⟨b1, b2, hR h I⟩
            · by_cases c5 : x2 = 5
              · subst c5
                simp only [if_neg c10, if_neg c0, if_neg c1, if_neg c2, if_neg c3, if_neg c4, ↓reduceIte, P.2.1, P.2.2.1]
                rcases ix x1 p (by omega) with c | ⟨i, hi, rfl, c⟩
                · simp (disch := omega) only [if_pos c, sub1_lt, ↓reduceIte]
                  exact ⟨b1, b2, hR h I⟩
                · obtain ⟨y1, y2, y3, y4, y5, y6, y7, y8, y9, y10⟩ := P.2.2.2 i hi
                  simp (disch := omega) only [if_neg c, sub1_lt, ne10, ↓reduceIte, nI_clamp, vp_nI, show i < 12 by omega, true_and]
                  simp only [q2, r1]
                  by_cases d : t < 60
                  · rw [if_neg (show ¬ (60 : Int32) ≤ nI t from nI_ge (b := 60) d (by omega))]
                    apply c_waitingNow P q5 q2 q3 q4 q6 q8
                    simp only [wX11_bit]
                    have h3 := setB_lt (wts (hL h) (hRt h) t o w) p
                    rw [bit_nI (by unfold Wt; omega) (by omega)]
                    refine ⟨b1, b2, ?_⟩
                    rw [if_neg (show ¬ (60 : Int32) ≤ nI t from nI_ge (b := 60) d (by omega)), r2, r3, q3, q4]
                    apply m_waitsIn P q5 (by omega) (by omega) hi
                    unfold Wt
                    rw [setB_bit]
                    cases wts (hL h) (hRt h) t o w i
                    · simp [hi]; exact hR h I
                    · simp [hi]; exact hR h I
                  · rw [if_pos (show (60 : Int32) ≤ nI t from nI_le (a := 60) (by omega) (by omega))]
                    rw [if_pos (show (60 : Int32) ≤ nI t from nI_le (a := 60) (by omega) (by omega))]
                    exact ⟨b1, b2, hR h I⟩
              · by_cases c6 : x2 = 6
                · subst c6
                  simp only [if_neg c10, if_neg c0, if_neg c1, if_neg c2, if_neg c3, if_neg c4, if_neg c5, ↓reduceIte, P.2.1, P.2.2.1]
                  rcases ix x1 p (by omega) with c | ⟨i, hi, rfl, c⟩
                  · simp (disch := omega) only [if_pos c, sub1_lt, ↓reduceIte]
                    exact ⟨b1, b2, hR h I⟩
                  · obtain ⟨y1, y2, y3, y4, y5, y6, y7, y8, y9, y10⟩ := P.2.2.2 i hi
                    simp (disch := omega) only [if_neg c, sub1_lt, ne10, ↓reduceIte, nI_clamp, vp_nI, show i < 12 by omega, true_and]
                    exact ⟨b1, b2, fin (show rI h 24 i = rI h 60 i from (q9 i hi).symm) (hR h I)⟩
                · simp only [if_neg c10, if_neg c0, if_neg c1, if_neg c2, if_neg c3, if_neg c4, if_neg c5, if_neg c6, ↓reduceIte, P.2.1, P.2.2.1]
                  rcases ix x1 p (by omega) with c | ⟨i, hi, rfl, c⟩
                  · simp (disch := omega) only [if_pos c, sub1_lt, ↓reduceIte]
                    exact ⟨b1, b2, hR h I⟩
                  · obtain ⟨y1, y2, y3, y4, y5, y6, y7, y8, y9, y10⟩ := P.2.2.2 i hi
                    simp (disch := omega) only [if_neg c, sub1_lt, ne10, ↓reduceIte, nI_clamp, vp_nI, show i < 12 by omega, true_and]
                    exact ⟨b1, b2, hR h I⟩
