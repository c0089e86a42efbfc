theorem W0_lt (E : EV) (t : Nat) (d : DS) : W0 E t d < 2 ^ eN E := Nat.lt_of_le_of_lt anot_le (setB_lt _ _)
theorem W1_lt (E : EV) (t : Nat) (d : DS) : W1 E t d < 2 ^ eN E := Nat.lt_of_le_of_lt Nat.and_le_left (setB_lt _ _)
theorem W0_side {E : EV} {t : Nat} {d : DS} (hN : eN E ≤ 12) (ok : dOK (eN E) d) : ∀ i, (W0 E t d).testBit i = true → d.1.testBit i = decide (0 = 1) := by
  intro i hi
  have h12 := p12 hN
  have := setB_lt (fun k => decide (eL E k ≤ t)) (eN E)
  unfold W0 at hi
  rw [anot_bit (by omega)] at hi
  simp only [Bool.and_eq_true, Bool.not_eq_true'] at hi
  cases e : d.1.testBit i
  · rfl
  · rw [ok.2.2 i e] at hi; exact absurd hi.2 (by decide)
theorem W1_side {E : EV} {t : Nat} {d : DS} : ∀ i, (W1 E t d).testBit i = true → d.1.testBit i = decide (1 = 1) := by
  intro i hi
  unfold W1 at hi
  rw [Nat.testBit_and] at hi
  simp only [Bool.and_eq_true] at hi
  exact hi.2
theorem c_costOf {h : Hp} {N S : Nat} (PP : PN h N) (hS : S < 2 ^ N) {Q : Int32 → Prop} (hQ : Q (nI (smT (fun p => if S.testBit p then hC h p else 0) N))) : wX8_costOf 3 (nI S) h Q := by
  have hN := PP.1
  have h12 := p12 hN
  unfold wX8_costOf
  refine iX8_costOf_4 (I := fun x2 x3 => ∃ j : Nat, x3 = nI j ∧ j ≤ N ∧ x2 = nI (smT (fun p => if S.testBit p then hC h p else 0) j)) (μ := fun _ x3 => N - x3.toNatClampNeg) ?_ 0 0 ⟨0, rfl, by omega, rfl⟩
  rintro x2 x3 ⟨j, rfl, hj, rfl⟩ K hK
  unfold fX8_costOf_4
  rw [PP.2.1]
  by_cases c : N ≤ j
  · rw [if_pos (nI_le c (by omega)), show j = N by omega]
    exact hQ
  · rw [if_neg (nI_ge (by omega) (by omega))]
    unfold wX11_bit
    rw [bit_nI (show S < 2 ^ 31 by omega) (by omega)]
    simp only [forall_eq, nI_1, rf_3_2, ln_6, nI_clamp (show j < 2 ^ 31 by omega)]
    have mu : N - (nI (j + 1)).toNatClampNeg < N - (nI j).toNatClampNeg := by rw [nI_clamp (by omega), nI_clamp (by omega)]; omega
    obtain ⟨y1, y2, y3, y4⟩ := PP.2.2.2 j (by omega)
    cases e : S.testBit j
    · rw [if_pos (by decide)]
      refine hK _ _ ⟨j + 1, rfl, by omega, ?_⟩ mu
      rw [smT, e]
      rfl
    · rw [if_neg (by decide), y3, nI_add]
      refine ⟨(vp_nI (by omega)).mpr (by omega), hK _ _ ⟨j + 1, rfl, by omega, ?_⟩ mu⟩
      rw [smT, e]
      rfl
theorem gs_ok0 (E : EV) (t : Nat) (d : DS) (k : Nat) : gsts E t d (k + 1) = gst1 E t k (gst0 E t k (gsts E t d k)) := rfl
/-- the class goes through a time -/
theorem c_time {h0 h1 : Hp} {E : EV} {t : Nat} {x : Int64} {S : Nat → Bool} {d0 : DS} {K7 : Int32 → Hp → Prop} {Q : Hp → Prop} (X : EW h0 E) (ht : t < 60) (hx : isS x S) (hS : ∀ i, i < 64 → (S i = true ↔ SM (eNum E) 12 (eG E) i)) (ok0 : dOK (eN E) d0) (D0 : DC h0 (eWay E) x d0 h1)
    (hK0 : ∀ h', DC h0 (eWay E) x (tst E t d0) h' → dOK (eN E) (tst E t d0) → K7 (nI (t + 1)) h') : eX2_goThrough_15 27 (nI t) K7 Q 0 h1 := by
  have hN := X.1.1
  have h12 := p12 hN
  have hgn := X.2.1.1
  refine iX2_goThrough_15 (I := fun x3 h => ∃ k : Nat, x3 = nI k ∧ k ≤ eG E ∧ DC h0 (eWay E) x (gsts E t d0 k) h ∧ dOK (eN E) (gsts E t d0 k)) (μ := fun x3 _ => eG E - x3.toNatClampNeg) ?_ 0 h1 ⟨0, rfl, by omega, D0, ok0⟩
  rintro x3 h ⟨k, rfl, hk, D, ok⟩ K hK
  obtain ⟨d, hd⟩ : ∃ d, gsts E t d0 k = d := ⟨_, rfl⟩
  have Xh := X.fw D.2.2.2.2.2.2.2.fw
  unfold fX2_goThrough_15
  rw [rf_27_0, rf_27_1, Xh.2.1.2.1]
  rw [hd] at D ok
  have hD := D
  obtain ⟨d1, d2, d3, d4, d5, d6, d7, d8⟩ := hD
  by_cases c : eG E ≤ k
  · rw [if_pos (nI_le c (by omega)), d3, d4]
    apply c_wOut Xh.1 (by omega)
    apply c_wIn Xh.1 (by omega) (by have := ok.1; omega)
    have oand : d.1 &&& d.2.1 = d.1 := by
      apply nat_ext
      intro i
      rw [Nat.testBit_and]
      cases e : d.1.testBit i
      · rfl
      · rw [ok.2.2 i e]; rfl
    rw [nI_or, Wt_eq hN ok.1 oand]
    apply c_costOf Xh.1 (by unfold Wt; exact setB_lt _ _)
    simp only [forall_eq, nI_1]
    have kg : k = eG E := by omega
    have e1 : tst E t d0 = adS d (wsm E t d (eN E)) := by
      unfold tst
      rw [← kg, hd]
    have e2 : smT (fun p => if (Wt h (eN E) t d.1 d.2.1).testBit p = true then hC h p else 0) (eN E) = wsm E t d (eN E) := by
      unfold wsm
      apply smT_eq
      intro j hj
      unfold Wt
      rw [setB_bit, Xh.2.2.2.1, Xh.2.2.2.2.1, Xh.2.2.2.2.2.1]
      simp [hj]
    rw [e1] at hK0
    apply hK0
    · rw [e2, d5, nI_add]
      refine ⟨?_, d2, ?_, ?_, ?_, ?_, fun p hp => ?_, d8.set 27 9 _ rfl⟩
      · simp only [forall_eq, gI_sI, gI_sL, gL_sI, gL_sL, gI_cpI, gL_cpI, gI_cpL, gL_cpL, Nat.reduceEqDiff, Nat.reduceAdd, Nat.reduceSub, cl0, cl1, cl12, cl39, and_false, false_and, and_true, true_and, and_self, ↓reduceIte]; exact d1
      · simp only [forall_eq, gI_sI, gI_sL, gL_sI, gL_sL, gI_cpI, gL_cpI, gI_cpL, gL_cpL, Nat.reduceEqDiff, Nat.reduceAdd, Nat.reduceSub, cl0, cl1, cl12, cl39, and_false, false_and, and_true, true_and, and_self, ↓reduceIte]; exact d3
      · simp only [forall_eq, gI_sI, gI_sL, gL_sI, gL_sL, gI_cpI, gL_cpI, gI_cpL, gL_cpL, Nat.reduceEqDiff, Nat.reduceAdd, Nat.reduceSub, cl0, cl1, cl12, cl39, and_false, false_and, and_true, true_and, and_self, ↓reduceIte]; exact d4
      · simp only [forall_eq, gI_sI, gI_sL, gL_sI, gL_sL, gI_cpI, gL_cpI, gI_cpL, gL_cpL, Nat.reduceEqDiff, Nat.reduceAdd, Nat.reduceSub, cl0, cl1, cl12, cl39, and_false, false_and, and_true, true_and, and_self, ↓reduceIte]; rfl
      · simp only [forall_eq, gI_sI, gI_sL, gL_sI, gL_sL, gI_cpI, gL_cpI, gI_cpL, gL_cpL, Nat.reduceEqDiff, Nat.reduceAdd, Nat.reduceSub, cl0, cl1, cl12, cl39, and_false, false_and, and_true, true_and, and_self, ↓reduceIte]; exact d6
      · simp only [forall_eq, gI_sI, gI_sL, gL_sI, gL_sL, gI_cpI, gL_cpI, gI_cpL, gL_cpL, Nat.reduceEqDiff, Nat.reduceAdd, Nat.reduceSub, cl0, cl1, cl12, cl39, and_false, false_and, and_true, true_and, and_self, ↓reduceIte]; exact d7 p hp
    · exact ok
  · rw [if_neg (nI_ge (by omega) (by omega)), d3]
    apply c_wOut Xh.1 (by omega)
    rw [Xh.2.2.2.1]
    apply c_through (s := 0) (W := W0 E t d) X (show k < eG E by omega) (by omega) hx hS (W0_lt E t d) ok (W0_side hN ok) D
    intro h2 D2 ok2
    have X2 := X.fw D2.2.2.2.2.2.2.2.fw
    have e8 : gI h2 27 8 = nI (gst0 E t k d).1 := D2.2.2.2.1
    rw [e8]
    apply c_wIn X2.1 (by omega) (by have := ok2.1; unfold gst0; omega)
    rw [X2.2.2.2.2.1]
    apply c_through (s := 1) (W := W1 E t (gst0 E t k d)) X (show k < eG E by omega) (by omega) hx hS (W1_lt E t _) ok2 W1_side D2
    intro h3 D3 ok3
    simp only [forall_eq, nI_1]
    refine hK _ _ ⟨k + 1, rfl, by omega, ?_, ?_⟩ (by rw [nI_clamp (by omega), nI_clamp (by omega)]; omega)
    · rw [gs_ok0, hd]; exact D3
    · rw [gs_ok0, hd]; exact ok3
theorem days_s (E : EV) (t : Nat) : days E (t + 1) = tst E t (days E t) := rfl
theorem c_days {h0 h1 : Hp} {E : EV} {x : Int64} {S : Nat → Bool} {Q : Hp → Prop} (X : EW h0 E) (hx : isS x S) (hS : ∀ i, i < 64 → (S i = true ↔ SM (eNum E) 12 (eG E) i)) (D0 : DC h0 (eWay E) x (days E 0) h1)
    (hQ : ∀ T, T = 60 → ∀ h', DC h0 (eWay E) x (days E T) h' → dOK (eN E) (days E T) → Q h') : eX2_goThrough_7 27 Q 0 h1 := by
  refine iX2_goThrough_7 (I := fun x2 h => ∃ t : Nat, x2 = nI t ∧ t ≤ 60 ∧ DC h0 (eWay E) x (days E t) h ∧ dOK (eN E) (days E t)) (μ := fun x2 _ => 60 - x2.toNatClampNeg) ?_ 0 h1 ⟨0, rfl, by omega, D0, ?_⟩
  · rintro x2 h ⟨t, rfl, ht, D, ok⟩ K hK
    unfold fX2_goThrough_7
    by_cases c : 60 ≤ t
    · rw [if_pos (show (60 : Int32) ≤ nI t from nI_le (a := 60) c (by omega))]
      exact hQ t (by omega) h D ok
    · rw [if_neg (show ¬ (60 : Int32) ≤ nI t from nI_ge (b := 60) (by omega) (by omega))]
      apply c_time X (by omega) hx hS ok D
      intro h' D' ok'
      exact hK _ _ ⟨t + 1, rfl, by omega, D', ok'⟩ (by rw [nI_clamp (by omega), nI_clamp (by omega)]; omega)
  · refine ⟨?_, ?_, fun i hi => ?_⟩
    · show 0 < 2 ^ eN E
      exact Nat.two_pow_pos _
    · show 0 < 2 ^ eN E
      exact Nat.two_pow_pos _
    · have hi : (0 : Nat).testBit i = true := hi
      rw [Nat.zero_testBit] at hi
      exact absurd hi (by decide)
theorem c_goThrough {h0 : Hp} {E : EV} {Q : Hp → Prop} (X : EW h0 E) (hQ : ∀ T, T = 60 → ∀ x h', DC h0 (eWay E) x (days E T) h' → dOK (eN E) (days E T) → Q h') : wX2_goThrough 27 (nI (eWay E)) h0 Q := by
  unfold wX2_goThrough wX2_begin
  simp only [forall_eq, rf_27_0]
  have F1 : Fdy h0 (sI h0 27 5 (nI (eWay E))) := (Fdy.refl h0).set 27 5 _ rfl
  have X1 := X.fw F1.fw
  apply c_sums (t := 12) X1.2.1 (by omega)
  intro x S hx hS
  have F2 : Fdy h0 (sI (sI (sI (sI (sL (sI h0 27 5 (nI (eWay E))) 27 6 x) 27 7 0) 27 8 0) 27 9 0) 27 10 0) := ((((F1.setL 6 x).set 27 7 _ rfl).set 27 8 _ rfl).set 27 9 _ rfl).set 27 10 _ rfl
  refine iX2_begin_40 (I := fun x2 h => ∃ k : Nat, x2 = nI k ∧ k ≤ 12 ∧ gI h 27 5 = nI (eWay E) ∧ gL h 27 6 = x ∧ gI h 27 7 = 0 ∧ gI h 27 8 = 0 ∧ gI h 27 9 = 0 ∧ gI h 27 10 = 0 ∧ (∀ p, p < k → gI h 28 p = -2 ∧ gI h 29 p = -2) ∧ Fdy h0 h) (μ := fun x2 _ => 12 - x2.toNatClampNeg) ?_ 0 _ ⟨0, rfl, by omega, ?_, ?_, ?_, ?_, ?_, ?_, fun p hp => by omega, F2⟩
  · rintro x2 h ⟨k, rfl, hk, k1, k2, k3, k4, k5, k6, k7, k8⟩ K hK
    unfold fX2_begin_40
    by_cases c : 12 ≤ k
    · rw [if_pos (show (12 : Int32) ≤ nI k from nI_le (a := 12) c (by omega))]
      exact c_days X hx hS ⟨k1, k2, k3, k4, k5, k6, fun p hp => k7 p (by omega), k8⟩ (fun T hT h' D ok => hQ T hT x h' D ok)
    · rw [if_neg (show ¬ (12 : Int32) ≤ nI k from nI_ge (b := 12) (by omega) (by omega))]
      simp only [forall_eq, rf_27_3, rf_27_4, ln_28, ln_29, nI_clamp (show k < 2 ^ 31 by omega), nI_1]
      have v : vp_in (nI k) 12 := (vp_nI (by omega)).mpr (by omega)
      refine ⟨v, v, hK _ _ ⟨k + 1, rfl, by omega, ?_, k2, ?_, ?_, ?_, ?_, fun p hp => ⟨?_, ?_⟩, (k8.set 28 k _ rfl).set 29 k _ rfl⟩ (by rw [nI_clamp (by omega), nI_clamp (by omega)]; omega)⟩
      · simp only [forall_eq, gI_sI, gI_sL, gL_sI, gL_sL, gI_cpI, gL_cpI, gI_cpL, gL_cpL, Nat.reduceEqDiff, Nat.reduceAdd, Nat.reduceSub, cl0, cl1, cl12, cl39, and_false, false_and, and_true, true_and, and_self, ↓reduceIte]; exact k1
      · simp only [forall_eq, gI_sI, gI_sL, gL_sI, gL_sL, gI_cpI, gL_cpI, gI_cpL, gL_cpL, Nat.reduceEqDiff, Nat.reduceAdd, Nat.reduceSub, cl0, cl1, cl12, cl39, and_false, false_and, and_true, true_and, and_self, ↓reduceIte]; exact k3
      · simp only [forall_eq, gI_sI, gI_sL, gL_sI, gL_sL, gI_cpI, gL_cpI, gI_cpL, gL_cpL, Nat.reduceEqDiff, Nat.reduceAdd, Nat.reduceSub, cl0, cl1, cl12, cl39, and_false, false_and, and_true, true_and, and_self, ↓reduceIte]; exact k4
      · simp only [forall_eq, gI_sI, gI_sL, gL_sI, gL_sL, gI_cpI, gL_cpI, gI_cpL, gL_cpL, Nat.reduceEqDiff, Nat.reduceAdd, Nat.reduceSub, cl0, cl1, cl12, cl39, and_false, false_and, and_true, true_and, and_self, ↓reduceIte]; exact k5
      · simp only [forall_eq, gI_sI, gI_sL, gL_sI, gL_sL, gI_cpI, gL_cpI, gI_cpL, gL_cpL, Nat.reduceEqDiff, Nat.reduceAdd, Nat.reduceSub, cl0, cl1, cl12, cl39, and_false, false_and, and_true, true_and, and_self, ↓reduceIte]; exact k6
      · simp only [forall_eq, gI_sI, gI_sL, gL_sI, gL_sL, gI_cpI, gL_cpI, gI_cpL, gL_cpL, Nat.reduceEqDiff, Nat.reduceAdd, Nat.reduceSub, cl0, cl1, cl12, cl39, and_false, false_and, and_true, true_and, and_self, ↓reduceIte]
        by_cases e : p = k
        · rw [if_pos e]
        · rw [if_neg e]; exact (k7 p (by omega)).1
      · simp only [forall_eq, gI_sI, gI_sL, gL_sI, gL_sL, gI_cpI, gL_cpI, gI_cpL, gL_cpL, Nat.reduceEqDiff, Nat.reduceAdd, Nat.reduceSub, cl0, cl1, cl12, cl39, and_false, false_and, and_true, true_and, and_self, ↓reduceIte]
        by_cases e : p = k
        · rw [if_pos e]
        · rw [if_neg e]; exact (k7 p (by omega)).2
  · simp only [forall_eq, gI_sI, gI_sL, gL_sI, gL_sL, gI_cpI, gL_cpI, gI_cpL, gL_cpL, Nat.reduceEqDiff, Nat.reduceAdd, Nat.reduceSub, cl0, cl1, cl12, cl39, and_false, false_and, and_true, true_and, and_self, ↓reduceIte]
  · simp only [forall_eq, gI_sI, gI_sL, gL_sI, gL_sL, gI_cpI, gL_cpI, gI_cpL, gL_cpL, Nat.reduceEqDiff, Nat.reduceAdd, Nat.reduceSub, cl0, cl1, cl12, cl39, and_false, false_and, and_true, true_and, and_self, ↓reduceIte]
  · simp only [forall_eq, gI_sI, gI_sL, gL_sI, gL_sL, gI_cpI, gL_cpI, gI_cpL, gL_cpL, Nat.reduceEqDiff, Nat.reduceAdd, Nat.reduceSub, cl0, cl1, cl12, cl39, and_false, false_and, and_true, true_and, and_self, ↓reduceIte]
  · simp only [forall_eq, gI_sI, gI_sL, gL_sI, gL_sL, gI_cpI, gL_cpI, gI_cpL, gL_cpL, Nat.reduceEqDiff, Nat.reduceAdd, Nat.reduceSub, cl0, cl1, cl12, cl39, and_false, false_and, and_true, true_and, and_self, ↓reduceIte]
  · simp only [forall_eq, gI_sI, gI_sL, gL_sI, gL_sL, gI_cpI, gL_cpI, gI_cpL, gL_cpL, Nat.reduceEqDiff, Nat.reduceAdd, Nat.reduceSub, cl0, cl1, cl12, cl39, and_false, false_and, and_true, true_and, and_self, ↓reduceIte]
  · simp only [forall_eq, gI_sI, gI_sL, gL_sI, gL_sL, gI_cpI, gL_cpI, gI_cpL, gL_cpL, Nat.reduceEqDiff, Nat.reduceAdd, Nat.reduceSub, cl0, cl1, cl12, cl39, and_false, false_and, and_true, true_and, and_self, ↓reduceIte]
