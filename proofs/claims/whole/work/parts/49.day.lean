theorem m_time {h0 h1 : Hp} {E : EV} {t : Nat} {d0 : DS} {K52 : Int32 → Hp → Prop} {Q : Hp → Prop} (X : EW h0 E) (ht : t < 60) (ok0 : dOK (eN E) d0) (D0 : DM h0 d0 h1)
    (hK0 : ∀ h', DM h0 (tst E t d0) h' → dOK (eN E) (tst E t d0) → K52 (nI (t + 1)) h') : eX12_goDay_60 55 (nI (eWay E)) (nI t) K52 Q 0 h1 := by
  have hN := X.1.1
  have h12 := p12 hN
  have hgn := X.2.1.1
  refine iX12_goDay_60 (I := fun x3 h => ∃ k : Nat, x3 = nI k ∧ k ≤ eG E ∧ DM h0 (gsts E t d0 k) h ∧ dOK (eN E) (gsts E t d0 k)) (μ := fun x3 _ => eG E - x3.toNatClampNeg) ?_ 0 h1 ⟨0, rfl, by omega, D0, ok0⟩
  rintro x3 h ⟨k, rfl, hk, D, ok⟩ K hK
  obtain ⟨d, hd⟩ : ∃ d, gsts E t d0 k = d := ⟨_, rfl⟩
  have Xh := X.fw D.2.2.2.2.2.fw
  unfold fX12_goDay_60
  rw [Xh.2.1.2.2.1]
  rw [hd] at D ok
  by_cases c : eG E ≤ k
  · rw [if_pos (nI_le c (by omega))]
    have kg : k = eG E := by omega
    have e1 : tst E t d0 = adS d (wsm E t d (eN E)) := by
      unfold tst
      rw [← kg, hd]
    rw [e1] at hK0
    refine iX12_goDay_113 (I := fun x3 h => ∃ j : Nat, x3 = nI j ∧ j ≤ eN E ∧ DM h0 (adS d (wsm E t d j)) h) (μ := fun x3 _ => eN E - x3.toNatClampNeg) ?_ 0 h ⟨0, rfl, by omega, D⟩
    rintro x3 h ⟨j, rfl, hj, D⟩ K2 hK2
    have Xh := X.fw D.2.2.2.2.2.fw
    unfold fX12_goDay_113
    rw [Xh.1.2.2.1]
    by_cases e : eN E ≤ j
    · rw [if_pos (nI_le e (by omega))]
      simp only [forall_eq, nI_1]
      rw [show j = eN E by omega] at D
      exact hK0 h D ok
    · obtain ⟨m1, m2, m3, m4, m5, m6⟩ := id D
      rw [if_neg (nI_ge (by omega) (by omega)), m1, m2]
      have mu : eN E - (nI (j + 1)).toNatClampNeg < eN E - (nI j).toNatClampNeg := by rw [nI_clamp (by omega), nI_clamp (by omega)]; omega
      obtain ⟨y1, y2, y3, y4, y5, y6, y7⟩ := Xh.1.2.2.2 j (by omega)
      apply m_waitsIn Xh.1 (by omega) (show (adS d (wsm E t d j)).1 < 4096 by have := ok.1; show d.1 < 4096; omega) (show (adS d (wsm E t d j)).2.1 < 4096 by have := ok.2.1; show d.2.1 < 4096; omega) (show j < eN E by omega)
      rw [Xh.2.2.2.1, Xh.2.2.2.2.1]
      simp only [forall_eq, nI_1, rf_55_6, ln_59, nI_clamp (show j < 2 ^ 31 by omega)]
      have ws : wsm E t d (j + 1) = wsm E t d j + if wts (eL E) (eR E) t d.1 d.2.1 j then eC E j else 0 := rfl
      cases ew : wts (eL E) (eR E) t (adS d (wsm E t d j)).1 (adS d (wsm E t d j)).2.1 j
      · rw [if_pos (by decide)]
        refine hK2 _ _ ⟨j + 1, rfl, by omega, ?_⟩ mu
        have ew : wts (eL E) (eR E) t d.1 d.2.1 j = false := ew
        rw [ws, ew]
        exact D
      · rw [if_neg (by decide), y6, m3, show tn (rI h 6) j = eC E j from congrFun Xh.2.2.2.2.2.1 j, nI_add]
        refine ⟨(vp_nI (by omega)).mpr (by omega), hK2 _ _ ⟨j + 1, rfl, by omega, ?_⟩ mu⟩
        have ew : wts (eL E) (eR E) t d.1 d.2.1 j = true := ew
        rw [ws, ew]
        refine ⟨?_, ?_, ?_, ?_, fun p hp => ?_, m6.set 55 35 _ rfl⟩
        · simp only [forall_eq, gI_sI, gI_sL, gL_sI, gL_sL, gI_cpI, gL_cpI, gI_cpL, gL_cpL, Nat.reduceEqDiff, Nat.reduceAdd, Nat.reduceSub, cl0, cl1, cl12, cl39, and_false, false_and, and_true, true_and, and_self, ↓reduceIte]; exact m1
        · simp only [forall_eq, gI_sI, gI_sL, gL_sI, gL_sL, gI_cpI, gL_cpI, gI_cpL, gL_cpL, Nat.reduceEqDiff, Nat.reduceAdd, Nat.reduceSub, cl0, cl1, cl12, cl39, and_false, false_and, and_true, true_and, and_self, ↓reduceIte]; exact m2
        · simp only [forall_eq, gI_sI, gI_sL, gL_sI, gL_sL, gI_cpI, gL_cpI, gI_cpL, gL_cpL, Nat.reduceEqDiff, Nat.reduceAdd, Nat.reduceSub, cl0, cl1, cl12, cl39, and_false, false_and, and_true, true_and, and_self, ↓reduceIte]
          show nI (d.2.2.2.2.1 + wsm E t d j + eC E j) = nI (d.2.2.2.2.1 + (wsm E t d j + eC E j))
          rw [Nat.add_assoc]
        · simp only [forall_eq, gI_sI, gI_sL, gL_sI, gL_sL, gI_cpI, gL_cpI, gI_cpL, gL_cpL, Nat.reduceEqDiff, Nat.reduceAdd, Nat.reduceSub, cl0, cl1, cl12, cl39, and_false, false_and, and_true, true_and, and_self, ↓reduceIte]; exact m4
        · simp only [forall_eq, gI_sI, gI_sL, gL_sI, gL_sL, gI_cpI, gL_cpI, gI_cpL, gL_cpL, Nat.reduceEqDiff, Nat.reduceAdd, Nat.reduceSub, cl0, cl1, cl12, cl39, and_false, false_and, and_true, true_and, and_self, ↓reduceIte]; exact m5 p hp
  · rw [if_neg (nI_ge (by omega) (by omega))]
    have a0 : eX12_goDay_71 55 (nI (eWay E)) (nI t) (nI k) K52 K Q 0 h ↔ eX12_goDay_71 55 (nI (eWay E)) (nI t) (nI k) K52 K Q 0 h := Iff.rfl
    refine iX12_goDay_71 (I := fun x4 h => (x4 = nI 0 ∧ DM h0 d h ∧ dOK (eN E) d) ∨ (x4 = nI 1 ∧ DM h0 (gst0 E t k d) h ∧ dOK (eN E) (gst0 E t k d)) ∨ (x4 = nI 2 ∧ DM h0 (gst1 E t k (gst0 E t k d)) h ∧ dOK (eN E) (gst1 E t k (gst0 E t k d)))) (μ := fun x4 _ => 2 - x4.toNatClampNeg) ?_ 0 h (Or.inl ⟨rfl, D, ok⟩)
    rintro x4 h (⟨rfl, D, ok⟩ | ⟨rfl, D, ok⟩ | ⟨rfl, D, ok⟩) K2 hK2
    · unfold fX12_goDay_71
      rw [if_neg (by decide)]
      apply m_lp (s := 0) X (show k < eG E by omega) (by omega) ht ok D
      intro h' D' ok'
      rw [← mset_0 hN ok] at D' ok'
      exact hK2 _ _ (Or.inr (Or.inl ⟨rfl, D', ok'⟩)) (by decide)
    · unfold fX12_goDay_71
      rw [if_neg (by decide)]
      apply m_lp (s := 1) X (show k < eG E by omega) (by omega) ht ok D
      intro h' D' ok'
      rw [← mset_1] at D' ok'
      exact hK2 _ _ (Or.inr (Or.inr ⟨rfl, D', ok'⟩)) (by decide)
    · unfold fX12_goDay_71
      rw [if_pos (by decide)]
      simp only [forall_eq, nI_1]
      refine hK _ _ ⟨k + 1, rfl, by omega, ?_, ?_⟩ (by rw [nI_clamp (by omega), nI_clamp (by omega)]; omega)
      · rw [gs_ok0, hd]; exact D
      · rw [gs_ok0, hd]; exact ok
theorem m_goDay {h0 : Hp} {E : EV} {Q : Hp → Prop} (X : EW h0 E) (hQ : ∀ T, T = 60 → ∀ h', DM h0 (days E T) h' → dOK (eN E) (days E T) → Q h') : wX12_goDay 55 (nI (eWay E)) h0 Q := by
  unfold wX12_goDay
  simp only [forall_eq]
  have F2 : Fdy h0 (sI (sI (sI (sI h0 55 33 0) 55 34 0) 55 35 0) 55 36 0) := ((((Fdy.refl h0).set 55 33 _ rfl).set 55 34 _ rfl).set 55 35 _ rfl).set 55 36 _ rfl
  refine iX12_goDay_22 (I := fun x2 h => ∃ k : Nat, x2 = nI k ∧ k ≤ 12 ∧ gI h 55 33 = 0 ∧ gI h 55 34 = 0 ∧ gI h 55 35 = 0 ∧ gI h 55 36 = 0 ∧ (∀ p, p < k → gI h 74 p = -2 ∧ gI h 75 p = -2) ∧ Fdy h0 h) (μ := fun x2 _ => 12 - x2.toNatClampNeg) ?_ 0 _ ⟨0, rfl, by omega, ?_, ?_, ?_, ?_, fun p hp => by omega, F2⟩
  · rintro x2 h ⟨k, rfl, hk, k3, k4, k5, k6, k7, k8⟩ K hK
    unfold fX12_goDay_22
    by_cases c : 12 ≤ k
    · rw [if_pos (show (12 : Int32) ≤ nI k from nI_le (a := 12) c (by omega))]
      refine iX12_goDay_52 (I := fun x2 h => ∃ t : Nat, x2 = nI t ∧ t ≤ 60 ∧ DM h0 (days E t) h ∧ dOK (eN E) (days E t)) (μ := fun x2 _ => 60 - x2.toNatClampNeg) ?_ 0 h ⟨0, rfl, by omega, ⟨k3, k4, k5, k6, fun p hp => k7 p (by omega), k8⟩, ?_⟩
      · rintro x2 h ⟨t, rfl, ht, D, ok⟩ K hK
        unfold fX12_goDay_52
        by_cases c : 60 ≤ t
        · rw [if_pos (show (60 : Int32) ≤ nI t from nI_le (a := 60) c (by omega))]
          exact hQ t (by omega) h D ok
        · rw [if_neg (show ¬ (60 : Int32) ≤ nI t from nI_ge (b := 60) (by omega) (by omega))]
          apply m_time X (by omega) ok D
          intro h' D' ok'
          exact hK _ _ ⟨t + 1, rfl, by omega, D', ok'⟩ (by rw [nI_clamp (by omega), nI_clamp (by omega)]; omega)
      · refine ⟨?_, ?_, fun i hi => ?_⟩
        · show 0 < 2 ^ eN E
          exact Nat.two_pow_pos _
        · show 0 < 2 ^ eN E
          exact Nat.two_pow_pos _
        · have hi : (0 : Nat).testBit i = true := hi
          rw [Nat.zero_testBit] at hi
          exact absurd hi (by decide)
    · rw [if_neg (show ¬ (12 : Int32) ≤ nI k from nI_ge (b := 12) (by omega) (by omega))]
      simp only [forall_eq, rf_55_31, rf_55_32, ln_74, ln_75, nI_clamp (show k < 2 ^ 31 by omega), nI_1]
      have v : vp_in (nI k) 12 := (vp_nI (by omega)).mpr (by omega)
      refine ⟨v, v, hK _ _ ⟨k + 1, rfl, by omega, ?_, ?_, ?_, ?_, fun p hp => ⟨?_, ?_⟩, (k8.set 74 k _ rfl).set 75 k _ rfl⟩ (by rw [nI_clamp (by omega), nI_clamp (by omega)]; omega)⟩
      · simp only [forall_eq, gI_sI, gI_sL, gL_sI, gL_sL, gI_cpI, gL_cpI, gI_cpL, gL_cpL, Nat.reduceEqDiff, Nat.reduceAdd, Nat.reduceSub, cl0, cl1, cl12, cl39, and_false, false_and, and_true, true_and, and_self, ↓reduceIte]; exact k3
      · simp only [forall_eq, gI_sI, gI_sL, gL_sI, gL_sL, gI_cpI, gL_cpI, gI_cpL, gL_cpL, Nat.reduceEqDiff, Nat.reduceAdd, Nat.reduceSub, cl0, cl1, cl12, cl39, and_false, false_and, and_true, true_and, and_self, ↓reduceIte]; exact k4
      · simp only [forall_eq, gI_sI, gI_sL, gL_sI, gL_sL, gI_cpI, gL_cpI, gI_cpL, gL_cpL, Nat.reduceEqDiff, Nat.reduceAdd, Nat.reduceSub, cl0, cl1, cl12, cl39, and_false, false_and, and_true, true_and, and_self, ↓reduceIte]; exact k5
      · simp only [forall_eq, gI_sI, gI_sL, gL_sI, gL_sL, gI_cpI, gL_cpI, gI_cpL, gL_cpL, Nat.reduceEqDiff, Nat.reduceAdd, Nat.reduceSub, cl0, cl1, cl12, cl39, and_false, false_and, and_true, true_and, and_self, ↓reduceIte]; exact k6
      · simp only [forall_eq, gI_sI, gI_sL, gL_sI, gL_sL, gI_cpI, gL_cpI, gI_cpL, gL_cpL, Nat.reduceEqDiff, Nat.reduceAdd, Nat.reduceSub, cl0, cl1, cl12, cl39, and_false, false_and, and_true, true_and, and_self, ↓reduceIte]
        by_cases e : p = k
        · rw [if_pos e]
        · rw [if_neg e]; exact (k7 p (by omega)).1
      · simp only [forall_eq, gI_sI, gI_sL, gL_sI, gL_sL, gI_cpI, gL_cpI, gI_cpL, gL_cpL, Nat.reduceEqDiff, Nat.reduceAdd, Nat.reduceSub, cl0, cl1, cl12, cl39, and_false, false_and, and_true, true_and, and_self, ↓reduceIte]
        by_cases e : p = k
        · rw [if_pos e]
        · rw [if_neg e]; exact (k7 p (by omega)).2
  · simp only [forall_eq, gI_sI, gI_sL, gL_sI, gL_sL, gI_cpI, gL_cpI, gI_cpL, gL_cpL, Nat.reduceEqDiff, Nat.reduceAdd, Nat.reduceSub, cl0, cl1, cl12, cl39, and_false, false_and, and_true, true_and, and_self, ↓reduceIte]
  · simp only [forall_eq, gI_sI, gI_sL, gL_sI, gL_sL, gI_cpI, gL_cpI, gI_cpL, gL_cpL, Nat.reduceEqDiff, Nat.reduceAdd, Nat.reduceSub, cl0, cl1, cl12, cl39, and_false, false_and, and_true, true_and, and_self, ↓reduceIte]
  · simp only [forall_eq, gI_sI, gI_sL, gL_sI, gL_sL, gI_cpI, gL_cpI, gI_cpL, gL_cpL, Nat.reduceEqDiff, Nat.reduceAdd, Nat.reduceSub, cl0, cl1, cl12, cl39, and_false, false_and, and_true, true_and, and_self, ↓reduceIte]
  · simp only [forall_eq, gI_sI, gI_sL, gL_sI, gL_sL, gI_cpI, gL_cpI, gI_cpL, gL_cpL, Nat.reduceEqDiff, Nat.reduceAdd, Nat.reduceSub, cl0, cl1, cl12, cl39, and_false, false_and, and_true, true_and, and_self, ↓reduceIte]
theorem e_isWay (x : Int32) (h : Hp) (Q : Int32 → Prop) : wX11_isWay x h Q = Q (if x < 0 ∨ 2 < x then 0 else 1) := by
  unfold wX11_isWay
  exact e01 _ _ Q
theorem WD.ew {h : Hp} {N g : Nat} {num : Nat → Nat} {P0 P1 : Option Lns} (W : WD h N g num P0 P1) {way : Nat} (hw : way ≤ 2) : EW h (num, g, hL h, hRt h, hC h, N, way, P0) := ⟨W.1, W.2.1, W.2.2.1, rfl, rfl, rfl, hw⟩
-- day
set_option maxRecDepth 20000 in
set_option maxHeartbeats 1000000 in
theorem ok_day {h : Hp} (I : Inv h) (x1 : Int32) (x2 : Int32) (x3 : Int32) {A1 : Prop} (b1 : A1) {A2 : Prop} (b2 : A2) {A3 : Prop} (b3 : A3) {R : Hp → Prop} {Q0 : Prop} (hR : ∀ h', Inv h' → R h') : wX11_day 0 x1 x2 x3 h (fun v h1 => A1 ∧ (A2 ∧ (A3 ∧ (wX12_day 55 x1 x2 x3 h1 (fun v' h2 => if v = v' then R h2 else Q0))))) := by
  obtain ⟨N, gn, num, P0, P1, WW⟩ := I.world
  have hN := WW.1.1
  unfold wX11_day
  rw [e_isWay]
  rcases bd x1 0 2 (l := 0) (u := 2) rfl rfl (by omega) (by omega) with c | ⟨way, _, hw, rfl, c⟩
  · rw [if_pos c, if_pos rfl]
    refine ⟨b1, b2, b3, ?_⟩
    unfold wX12_day
    rw [e_in, if_pos c, if_pos rfl]
    exact fin rfl (hR h I)
  · rw [if_neg c, if_neg (by decide), rf_0_1, e_pHas, WW.1.2.1]
    rcases ix x2 N (by omega) with d | ⟨p, hp, rfl, d⟩
    · rw [if_pos d, if_pos rfl]
      refine ⟨b1, b2, b3, ?_⟩
      unfold wX12_day
      rw [e_in, if_neg c, if_neg (by decide), e_isPerson x2 WW.1.2.2.1 (by omega), if_pos d, if_pos rfl]
      exact fin rfl (hR h I)
    · rw [if_neg d, if_neg (by decide)]
      rcases bd x3 0 1 (l := 0) (u := 1) rfl rfl (by omega) (by omega) with e | ⟨x, _, hx, rfl, e⟩
      · have key : wX12_day 55 (nI way) (nI p) x3 h (fun v' h2 => if -1 = v' then R h2 else Q0) := by
          unfold wX12_day
          rw [e_in, if_neg c, if_neg (by decide), e_isPerson (nI p) WW.1.2.2.1 (by omega), if_neg d, if_neg (by decide), e_in, if_pos e, if_pos rfl]
          exact fin rfl (hR h I)
        by_cases e0 : x3 < 0
        · rw [if_pos e0]; exact ⟨b1, b2, b3, key⟩
        · rw [if_neg e0, if_neg (Int32.not_le.mpr (e.resolve_left e0))]; exact ⟨b1, b2, b3, key⟩
      · rw [if_neg (show ¬ nI x < 0 from fun z => e (Or.inl z)), if_pos (nl (show ¬ (1 : Int32) < nI x from fun z => e (Or.inr z))), rf_0_8]
        have X := WW.ew hw
        obtain ⟨E, hE⟩ : ∃ E, (num, gn, hL h, hRt h, hC h, N, way, P0) = E := ⟨_, rfl⟩
        rw [hE] at X
        have eway : eWay E = way := by rw [← hE]; rfl
        have c' : ¬ (nI (eWay E) < 0 ∨ 2 < nI (eWay E)) := by rw [eway]; exact c
        rw [← eway]
        apply c_goThrough X
        intro T hT xs h1 D1 ok1
        obtain ⟨dd, hdd⟩ : ∃ dd, days E T = dd := ⟨_, rfl⟩
        rw [hdd] at D1 ok1
        have F1 := D1.2.2.2.2.2.2.2
        have W1 := WW.fw F1.fw
        have X1 := X.fw F1.fw
        have vp : vp_in (nI p) 12 := (vp_nI (by omega)).mpr (by omega)
        have key : ∀ v : Int32, v = (if nI x = 0 then dd.2.2.1 p else dd.2.2.2.1 p) → wX12_day 55 (nI (eWay E)) (nI p) (nI x) h1 (fun v' h2 => if v = v' then R h2 else Q0) := by
          intro v hv
          unfold wX12_day
          rw [e_in, if_neg c', if_neg (by decide), e_isPerson (nI p) W1.1.2.2.1 (by omega), if_neg d, if_neg (by decide), e_in, if_neg e, if_neg (by decide)]
          apply m_goDay X1
          intro T2 hT2 h2 D2 ok2
          rw [show T2 = T by omega, hdd] at D2
          simp only [rf_55_31, rf_55_32, ln_74, ln_75, nI_clamp (show p < 2 ^ 31 by omega), (D2.2.2.2.2.1 p (by omega)).1, (D2.2.2.2.2.1 p (by omega)).2]
          have i2 := I.fd (F1.trans D2.2.2.2.2.2)
          by_cases x0 : nI x = 0
          · rw [if_pos x0] at hv ⊢
            exact ⟨vp, fin hv (hR h2 i2)⟩
          · rw [if_neg x0] at hv ⊢
            exact ⟨vp, fin hv (hR h2 i2)⟩
        simp only [rf_27_3, rf_27_4, ln_28, ln_29, nI_clamp (show p < 2 ^ 31 by omega), (D1.2.2.2.2.2.2.1 p (by omega)).1, (D1.2.2.2.2.2.2.1 p (by omega)).2]
        by_cases x0 : nI x = 0
        · rw [if_pos x0] at key ⊢
          exact ⟨vp, b1, b2, b3, key _ rfl⟩
        · rw [if_neg x0] at key ⊢
          exact ⟨vp, b1, b2, b3, key _ rfl⟩
-- sum
set_option maxRecDepth 20000 in
set_option maxHeartbeats 1000000 in
theorem ok_sum {h : Hp} (I : Inv h) (x1 : Int32) (x2 : Int32) {A1 : Prop} (b1 : A1) {A2 : Prop} (b2 : A2) {R : Hp → Prop} {Q0 : Prop} (hR : ∀ h', Inv h' → R h') : wX11_sum 0 x1 x2 h (fun v h1 => A1 ∧ (A2 ∧ (wX12_sum 55 x1 x2 h1 (fun v' h2 => if v = v' then R h2 else Q0)))) := by
  obtain ⟨N, gn, num, P0, P1, WW⟩ := I.world
  have hN := WW.1.1
  have h12 := p12 hN
  unfold wX11_sum
  rw [e_isWay]
  rcases bd x1 0 2 (l := 0) (u := 2) rfl rfl (by omega) (by omega) with c | ⟨way, _, hw, rfl, c⟩
  · rw [if_pos c, if_pos rfl]
    refine ⟨b1, b2, ?_⟩
    unfold wX12_sum
    rw [e_in, if_pos c, if_pos rfl]
    exact fin rfl (hR h I)
  · rw [if_neg c, if_neg (by decide)]
    rcases bd x2 0 2 (l := 0) (u := 2) rfl rfl (by omega) (by omega) with e | ⟨x, _, hx, rfl, e⟩
    · have key : wX12_sum 55 (nI way) x2 h (fun v' h2 => if -1 = v' then R h2 else Q0) := by
        unfold wX12_sum
        rw [e_in, if_neg c, if_neg (by decide), e_in, if_pos e, if_pos rfl]
        exact fin rfl (hR h I)
      by_cases e0 : x2 < 0
      · rw [if_pos e0]; exact ⟨b1, b2, key⟩
      · rw [if_neg e0, if_neg (Int32.not_le.mpr (e.resolve_left e0))]; exact ⟨b1, b2, key⟩
    · rw [if_neg (show ¬ nI x < 0 from fun z => e (Or.inl z)), if_pos (nl (show ¬ (2 : Int32) < nI x from fun z => e (Or.inr z))), rf_0_8]
      have X := WW.ew hw
      obtain ⟨E, hE⟩ : ∃ E, (num, gn, hL h, hRt h, hC h, N, way, P0) = E := ⟨_, rfl⟩
      rw [hE] at X
      have eway : eWay E = way := by rw [← hE]; rfl
      have c' : ¬ (nI (eWay E) < 0 ∨ 2 < nI (eWay E)) := by rw [eway]; exact c
      have en : eN E = N := by rw [← hE]; rfl
      rw [← eway]
      apply c_goThrough X
      intro T hT xs h1 D1 ok1
      obtain ⟨dd, hdd⟩ : ∃ dd, days E T = dd := ⟨_, rfl⟩
      rw [hdd] at D1 ok1
      obtain ⟨d1, d2, d3, d4, d5, d6, d7, F1⟩ := D1
      have W1 := WW.fw F1.fw
      have X1 := X.fw F1.fw
      have lo : dd.1 < 4096 := by have := ok1.1; rw [en] at this; omega
      have key : ∀ v : Int32, v = (if nI x = 0 then nI dd.2.2.2.2.1 else if nI x = 1 then nI dd.2.2.2.2.2 else nI (pop dd.1)) → wX12_sum 55 (nI (eWay E)) (nI x) h1 (fun v' h2 => if v = v' then R h2 else Q0) := by
        intro v hv
        unfold wX12_sum
        rw [e_in, if_neg c', if_neg (by decide), e_in, if_neg e, if_neg (by decide)]
        apply m_goDay X1
        intro T2 hT2 h2 D2 ok2
        rw [show T2 = T by omega, hdd] at D2
        obtain ⟨m1, m2, m3, m4, m5, F2⟩ := D2
        have i2 := I.fd (F1.trans F2)
        rw [m1, m3, m4]
        by_cases x0 : nI x = 0
        · rw [if_pos x0] at hv ⊢
          exact fin hv (hR h2 i2)
        · rw [if_neg x0] at hv ⊢
          by_cases x1 : nI x = 1
          · rw [if_pos x1] at hv ⊢
            exact fin hv (hR h2 i2)
          · rw [if_neg x1] at hv ⊢
            apply m_bitsOf lo
            exact fin hv (hR h2 i2)
      rw [d4, d5, d6]
      by_cases x0 : nI x = 0
      · rw [if_pos x0] at key ⊢
        exact ⟨b1, b2, key _ rfl⟩
      · rw [if_neg x0] at key ⊢
        by_cases x1 : nI x = 1
        · rw [if_pos x1] at key ⊢
          exact ⟨b1, b2, key _ rfl⟩
        · rw [if_neg x1] at key ⊢
          rw [e_bitCount h1 lo]
          exact ⟨b1, b2, key _ rfl⟩
