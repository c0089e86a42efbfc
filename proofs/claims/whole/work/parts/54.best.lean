theorem rep.kept {h h' : Hp} {P : Nat → Nat → Nat → Prop} (r : rep h P) (e : ∀ k, gI h' 31 k = gI h 31 k) : rep h' P := by
  intro w o hw ho
  have := r w o hw ho
  show (gI h' 31 (w * 32 + o) = _ ∧ _) ∨ ∃ c, _ ∧ gI h' 31 (w * 32 + o) = _ ∧ _
  rw [e]
  exact this
theorem GRP.none {E : EV} {m F : Nat} {h : Hp} (G : GRP E m F h) (h0 : gI h 30 5 ≤ 0) : ∀ G, 1 ≤ G → G < 2 ^ eN E → sbt G F → pop G = m → False := by
  obtain ⟨gc, g1, g2, g3, g4⟩ := G
  intro G z1 z2 z3 z4
  obtain ⟨j, j1, j2⟩ := g4 G z1 z2 z3 z4
  rw [g2] at h0
  exact nI_nle (by omega) (by omega) h0
theorem POu_ok {E : EV} {m t : Nat} {P : Nat → Nat → Nat → Prop} (pv : ∀ o w c, P o w c → vOK E o w) : ∀ o w c, POu E m t P o w c → vOK E o w := by
  rintro o' w' c ⟨o, w, A, h1, h2, rfl, rfl⟩
  exact (pv o w c h1).out h2.1
theorem PIn_ok {E : EV} {m t : Nat} {P : Nat → Nat → Nat → Prop} (pv : ∀ o w c, P o w c → vOK E o w) : ∀ o w c, PIn E m t P o w c → vOK E o w := by
  rintro o' w c ⟨o, B, h1, h2, rfl⟩
  exact (pv o w c h1).inn h2.1
theorem c_step {h0 h : Hp} {E : EV} {t : Nat} {K50 : Int32 → Hp → Prop} {Q : Int32 → Hp → Prop} (X : EW h0 E) (hN : eN E ≤ 5) (hg : 0 < eG E) (ht : t < 60) (F : Fb h0 h) (e6 : gI h 30 6 = nI (2 ^ eN E)) (r : rep h (PF E (eNum E 0) t))
    (hK : ∀ h', Fb h0 h' → gI h' 30 6 = nI (2 ^ eN E) → rep h' (PF E (eNum E 0) (t + 1)) → K50 (nI (t + 1)) h') : fX7_cost_50 30 Q K50 (nI t) h := by
  have h32 := p5 hN
  have n0 : 1 ≤ 2 ^ eN E := Nat.one_le_two_pow
  have Xh := X.fw F.fw
  obtain ⟨y1, y2, m1, m6⟩ := X.2.1.2.2.2 0 hg
  have hc : ∀ p, p < eN E → eC E p ≤ 9 := by
    intro p hp
    rw [← X.2.2.2.2.2.1]
    exact (X.1.2.2.2 p hp).2.2.2.2.2.2.2.2.2
  have pv0 : ∀ o w c, PF E (eNum E 0) t o w c → vOK E o w := PF_ok t
  have pl0 : ∀ o w c, PF E (eNum E 0) t o w c → c < 900000 := by
    intro o w c q
    have := PF_le hN hc t o w c q
    omega
  unfold fX7_cost_50
  rw [if_neg (show ¬ (60 : Int32) ≤ nI t from nI_ge (b := 60) ht (by omega)), rf_30_1]
  apply c_wOut (w := 0) Xh.1 (by omega)
  rw [Xh.2.2.2.1]
  have hb1 := setB_lt (fun k => decide (eL E k ≤ t)) (eN E)
  have hb2 := setB_lt (fun k => decide (eR E k ≤ t)) (eN E)
  apply c_groups (s := 0) Xh hN hg (Nat.lt_of_le_of_lt anot_le hb1) e6
  intro h1 G1 k6 kt F1
  have r1 := r.kept kt
  have FF1 := F.trans F1
  have X1 := X.fw FF1.fw
  -- behind the way out
  have next : ∀ h2, Fb h0 h2 → gI h2 30 6 = nI (2 ^ eN E) → rep h2 (POu E (eNum E 0) t (PF E (eNum E 0) t)) → jX7_cost_82 30 (nI t) h2 K50 Q := by
    intro h2 F2 e2 r2
    have X2 := X.fw F2.fw
    unfold jX7_cost_82
    rw [rf_30_1, e2, show nI (2 ^ eN E) - 1 = nI (2 ^ eN E - 1) by
      obtain ⟨k, hk⟩ : ∃ k, 2 ^ eN E = k + 1 := ⟨2 ^ eN E - 1, by omega⟩
      rw [hk, nI_pred, Nat.add_sub_cancel]]
    apply c_wIn X2.1 (by omega) (by omega)
    rw [X2.2.2.2.2.1]
    apply c_groups (s := 1) X2 hN hg (Nat.lt_of_le_of_lt Nat.and_le_left hb2) e2
    intro h3 G3 k3 kt3 F3
    have r3 := r2.kept kt3
    have FF3 := F2.trans F3
    have X3 := X.fw FF3.fw
    have last : ∀ h4, Fb h0 h4 → gI h4 30 6 = nI (2 ^ eN E) → rep h4 (PIn E (eNum E 0) t (POu E (eNum E 0) t (PF E (eNum E 0) t))) → jX7_cost_113 30 (nI t) h4 K50 Q := by
      intro h4 F4 e4 r4
      have X4 := X.fw F4.fw
      unfold jX7_cost_113
      apply c_pay_all X4 hN (by omega) e4
      intro h5 hT e5 F5
      simp only [forall_eq, nI_1]
      refine hK h5 (F4.trans F5) e5 ((rep_pay hN hc r4 (PIn_ok (POu_ok pv0)) ?_ hT).iff PF_step)
      rintro o w c ⟨o1, B, ⟨o0, w0, A, q, _⟩, _⟩
      exact pl0 _ _ _ q
    by_cases z : gI h3 30 5 ≤ 0
    · rw [if_pos z]
      refine last h3 FF3 k3 (rep_in (h0 := h3) hN m1 r3 (POu_ok pv0) ⟨fun _ _ _ _ => Int32.le_refl _, fun w o hw ho => Or.inr ⟨o, 0, ho, rfl, (anot_0 (by omega)).symm, sbt_0 _, sbt_0 _, by rw [show pop 0 = 0 by decide]; exact Nat.zero_mod _⟩, rfl, rfl, fun _ => rfl, Fb.refl h3⟩ ?_)
      intro w o G _ _ z1 z2 z3 z4 _
      exact absurd z4 (fun z4 => G3.none z G z1 z2 z3 z4)
    · rw [if_neg z]
      apply c_in hN k3 G3
      intro h4 O4 hr4
      exact last h4 (FF3.trans O4.2.2.2.2.2) (O4.2.2.2.1.trans k3) (rep_in hN m1 r3 (POu_ok pv0) O4 hr4)
  by_cases z : gI h1 30 5 ≤ 0
  · rw [if_pos z]
    refine next h1 FF1 k6 (rep_out (h0 := h1) hN m1 r1 pv0 ⟨fun _ _ _ _ => Int32.le_refl _, fun w o hw ho => Or.inr ⟨w, o, 0, hw, ho, rfl, by simp, by simp, fun i hi => by rw [Nat.zero_testBit] at hi; exact absurd hi (by decide), sbt_0 _, by rw [show pop 0 = 0 by decide]; exact Nat.zero_mod _⟩, rfl, rfl, fun _ => rfl, Fb.refl h1⟩ ?_)
    intro w o G _ _ z1 z2 z3 z4 _
    exact absurd z4 (fun z4 => G1.none z G z1 z2 z3 z4)
  · rw [if_neg z]
    apply c_out hN m1 k6 G1
    intro h2 O2 hr2
    exact next h2 (FF1.trans O2.2.2.2.2.2) (O2.2.2.2.1.trans k6) (rep_out hN m1 r1 pv0 O2 hr2)
theorem c_cost {h0 : Hp} {E : EV} (X : EW h0 E) (hN : eN E ≤ 5) (hg : 0 < eG E) {Q : Int32 → Hp → Prop}
    (hQ : ∀ T, T = 60 → ∀ h' c, Fb h0 h' → c < 1000000 → (∃ o w, PF E (eNum E 0) T o w c) → (∀ o w c', PF E (eNum E 0) T o w c' → c ≤ c') → Q (nI c) h') (ex : ∀ T, T = 60 → ∃ o w c, PF E (eNum E 0) T o w c) : wX7_cost 30 h0 Q := by
  have h32 := p5 hN
  unfold wX7_cost
  rw [rf_30_1, X.1.2.1, show (5 : Int32) = nI 5 from rfl, e_mn (by omega) (by omega), Nat.min_eq_right hN, shl1 _ (by omega)]
  simp only [forall_eq]
  refine iX7_cost_19 (I := fun x1 h => ∃ k, x1 = nI k ∧ k ≤ 1024 ∧ (∀ i, i < k → gI h 31 i = if i = 0 then 0 else 2147483647) ∧ gI h 30 6 = nI (2 ^ eN E) ∧ Fb h0 h) (μ := fun x1 _ => 1024 - x1.toNatClampNeg) ?_ 0 _ ⟨0, rfl, by omega, fun i hi => by omega, by simp only [forall_eq, gI_sI, gI_sL, gL_sI, gL_sL, gI_cpI, gL_cpI, gI_cpL, gL_cpL, Nat.reduceEqDiff, Nat.reduceAdd, Nat.reduceSub, cl0, cl1, cl12, cl39, and_false, false_and, and_true, true_and, and_self, ↓reduceIte], (Fb.refl h0).set 30 6 _ rfl⟩
  rintro x1 h ⟨k, rfl, hk, hi, e6, F⟩ K hK
  unfold fX7_cost_19
  by_cases c : 1024 ≤ k
  · rw [if_pos (show (1024 : Int32) ≤ nI k from nI_le (a := 1024) c (by omega))]
    have r0 : rep h (PF E (eNum E 0) 0) := by
      intro w o hw ho
      show (gI h 31 (w * 32 + o) = _ ∧ _) ∨ ∃ c, _ ∧ gI h 31 (w * 32 + o) = _ ∧ _
      rw [hi _ (by omega)]
      by_cases z : w * 32 + o = 0
      · rw [if_pos z]
        refine Or.inr ⟨0, by omega, rfl, ⟨by omega, by omega, rfl⟩, fun c' _ => Nat.zero_le c'⟩
      · rw [if_neg z]
        refine Or.inl ⟨rfl, fun c q => ?_⟩
        have := q.1
        have := q.2.1
        omega
    refine iX7_cost_50 (I := fun x1 h => ∃ t, x1 = nI t ∧ t ≤ 60 ∧ Fb h0 h ∧ gI h 30 6 = nI (2 ^ eN E) ∧ rep h (PF E (eNum E 0) t)) (μ := fun x1 _ => 60 - x1.toNatClampNeg) ?_ 0 h ⟨0, rfl, by omega, F, e6, r0⟩
    rintro x1 h ⟨t, rfl, ht, F, e6, r⟩ K2 hK2
    by_cases d : t < 60
    · apply c_step X hN hg d F e6 r
      intro h' F' e' r'
      exact hK2 _ _ ⟨t + 1, rfl, by omega, F', e', r'⟩ (by rw [nI_clamp (by omega), nI_clamp (by omega)]; omega)
    · unfold fX7_cost_50
      rw [if_pos (show (60 : Int32) ≤ nI t from nI_le (a := 60) (by omega) (by omega))]
      have ht60 : t = 60 := by omega
      refine iX7_cost_129 (I := fun x1 x2 => ∃ k, x2 = nI k ∧ k ≤ 1024 ∧ (∀ i, i < k → x1 ≤ gI h 31 i) ∧ (x1 = 2147483647 ∨ ∃ i, i < k ∧ x1 = gI h 31 i)) (μ := fun _ x2 => 1024 - x2.toNatClampNeg) ?_ 2147483647 0 ⟨0, rfl, by omega, fun i hi => by omega, Or.inl rfl⟩
      rintro x1 x2 ⟨k, rfl, hk, h1, h2⟩ K3 hK3
      unfold fX7_cost_129
      by_cases z : 1024 ≤ k
      · rw [if_pos (show (1024 : Int32) ≤ nI k from nI_le (a := 1024) z (by omega))]
        have low : ∀ o w c', PF E (eNum E 0) t o w c' → ∃ c1, c1 ≤ c' ∧ c1 < 1000000 ∧ x1 ≤ nI c1 := by
          intro o w c' q
          have v := PF_ok t o w c' q
          have ol := sbt_lt v.2 v.1
          have wl := v.1
          rcases r w o (by omega) (by omega) with ⟨q1, q2⟩ | ⟨c1, q1, q2, q3, q4⟩
          · exact absurd q (q2 c')
          · refine ⟨c1, q4 c' q, q1, ?_⟩
            rw [← q2]
            exact h1 _ (by omega)
        obtain ⟨o9, w9, c9, q9⟩ := ex t ht60
        obtain ⟨c8, _, l8, l9⟩ := low o9 w9 c9 q9
        rcases h2 with q | ⟨i, i1, i2⟩
        · exfalso
          rw [q] at l9
          have := (nI_leI (a := 2147483647) (b := c8) (by omega) (by omega)).mp l9
          omega
        · have ei : i = (i / 32) * 32 + i % 32 := by omega
          rcases r (i / 32) (i % 32) (by omega) (by omega) with ⟨q1, q2⟩ | ⟨c1, q1, q2, q3, q4⟩
          · exfalso
            have q1 : gI h 31 ((i / 32) * 32 + i % 32) = _ := q1
            rw [← ei, ← i2] at q1
            rw [q1] at l9
            have := (nI_leI (a := 2147483647) (b := c8) (by omega) (by omega)).mp l9
            omega
          · have q2 : gI h 31 ((i / 32) * 32 + i % 32) = _ := q2
            rw [← ei, ← i2] at q2
            rw [q2]
            refine hQ t ht60 h c1 F q1 ⟨_, _, q3⟩ (fun o w c' q => ?_)
            obtain ⟨c2, l1, l2, l3⟩ := low o w c' q
            rw [q2] at l3
            have := (nI_leI (by omega) (by omega)).mp l3
            omega
      · rw [if_neg (show ¬ (1024 : Int32) ≤ nI k from nI_ge (b := 1024) (by omega) (by omega)), rf_30_3, ln_31, nI_clamp (show k < 2 ^ 31 by omega)]
        simp only [forall_eq, nI_1]
        refine ⟨(vp_nI (by omega)).mpr (by omega), hK3 _ _ ⟨k + 1, rfl, by omega, fun i hi => ?_, ?_⟩ (by rw [nI_clamp (by omega), nI_clamp (by omega)]; omega)⟩
        · by_cases y : i = k
          · rw [y]; exact mn_le2 _ _
          · exact Int32.le_trans (mn_le1 _ _) (h1 i (by omega))
        · rcases mn_or x1 (gI h 31 k) with y | y
          · rw [y]
            rcases h2 with q | ⟨i, i1, i2⟩
            · exact Or.inl q
            · exact Or.inr ⟨i, by omega, i2⟩
          · exact Or.inr ⟨k, by omega, y⟩
  · rw [if_neg (show ¬ (1024 : Int32) ≤ nI k from nI_ge (b := 1024) (by omega) (by omega)), rf_30_3, ln_31, nI_clamp (show k < 2 ^ 31 by omega)]
    simp only [forall_eq, nI_1]
    have vk : vp_in (nI k) 1024 := (vp_nI (by omega)).mpr (by omega)
    have mu : 1024 - (nI (k + 1)).toNatClampNeg < 1024 - (nI k).toNatClampNeg := by rw [nI_clamp (by omega), nI_clamp (by omega)]; omega
    by_cases d : k = 0
    · rw [if_pos (show nI k = 0 by rw [d]; rfl)]
      refine ⟨vk, hK _ _ ⟨k + 1, rfl, by omega, fun i hi => ?_, by simp only [forall_eq, gI_sI, gI_sL, gL_sI, gL_sL, gI_cpI, gL_cpI, gI_cpL, gL_cpL, Nat.reduceEqDiff, Nat.reduceAdd, Nat.reduceSub, cl0, cl1, cl12, cl39, and_false, false_and, and_true, true_and, and_self, ↓reduceIte]; exact e6, F.set 31 _ _ rfl⟩ mu⟩
      have : i = 0 := by omega
      rw [gI_sI, if_pos ⟨rfl, by omega⟩, if_pos this]
    · rw [if_neg (nI_ne0 (by omega) (by omega))]
      refine ⟨vk, hK _ _ ⟨k + 1, rfl, by omega, fun i hi2 => ?_, by simp only [forall_eq, gI_sI, gI_sL, gL_sI, gL_sL, gI_cpI, gL_cpI, gI_cpL, gL_cpL, Nat.reduceEqDiff, Nat.reduceAdd, Nat.reduceSub, cl0, cl1, cl12, cl39, and_false, false_and, and_true, true_and, and_self, ↓reduceIte]; exact e6, F.set 31 _ _ rfl⟩ mu⟩
      rw [gI_sI]
      by_cases y : i = k
      · rw [if_pos ⟨rfl, y⟩, if_neg (by omega)]
      · rw [if_neg (fun q => y q.2)]
        exact hi i (by omega)
