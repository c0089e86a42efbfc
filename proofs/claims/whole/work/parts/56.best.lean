theorem m_round {h0 h1 : Hp} {E : EV} {T n t : Nat} {K52 : Int32 → Hp → Prop} {Q : Int32 → Hp → Prop} (X : EW h0 E) (hN : eN E ≤ 5) (hg : 0 < eG E) (ht : t < 60) (hn : n ≤ 60) (et : T - 1 - n = t) (F1 : Fb h0 h1) (L : LT2 E h1 (LB E (eNum E 0) T n))
    (hK0 : ∀ h', Fb h0 h' → LT2 E h' (LB E (eNum E 0) T (n + 1)) → K52 (nI t + -1) h') : eX12_best_74 55 (nI (2 ^ eN E - 1)) (nI t) (nI (MY E 0 t)) (nI (MY E 1 t)) K52 Q 0 h1 := by
  have h32 := p5 hN
  have n0 : 1 ≤ 2 ^ eN E := Nat.one_le_two_pow
  have hc : ∀ p, p < eN E → eC E p ≤ 9 := by
    intro p hp
    rw [← X.2.2.2.2.2.1]
    exact (X.1.2.2.2 p hp).2.2.2.2.2.2.2.2.2
  have bl := LB_le (m := eNum E 0) (T := T) hN hc n
  have hLB : ∀ o w, LB E (eNum E 0) T (n + 1) o w = ouF E (eNum E 0) t o w (LB E (eNum E 0) T n) := by
    intro o w
    rw [LB, et]
  refine iX12_best_74 (I := fun x5 h => ∃ w, x5 = nI w ∧ w ≤ 2 ^ eN E ∧ Fb h0 h ∧ (∀ k, gI h 77 k = gI h1 77 k) ∧ ∀ o' w', vOK E o' w' → w' < w → gI h 76 (32 * o' + w') = nI (LB E (eNum E 0) T (n + 1) o' w')) (μ := fun x5 _ => 2 ^ eN E - x5.toNatClampNeg) ?_ 0 h1 ⟨0, rfl, Nat.zero_le _, F1, fun _ => rfl, fun o' w' _ h => by omega⟩
  rintro x5 h ⟨w, rfl, hw, F, e77, hr⟩ K hK
  unfold fX12_best_74
  by_cases c : 2 ^ eN E - 1 < w
  · rw [if_pos (nI_lt c (by omega))]
    refine iX12_best_140 (I := fun x5 h' => ∃ k, x5 = nI k ∧ k ≤ 1024 ∧ Fb h0 h' ∧ (∀ i, gI h' 76 i = gI h 76 i) ∧ ∀ i, i < k → gI h' 77 i = gI h 76 i) (μ := fun x5 _ => 1024 - x5.toNatClampNeg) ?_ 0 h ⟨0, rfl, by omega, F, fun _ => rfl, fun i hi => by omega⟩
    rintro x5 h' ⟨k, rfl, hk, F', e76, hi⟩ K2 hK2
    unfold fX12_best_140
    by_cases d : 1024 ≤ k
    · rw [if_pos (show (1024 : Int32) ≤ nI k from nI_le (a := 1024) d (by omega))]
      simp only [forall_eq]
      refine hK0 h' F' (fun o' w' v => ?_)
      have wl := v.1
      have ol := sbt_lt v.2 v.1
      rw [hi _ (by omega)]
      exact hr o' w' v (by omega)
    · rw [if_neg (show ¬ (1024 : Int32) ≤ nI k from nI_ge (b := 1024) (by omega) (by omega)), rf_55_37, rf_55_38, ln_76, ln_77, nI_clamp (show k < 2 ^ 31 by omega), e76 k]
      have vk : vp_in (nI k) 1024 := (vp_nI (by omega)).mpr (by omega)
      simp only [forall_eq, nI_1]
      refine ⟨vk, vk, hK2 _ _ ⟨k + 1, rfl, by omega, F'.set 77 _ _ rfl, fun i => by simp only [forall_eq, gI_sI, gI_sL, gL_sI, gL_sL, gI_cpI, gL_cpI, gI_cpL, gL_cpL, Nat.reduceEqDiff, Nat.reduceAdd, Nat.reduceSub, cl0, cl1, cl12, cl39, and_false, false_and, and_true, true_and, and_self, ↓reduceIte]; exact e76 i, fun i hi2 => ?_⟩ (by rw [nI_clamp (by omega), nI_clamp (by omega)]; omega)⟩
      rw [gI_sI]
      by_cases z : i = k
      · rw [if_pos ⟨rfl, z⟩, z]
      · rw [if_neg (fun q => z q.2)]
        exact hi i (by omega)
  · rw [if_neg (nI_nlt (by omega) (by omega))]
    refine iX12_best_83 (I := fun x6 h => ∃ o, x6 = nI o ∧ o ≤ w + 1 ∧ Fb h0 h ∧ (∀ k, gI h 77 k = gI h1 77 k) ∧ ∀ o' w', vOK E o' w' → (w' < w ∨ (w' = w ∧ o' < o)) → gI h 76 (32 * o' + w') = nI (LB E (eNum E 0) T (n + 1) o' w')) (μ := fun x6 _ => w + 1 - x6.toNatClampNeg) ?_ 0 h ⟨0, rfl, by omega, F, e77, fun o' w' v z => hr o' w' v (by omega)⟩
    rintro x6 h ⟨o, rfl, ho, F, e77, hr⟩ K2 hK2
    unfold fX12_best_83
    by_cases d : w < o
    · rw [if_pos (nI_lt d (by omega))]
      simp only [forall_eq, nI_1]
      refine hK _ _ ⟨w + 1, rfl, by omega, F, e77, fun o' w' v z => hr o' w' v ?_⟩ (by rw [nI_clamp (by omega), nI_clamp (by omega)]; omega)
      have := sbt_le v.2
      omega
    · rw [if_neg (nI_nlt (by omega) (by omega)), anot_nI (by omega)]
      have mu : w + 1 - (nI (o + 1)).toNatClampNeg < w + 1 - (nI o).toNatClampNeg := by rw [nI_clamp (by omega), nI_clamp (by omega)]; omega
      simp only [forall_eq, nI_1]
      have al : anot o w ≤ o := anot_le
      by_cases z : anot o w = 0
      · rw [if_pos (by rw [z]; rfl)]
        have v : vOK E o w := ⟨by omega, (sbt_anot (by omega)).mp z⟩
        have Xh := X.fw F.fw
        apply m_bestOut Xh hN hg ht v (v := LB E (eNum E 0) T n) (b := 45 * n) (fun o' w' v' => by rw [e77]; exact L o' w' v') bl (by omega)
        rw [show (32 : Int32) * nI o + nI w = nI (32 * o + w) by simp (disch := omega) only [lit, nI_ltI, nI_leI, nI_eq, nI_clamp, nI_add, vp_nI, nI_ne_neg, neg_ne_nI, pk_sub, pk_mul, pk_div, Nat.reduceAdd, Nat.reduceMul, Nat.reducePow, e_mn, e_mx, e_rm, lt_t, lt_f, le_t, le_f, eq_f, eq_t, ↓reduceIte, true_and, and_true, and_false, false_and, and_self, or_true, or_false, true_or, false_or, not_true, not_false_iff], rf_55_37, ln_76, nI_clamp (show 32 * o + w < 2 ^ 31 by omega)]
        refine ⟨(vp_nI (by omega)).mpr (by omega), hK2 _ _ ⟨o + 1, rfl, by omega, F.set 76 _ _ rfl, fun k => by simp only [forall_eq, gI_sI, gI_sL, gL_sI, gL_sL, gI_cpI, gL_cpI, gI_cpL, gL_cpL, Nat.reduceEqDiff, Nat.reduceAdd, Nat.reduceSub, cl0, cl1, cl12, cl39, and_false, false_and, and_true, true_and, and_self, ↓reduceIte]; exact e77 k, fun o' w' v' q => ?_⟩ mu⟩
        have wl' := v'.1
        have ol' := sbt_lt v'.2 v'.1
        rw [gI_sI]
        by_cases y : 32 * o' + w' = 32 * o + w
        · rw [if_pos ⟨rfl, y⟩, show o' = o by omega, show w' = w by omega, hLB]
        · rw [if_neg (fun q => y q.2)]
          exact hr o' w' v' (by omega)
      · rw [if_neg (nI_ne0 (by omega) (by omega))]
        refine hK2 _ _ ⟨o + 1, rfl, by omega, F, e77, fun o' w' v' q => ?_⟩ mu
        by_cases y : w' = w ∧ o' = o
        · obtain ⟨rfl, rfl⟩ := y
          exact absurd ((sbt_anot (by omega)).mpr v'.2) z
        · exact hr o' w' v' (by omega)
theorem m_least {h0 : Hp} {E : EV} (X : EW h0 E) (hN : eN E ≤ 5) (hg : 0 < eG E) {Q : Int32 → Hp → Prop} (hQ : ∀ T, T = 60 → ∀ h', Fb h0 h' → Q (nI (LB E (eNum E 0) T T 0 0)) h') : eX12_best_20 55 Q 0 h0 := by
  have h32 := p5 hN
  have n0 : 1 ≤ 2 ^ eN E := Nat.one_le_two_pow
  refine iX12_best_20 (I := fun x1 h => ∃ k, x1 = nI k ∧ k ≤ 1024 ∧ Fb h0 h ∧ ∀ i, i < k → gI h 77 i = 0) (μ := fun x1 _ => 1024 - x1.toNatClampNeg) ?_ 0 h0 ⟨0, rfl, by omega, Fb.refl h0, fun i hi => by omega⟩
  rintro x1 h ⟨k, rfl, hk, F, hi⟩ K hK
  unfold fX12_best_20
  by_cases c : 1024 ≤ k
  · rw [if_pos (show (1024 : Int32) ≤ nI k from nI_le (a := 1024) c (by omega)), (X.fw F.fw).1.2.2.1, shl1 _ (by omega)]
    simp only [forall_eq]
    rw [show nI (2 ^ eN E) - 1 = nI (2 ^ eN E - 1) by
      obtain ⟨k, hk⟩ : ∃ k, 2 ^ eN E = k + 1 := ⟨2 ^ eN E - 1, by omega⟩
      rw [hk, nI_pred, Nat.add_sub_cancel]]
    obtain ⟨T, hT⟩ : ∃ T, T = 60 := ⟨_, rfl⟩
    refine iX12_best_52 (I := fun x2 h => ∃ k, x2 = nI k + -1 ∧ k ≤ 60 ∧ Fb h0 h ∧ LT2 E h (LB E (eNum E 0) T (T - k))) (μ := fun x2 _ => (x2 + 1).toNatClampNeg) ?_ 59 h ⟨60, by decide, by omega, F, fun o w v => ?_⟩
    · rintro x2 h ⟨k, rfl, hk, F, L⟩ K2 hK2
      unfold fX12_best_52
      cases k with
      | zero =>
        rw [if_pos (show nI 0 + -1 < 0 by decide), rf_55_38, ln_77, cl0]
        have := L 0 0 ⟨by omega, sbt_0 _⟩
        rw [show gI h 77 0 = _ from this, Nat.sub_zero]
        exact ⟨(vp_nI (a := 0) (by omega)).mpr (by omega), hQ T hT h F⟩
      | succ t =>
        rw [pk_m1, if_neg (nI_pos (by omega))]
        have Xh := X.fw F.fw
        apply m_mayOf (s := 0) Xh
        intro h2 F2
        apply m_mayOf (s := 1) (Xh.fw F2.fw)
        intro h3 F3
        have F4 := F2.trans F3
        apply m_round (T := T) (n := T - (t + 1)) X hN hg (by omega) (by omega) (by omega) (F.trans F4.fb) (fun o w v => by rw [F4.at 77 _ (by decide)]; exact L o w v)
        intro h' F' L'
        refine hK2 _ _ ⟨t, rfl, by omega, F', by rw [show T - t = T - (t + 1) + 1 by omega]; exact L'⟩ ?_
        have x1 : ∀ a, nI a + -1 + 1 = nI a := by
          intro a
          rw [Int32.add_assoc]
          show nI a + 0 = nI a
          exact Int32.add_zero _
        rw [x1, x1, nI_clamp (by omega), nI_clamp (by omega)]
        omega
    · have wl := v.1
      have ol := sbt_lt v.2 v.1
      rw [hi _ (by omega), hT]
      rfl
  · rw [if_neg (show ¬ (1024 : Int32) ≤ nI k from nI_ge (b := 1024) (by omega) (by omega)), rf_55_38, ln_77, nI_clamp (show k < 2 ^ 31 by omega)]
    simp only [forall_eq, nI_1]
    refine ⟨(vp_nI (by omega)).mpr (by omega), hK _ _ ⟨k + 1, rfl, by omega, F.set 77 _ _ rfl, fun i hi2 => ?_⟩ (by rw [nI_clamp (by omega), nI_clamp (by omega)]; omega)⟩
    rw [gI_sI]
    by_cases z : i = k
    · rw [if_pos ⟨rfl, z⟩]
    · rw [if_neg (fun q => z q.2)]
      exact hi i (by omega)
-- best
set_option maxRecDepth 20000 in
set_option maxHeartbeats 1000000 in
theorem ok_best {h : Hp} (I : Inv h) {R : Hp → Prop} {Q0 : Prop} (hR : ∀ h', Inv h' → R h') : wX11_best 0  h (fun v h1 => wX12_best 55  h1 (fun v' h2 => if v = v' then R h2 else Q0)) := by
  obtain ⟨N, gn, num, P0, P1, WW⟩ := I.world
  have hN := WW.1.1
  have hgn := WW.2.1.1
  unfold wX11_best
  rw [rf_0_0, rf_0_1, rf_0_9, WW.1.2.1, WW.2.1.2.1]
  by_cases c : 5 < N
  · rw [if_pos (show (5 : Int32) < nI N from nI_lt (a := 5) c (by omega))]
    unfold wX12_best
    dsimp only
    rw [WW.1.2.2.1, if_pos (show (5 : Int32) < nI N from nI_lt (a := 5) c (by omega))]
    exact fin rfl (hR h I)
  · rw [if_neg (show ¬ (5 : Int32) < nI N from nI_nlt (a := 5) (by omega) (by omega))]
    by_cases d : gn = 0
    · rw [if_pos (show nI gn = 0 by rw [d]; rfl)]
      unfold wX12_best
      dsimp only
      rw [WW.1.2.2.1, if_neg (show ¬ (5 : Int32) < nI N from nI_nlt (a := 5) (by omega) (by omega)), WW.2.1.2.2.1, if_pos (show nI gn = 0 by rw [d]; rfl)]
      exact fin rfl (hR h I)
    · rw [if_neg (show ¬ nI gn = 0 from nI_ne0 (by omega) (by omega))]
      have X := WW.ew (way := 0) (by omega)
      obtain ⟨E, hE⟩ : ∃ E, (num, gn, hL h, hRt h, hC h, N, 0, P0) = E := ⟨_, rfl⟩
      rw [hE] at X
      have en : eN E = N := by rw [← hE]; rfl
      have eg : eG E = gn := by rw [← hE]; rfl
      have n5 : eN E ≤ 5 := by omega
      have g0 : 0 < eG E := by omega
      have hc : ∀ p, p < eN E → eC E p ≤ 9 := by
        intro p hp
        rw [← X.2.2.2.2.2.1]
        exact (X.1.2.2.2 p hp).2.2.2.2.2.2.2.2.2
      have v0 : vOK E 0 0 := ⟨Nat.two_pow_pos _, sbt_0 _⟩
      have ex : ∀ T, T = 60 → ∃ o w, PF E (eNum E 0) T o w (LB E (eNum E 0) T T 0 0) := by
        intro T hT
        have := PB_PF (E := E) (m := eNum E 0) (T := T) T 0 0 0 _ (Nat.le_refl _) (by rw [Nat.sub_self]; exact ⟨rfl, rfl, rfl⟩) (LB_PB (m := eNum E 0) (T := T) n5 hc T (by omega) 0 0 v0).1
        rw [Nat.zero_add] at this
        exact this
      apply c_cost X n5 g0
      · intro T hT h1 cc F1 cl ⟨o, w, q1⟩ q2
        have e1 : LB E (eNum E 0) T T 0 0 = cc := by
          obtain ⟨o', w', z⟩ := ex T hT
          have l1 := q2 _ _ _ z
          have l2 := (LB_PB (m := eNum E 0) (T := T) n5 hc T (by omega) 0 0 v0).2 (cc + 0) (PF_PB T o w cc 0 (Nat.le_refl _) q1 (by rw [Nat.sub_self]; rfl))
          omega
        unfold wX12_best
        have W1 := WW.fw F1.fw
        rw [W1.1.2.2.1, if_neg (show ¬ (5 : Int32) < nI N from nI_nlt (a := 5) (by omega) (by omega)), W1.2.1.2.2.1, if_neg (show ¬ nI gn = 0 from nI_ne0 (by omega) (by omega))]
        apply m_least (X.fw F1.fw) n5 g0
        intro T2 hT2 h2 F2
        rw [show T2 = T by omega, e1]
        exact fin rfl (hR h2 (I.fb (F1.trans F2)))
      · intro T hT
        obtain ⟨o, w, z⟩ := ex T hT
        exact ⟨o, w, _, z⟩
