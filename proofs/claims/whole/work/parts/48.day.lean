theorem sum12 {num : Nat → Nat} {g n : Nat} (hn : ∀ k, k < g → 1 ≤ num k) (h : n ≤ 12) : ISm num g n n ↔ SM num 12 g n := ⟨ISm_SM hn n n 12 h, SM_ISm hn n n (Nat.le_refl _)⟩
/-- the tail of a passing: when they went -/
theorem m_when {h0 h1 : Hp} {E : EV} {s t T : Nat} {d : DS} {Q : Int32 → Hp → Prop} (X : EW h0 E) (hs : s ≤ 1) (hT : T < 2 ^ eN E) (e33 : gI h1 55 33 = nI (mvS s t d T).1) (e34 : gI h1 55 34 = nI (mvS s t d T).2.1) (e35 : gI h1 55 35 = nI d.2.2.2.2.1) (e36 : gI h1 55 36 = nI d.2.2.2.2.2) (ea : ∀ p, p < 12 → gI h1 74 p = d.2.2.1 p ∧ gI h1 75 p = d.2.2.2.1 p) (F1 : Fdy h0 h1)
    (hQ : ∀ h', DM h0 (psS (mvS s t d T)) h' → Q 1 h') : eX12_passesOnce_76 55 (nI s) (nI t) (nI T) Q 0 h1 := by
  have hN := X.1.1
  have h12 := p12 hN
  refine iX12_passesOnce_76 (I := fun x6 h => ∃ j : Nat, x6 = nI j ∧ j ≤ eN E ∧ (∀ k, gI h 55 k = gI h1 55 k) ∧ (∀ p, p < 12 → gI h 74 p = (if p < j ∧ s = 0 ∧ T.testBit p = true then nI t else d.2.2.1 p) ∧ gI h 75 p = (if p < j ∧ s = 1 ∧ T.testBit p = true then nI t else d.2.2.2.1 p)) ∧ Fdy h0 h) (μ := fun x6 _ => eN E - x6.toNatClampNeg) ?_ 0 h1 ⟨0, rfl, by omega, fun _ => rfl, fun p hp => ?_, F1⟩
  · rintro x6 h ⟨j, rfl, hj, e55, hp, F⟩ K hK
    have Xh := X.fw F.fw
    unfold fX12_passesOnce_76
    rw [Xh.1.2.2.1]
    by_cases c : eN E ≤ j
    · rw [if_pos (nI_le c (by omega))]
      simp only [forall_eq]
      apply hQ
      have hj2 : j = eN E := by omega
      have tb : ∀ p, T.testBit p = true → p < j := by
        intro p hp
        rcases Nat.lt_or_ge p j with q | q
        · exact q
        · rw [bit_hi hT (by omega)] at hp; exact absurd hp (by decide)
      refine ⟨?_, ?_, ?_, ?_, fun p h12 => ⟨?_, ?_⟩, F.set 55 36 _ rfl⟩
      · simp only [forall_eq, gI_sI, gI_sL, gL_sI, gL_sL, gI_cpI, gL_cpI, gI_cpL, gL_cpL, Nat.reduceEqDiff, Nat.reduceAdd, Nat.reduceSub, cl0, cl1, cl12, cl39, and_false, false_and, and_true, true_and, and_self, ↓reduceIte, e55]; exact e33
      · simp only [forall_eq, gI_sI, gI_sL, gL_sI, gL_sL, gI_cpI, gL_cpI, gI_cpL, gL_cpL, Nat.reduceEqDiff, Nat.reduceAdd, Nat.reduceSub, cl0, cl1, cl12, cl39, and_false, false_and, and_true, true_and, and_self, ↓reduceIte, e55]; exact e34
      · simp only [forall_eq, gI_sI, gI_sL, gL_sI, gL_sL, gI_cpI, gL_cpI, gI_cpL, gL_cpL, Nat.reduceEqDiff, Nat.reduceAdd, Nat.reduceSub, cl0, cl1, cl12, cl39, and_false, false_and, and_true, true_and, and_self, ↓reduceIte, e55]; exact e35
      · simp only [forall_eq, gI_sI, gI_sL, gL_sI, gL_sL, gI_cpI, gL_cpI, gI_cpL, gL_cpL, Nat.reduceEqDiff, Nat.reduceAdd, Nat.reduceSub, cl0, cl1, cl12, cl39, and_false, false_and, and_true, true_and, and_self, ↓reduceIte, e55, e36]; exact nI_1 _
      · simp only [forall_eq, gI_sI, gI_sL, gL_sI, gL_sL, gI_cpI, gL_cpI, gI_cpL, gL_cpL, Nat.reduceEqDiff, Nat.reduceAdd, Nat.reduceSub, cl0, cl1, cl12, cl39, and_false, false_and, and_true, true_and, and_self, ↓reduceIte]
        rw [(hp p h12).1]
        show _ = (if s = 0 then (fun p => if T.testBit p = true then nI t else d.2.2.1 p) else d.2.2.1) p
        by_cases s0 : s = 0
        · rw [if_pos s0]
          by_cases q : T.testBit p = true
          · rw [if_pos ⟨tb p q, s0, q⟩, if_pos q]
          · rw [if_neg (fun z => q z.2.2), if_neg q]
        · rw [if_neg s0, if_neg (fun z => s0 z.2.1)]
      · simp only [forall_eq, gI_sI, gI_sL, gL_sI, gL_sL, gI_cpI, gL_cpI, gI_cpL, gL_cpL, Nat.reduceEqDiff, Nat.reduceAdd, Nat.reduceSub, cl0, cl1, cl12, cl39, and_false, false_and, and_true, true_and, and_self, ↓reduceIte]
        rw [(hp p h12).2]
        show _ = (if s = 0 then d.2.2.2.1 else (fun p => if T.testBit p = true then nI t else d.2.2.2.1 p)) p
        by_cases s0 : s = 0
        · rw [if_pos s0, if_neg (fun z => by have := z.2.1; omega)]
        · rw [if_neg s0]
          by_cases q : T.testBit p = true
          · rw [if_pos ⟨tb p q, by omega, q⟩, if_pos q]
          · rw [if_neg (fun z => q z.2.2), if_neg q]
    · rw [if_neg (nI_ge (by omega) (by omega)), bit_nI (show T < 2 ^ 31 by omega) (by omega)]
      simp only [forall_eq, nI_1, rf_55_31, rf_55_32, ln_74, ln_75, nI_clamp (show j < 2 ^ 31 by omega)]
      have mu : eN E - (nI (j + 1)).toNatClampNeg < eN E - (nI j).toNatClampNeg := by rw [nI_clamp (by omega), nI_clamp (by omega)]; omega
      have vj : vp_in (nI j) 12 := (vp_nI (by omega)).mpr (by omega)
      cases e : T.testBit j
      · rw [if_pos (by decide)]
        refine hK _ _ ⟨j + 1, rfl, by omega, e55, fun p h12 => ?_, F⟩ mu
        rw [(hp p h12).1, (hp p h12).2]
        by_cases z : p = j
        · subst z; simp [e]
        · have : (p < j) = (p < j + 1) := by apply propext; omega
          simp only [this, and_self]
      · rw [if_neg (by decide)]
        by_cases s0 : s = 0
        · rw [if_pos (show nI s = 0 by rw [s0]; rfl)]
          refine ⟨vj, hK _ _ ⟨j + 1, rfl, by omega, fun k => ?_, fun p h12 => ⟨?_, ?_⟩, F.set 74 j _ rfl⟩ mu⟩
          · simp only [forall_eq, gI_sI, gI_sL, gL_sI, gL_sL, gI_cpI, gL_cpI, gI_cpL, gL_cpL, Nat.reduceEqDiff, Nat.reduceAdd, Nat.reduceSub, cl0, cl1, cl12, cl39, and_false, false_and, and_true, true_and, and_self, ↓reduceIte]; exact e55 k
          · simp only [forall_eq, gI_sI, gI_sL, gL_sI, gL_sL, gI_cpI, gL_cpI, gI_cpL, gL_cpL, Nat.reduceEqDiff, Nat.reduceAdd, Nat.reduceSub, cl0, cl1, cl12, cl39, and_false, false_and, and_true, true_and, and_self, ↓reduceIte]
            by_cases z : p = j
            · subst z; simp [e, s0]
            · rw [if_neg z, (hp p h12).1]
              have : (p < j) = (p < j + 1) := by apply propext; omega
              simp only [this]
          · simp only [forall_eq, gI_sI, gI_sL, gL_sI, gL_sL, gI_cpI, gL_cpI, gI_cpL, gL_cpL, Nat.reduceEqDiff, Nat.reduceAdd, Nat.reduceSub, cl0, cl1, cl12, cl39, and_false, false_and, and_true, true_and, and_self, ↓reduceIte]
            rw [(hp p h12).2, if_neg (fun z => by have := z.2.1; omega), if_neg (fun z => by have := z.2.1; omega)]
        · rw [if_neg (show ¬ nI s = 0 from nI_ne0 (by omega) (by omega))]
          refine ⟨vj, hK _ _ ⟨j + 1, rfl, by omega, fun k => ?_, fun p h12 => ⟨?_, ?_⟩, F.set 75 j _ rfl⟩ mu⟩
          · simp only [forall_eq, gI_sI, gI_sL, gL_sI, gL_sL, gI_cpI, gL_cpI, gI_cpL, gL_cpL, Nat.reduceEqDiff, Nat.reduceAdd, Nat.reduceSub, cl0, cl1, cl12, cl39, and_false, false_and, and_true, true_and, and_self, ↓reduceIte]; exact e55 k
          · simp only [forall_eq, gI_sI, gI_sL, gL_sI, gL_sL, gI_cpI, gL_cpI, gI_cpL, gL_cpL, Nat.reduceEqDiff, Nat.reduceAdd, Nat.reduceSub, cl0, cl1, cl12, cl39, and_false, false_and, and_true, true_and, and_self, ↓reduceIte]
            rw [(hp p h12).1, if_neg (fun z => s0 z.2.1), if_neg (fun z => s0 z.2.1)]
          · simp only [forall_eq, gI_sI, gI_sL, gL_sI, gL_sL, gI_cpI, gL_cpI, gI_cpL, gL_cpL, Nat.reduceEqDiff, Nat.reduceAdd, Nat.reduceSub, cl0, cl1, cl12, cl39, and_false, false_and, and_true, true_and, and_self, ↓reduceIte]
            by_cases z : p = j
            · subst z; simp [e, show s = 1 by omega]
            · rw [if_neg z, (hp p h12).2]
              have : (p < j) = (p < j + 1) := by apply propext; omega
              simp only [this]
  · rw [if_neg (by omega), if_neg (by omega)]
    exact ea p hp
theorem m_once {h0 h : Hp} {E : EV} {s t g : Nat} {d : DS} {Q : Int32 → Hp → Prop} (X : EW h0 E) (hg : g < eG E) (hs : s ≤ 1) (ht : t < 60) (ok : dOK (eN E) d) (D : DM h0 d h)
    (h1 : goB (eNum E) (eG E) (eWay E) s (eNum E g) d.1 (mset E s t g d.1 d.2.1) = true → ∀ h', DM h0 (psS (mvS s t d (tkT (eK E s) (eN E) (mset E s t g d.1 d.2.1) (eNum E g)))) h' → Q 1 h')
    (h2 : goB (eNum E) (eG E) (eWay E) s (eNum E g) d.1 (mset E s t g d.1 d.2.1) = false → ∀ h', DM h0 d h' → Q 0 h') : wX12_passesOnce 55 (nI g) (nI s) (nI t) (nI (eWay E)) h Q := by
  have hN := X.1.1
  have h12 := p12 hN
  have hw := X.2.2.2.2.2.2
  have Xh := X.fw D.2.2.2.2.2.fw
  obtain ⟨y1, y2, y3, y4⟩ := X.2.1.2.2.2 g hg
  have hSl := mset_lt E s t g d.1 d.2.1
  unfold wX12_passesOnce
  refine m_ones Xh hg hs ht ok.1 ok.2.1 D.1 D.2.1 (fun le h3 F3 => ?_) (fun lt h3 F3 => ?_)
  · obtain ⟨t1, t2, t3⟩ := tk_spec (key := eK E s) hN hSl (eNum E g) le
    have tl := tk_lt (key := eK E s) hN hSl le
    obtain ⟨T, hT⟩ : ∃ T, tkT (eK E s) (eN E) (mset E s t g d.1 d.2.1) (eNum E g) = T := ⟨_, rfl⟩
    rw [hT] at t1 t2 t3 tl h1 ⊢
    have Tn : ¬ nI T = 0 := by
      intro q
      have : T = 0 := (nI_eq (b := 0) (by omega) (by omega)).mp q
      rw [this] at t2
      have : pop 0 = 0 := by decide
      omega
    rw [if_neg Tn]
    have D3 := D.fs F3
    obtain ⟨m1, m2, m3, m4, m5, m6⟩ := id D3
    have go : (!(decide (eWay E = 2) && decide (s = 0)) || smB (eNum E) 12 (eG E) (pop d.1 + eNum E g)) = true → jX12_passesOnce_47 55 (nI s) (nI t) (nI T) h3 Q := by
      intro q
      have hgo : goB (eNum E) (eG E) (eWay E) s (eNum E g) d.1 (mset E s t g d.1 d.2.1) = true := by
        unfold goB
        rw [q, decide_eq_true le]
        rfl
      unfold jX12_passesOnce_47
      simp only [forall_eq, m1, nI_xor]
      by_cases s0 : s = 0
      · rw [if_pos (show nI s = 0 by rw [s0]; rfl)]
        refine m_when (d := d) X hs tl ?_ ?_ ?_ ?_ (fun p hp => ?_) ((m6.set 55 33 _ rfl).set 55 34 _ rfl) (h1 hgo)
        · simp only [forall_eq, gI_sI, gI_sL, gL_sI, gL_sL, gI_cpI, gL_cpI, gI_cpL, gL_cpL, Nat.reduceEqDiff, Nat.reduceAdd, Nat.reduceSub, cl0, cl1, cl12, cl39, and_false, false_and, and_true, true_and, and_self, ↓reduceIte]; rfl
        · simp only [forall_eq, gI_sI, gI_sL, gL_sI, gL_sL, gI_cpI, gL_cpI, gI_cpL, gL_cpL, Nat.reduceEqDiff, Nat.reduceAdd, Nat.reduceSub, cl0, cl1, cl12, cl39, and_false, false_and, and_true, true_and, and_self, ↓reduceIte, m2, nI_or]
          simp only [mvS, if_pos s0]
        · simp only [forall_eq, gI_sI, gI_sL, gL_sI, gL_sL, gI_cpI, gL_cpI, gI_cpL, gL_cpL, Nat.reduceEqDiff, Nat.reduceAdd, Nat.reduceSub, cl0, cl1, cl12, cl39, and_false, false_and, and_true, true_and, and_self, ↓reduceIte]; exact m3
        · simp only [forall_eq, gI_sI, gI_sL, gL_sI, gL_sL, gI_cpI, gL_cpI, gI_cpL, gL_cpL, Nat.reduceEqDiff, Nat.reduceAdd, Nat.reduceSub, cl0, cl1, cl12, cl39, and_false, false_and, and_true, true_and, and_self, ↓reduceIte]; exact m4
        · simp only [forall_eq, gI_sI, gI_sL, gL_sI, gL_sL, gI_cpI, gL_cpI, gI_cpL, gL_cpL, Nat.reduceEqDiff, Nat.reduceAdd, Nat.reduceSub, cl0, cl1, cl12, cl39, and_false, false_and, and_true, true_and, and_self, ↓reduceIte]; exact m5 p hp
      · rw [if_neg (show ¬ nI s = 0 from nI_ne0 (by omega) (by omega))]
        refine m_when (d := d) X hs tl ?_ ?_ ?_ ?_ (fun p hp => ?_) (m6.set 55 33 _ rfl) (h1 hgo)
        · simp only [forall_eq, gI_sI, gI_sL, gL_sI, gL_sL, gI_cpI, gL_cpI, gI_cpL, gL_cpL, Nat.reduceEqDiff, Nat.reduceAdd, Nat.reduceSub, cl0, cl1, cl12, cl39, and_false, false_and, and_true, true_and, and_self, ↓reduceIte]; rfl
        · simp only [forall_eq, gI_sI, gI_sL, gL_sI, gL_sL, gI_cpI, gL_cpI, gI_cpL, gL_cpL, Nat.reduceEqDiff, Nat.reduceAdd, Nat.reduceSub, cl0, cl1, cl12, cl39, and_false, false_and, and_true, true_and, and_self, ↓reduceIte, m2]
          simp only [mvS, if_neg s0]
        · simp only [forall_eq, gI_sI, gI_sL, gL_sI, gL_sL, gI_cpI, gL_cpI, gI_cpL, gL_cpL, Nat.reduceEqDiff, Nat.reduceAdd, Nat.reduceSub, cl0, cl1, cl12, cl39, and_false, false_and, and_true, true_and, and_self, ↓reduceIte]; exact m3
        · simp only [forall_eq, gI_sI, gI_sL, gL_sI, gL_sL, gI_cpI, gL_cpI, gI_cpL, gL_cpL, Nat.reduceEqDiff, Nat.reduceAdd, Nat.reduceSub, cl0, cl1, cl12, cl39, and_false, false_and, and_true, true_and, and_self, ↓reduceIte]; exact m4
        · simp only [forall_eq, gI_sI, gI_sL, gL_sI, gL_sL, gI_cpI, gL_cpI, gI_cpL, gL_cpL, Nat.reduceEqDiff, Nat.reduceAdd, Nat.reduceSub, cl0, cl1, cl12, cl39, and_false, false_and, and_true, true_and, and_self, ↓reduceIte]; exact m5 p hp
    by_cases s0 : s = 0
    · rw [if_pos (show nI s = 0 by rw [s0]; rfl)]
      by_cases w2 : eWay E = 2
      · rw [if_pos (show nI (eWay E) = 2 by rw [w2]; rfl), m1, nI_or]
        have lo : d.1 ||| T < 2 ^ eN E := Nat.or_lt_two_pow ok.1 tl
        have dis : ∀ i, d.1.testBit i = true → T.testBit i = false := by
          intro i hi
          cases e : T.testBit i
          · rfl
          · have := mset_side i (t1 i e)
            rw [hi, s0] at this
            exact absurd this (by decide)
        have po : pop (d.1 ||| T) = pop d.1 + eNum E g := by rw [pop_or dis, t2]
        have pl := pop_le (d.1 ||| T) (by omega)
        apply m_bitsOf (by omega)
        rw [po]
        refine ⟨pop d.1 + eNum E g + 1, by omega, ?_⟩
        have X3 := X.fw D3.2.2.2.2.2.fw
        apply m_isSum X3.2.1 (pop d.1 + eNum E g) (pop d.1 + eNum E g) (Nat.le_refl _) (by omega)
        · intro q
          rw [if_neg (by decide)]
          apply go
          rw [smB_iff.mpr ((sum12 (fun k hk => (X.2.1.2.2.2 k hk).2.2.1) (by omega)).mp q)]
          simp
        · intro q
          rw [if_pos rfl]
          refine h2 ?_ h3 D3
          unfold goB
          have : smB (eNum E) 12 (eG E) (pop d.1 + eNum E g) = false := by
            cases e : smB (eNum E) 12 (eG E) (pop d.1 + eNum E g)
            · rfl
            · exact absurd ((sum12 (fun k hk => (X.2.1.2.2.2 k hk).2.2.1) (by omega)).mpr (smB_iff.mp e)) q
          rw [this, decide_eq_true w2, decide_eq_true s0]
          simp
      · rw [if_neg (show ¬ nI (eWay E) = 2 from fun q => w2 ((nI_eq (b := 2) (by omega) (by omega)).mp q))]
        apply go
        rw [decide_eq_false w2]
        rfl
    · rw [if_neg (show ¬ nI s = 0 from nI_ne0 (by omega) (by omega))]
      apply go
      rw [decide_eq_false s0]
      simp
  · rw [if_pos rfl]
    refine h2 ?_ h3 (D.fs F3)
    unfold goB
    rw [decide_eq_false (by omega)]
    rfl
theorem m_lp {h0 h1 : Hp} {E : EV} {s t g : Nat} {d0 : DS} {K52 K60 K71 : Int32 → Hp → Prop} {Q : Hp → Prop} (X : EW h0 E) (hg : g < eG E) (hs : s ≤ 1) (ht : t < 60) (ok0 : dOK (eN E) d0) (D0 : DM h0 d0 h1)
    (hK0 : ∀ h', DM h0 (lpS E s t g 12 d0 (mset E s t g d0.1 d0.2.1)) h' → dOK (eN E) (lpS E s t g 12 d0 (mset E s t g d0.1 d0.2.1)) → K71 (nI (s + 1)) h') : eX12_goDay_80 55 (nI (eWay E)) (nI t) (nI g) (nI s) K52 K60 K71 Q 1 h1 := by
  have hN := X.1.1
  have h12 := p12 hN
  obtain ⟨y1, y2, y3, y4⟩ := X.2.1.2.2.2 g hg
  obtain ⟨V, hV⟩ : ∃ V, lpS E s t g 12 d0 (mset E s t g d0.1 d0.2.1) = V := ⟨_, rfl⟩
  rw [hV] at hK0
  have pl0 := pop_le (mset E s t g d0.1 d0.2.1) (by have := mset_lt E s t g d0.1 d0.2.1; omega)
  refine iX12_goDay_80 (I := fun x5 h => (x5 = 0 ∧ DM h0 V h ∧ dOK (eN E) V) ∨ (x5 = 1 ∧ ∃ (f : Nat) (d : DS), pop (mset E s t g d.1 d.2.1) ≤ f ∧ lpS E s t g f d (mset E s t g d.1 d.2.1) = V ∧ DM h0 d h ∧ dOK (eN E) d)) (μ := fun x5 h => if x5 = 0 then 0 else 1 + pop (mset E s t g (gI h 55 33).toNatClampNeg (gI h 55 34).toNatClampNeg)) ?_ 1 h1 (Or.inr ⟨rfl, 12, d0, pl0, hV, D0, ok0⟩)
  rintro x5 h (⟨rfl, D, ok⟩ | ⟨rfl, f, d, hf, hl, D, ok⟩) K hK
  · unfold fX12_goDay_80
    rw [if_pos rfl]
    simp only [forall_eq, nI_1]
    exact hK0 h D ok
  · unfold fX12_goDay_80
    rw [if_neg (by decide)]
    have hSl := mset_lt E s t g d.1 d.2.1
    have hmu : (1 : Nat) + pop (mset E s t g (gI h 55 33).toNatClampNeg (gI h 55 34).toNatClampNeg) = 1 + pop (mset E s t g d.1 d.2.1) := by
      rw [D.1, D.2.1, nI_clamp (by have := ok.1; omega), nI_clamp (by have := ok.2.1; omega)]
    refine m_once X hg hs ht ok D (fun go h' D' => ?_) (fun ng h' D' => ?_)
    · have le : eNum E g ≤ pop (mset E s t g d.1 d.2.1) := by
        unfold goB at go
        simp only [Bool.and_eq_true, decide_eq_true_eq] at go
        exact go.1
      obtain ⟨t1, t2, t3⟩ := tk_spec (key := eK E s) hN hSl (eNum E g) le
      have tl := tk_lt (key := eK E s) hN hSl le
      have mm := mset_mv (E := E) (g := g) (d := d) hN hs t1
      have ok' : dOK (eN E) (psS (mvS s t d (tkT (eK E s) (eN E) (mset E s t g d.1 d.2.1) (eNum E g)))) := ps_ok (mv_ok ok tl hs (fun i hi => mset_side i (t1 i hi)))
      obtain ⟨f', rfl⟩ : ∃ f', f = f' + 1 := ⟨f - 1, by omega⟩
      rw [lpS, dlp, if_pos go] at hl
      refine hK _ _ (Or.inr ⟨rfl, f', psS (mvS s t d (tkT (eK E s) (eN E) (mset E s t g d.1 d.2.1) (eNum E g))), ?_, ?_, D', ok'⟩) ?_
      · show pop (mset E s t g (mvS s t d _).1 (mvS s t d _).2.1) ≤ f'
        rw [mm]
        omega
      · show lpS E s t g f' _ (mset E s t g (mvS s t d _).1 (mvS s t d _).2.1) = V
        rw [mm]
        exact hl
      · rw [if_neg (by decide), if_neg (by decide), hmu, D'.1, D'.2.1, nI_clamp (by have := ok'.1; omega), nI_clamp (by have := ok'.2.1; omega)]
        show 1 + pop (mset E s t g (mvS s t d _).1 (mvS s t d _).2.1) < _
        rw [mm]
        omega
    · have e : d = V := by
        cases f with
        | zero => exact hl
        | succ f' =>
          rw [lpS, dlp, if_neg (by rw [ng]; decide)] at hl
          exact hl
      subst e
      refine hK _ _ (Or.inl ⟨rfl, D', ok⟩) ?_
      rw [if_pos rfl, if_neg (by decide)]
      omega
