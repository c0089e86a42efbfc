/-! what a day rests on: numbers, gates, leaves, returns, costs, people, the way, the law -/
abbrev EV : Type := (Nat → Nat) × Nat × (Nat → Nat) × (Nat → Nat) × (Nat → Nat) × Nat × Nat × Option Lns
def eNum (E : EV) : Nat → Nat := E.1
def eG (E : EV) : Nat := E.2.1
def eL (E : EV) : Nat → Nat := E.2.2.1
def eR (E : EV) : Nat → Nat := E.2.2.2.1
def eC (E : EV) : Nat → Nat := E.2.2.2.2.1
def eN (E : EV) : Nat := E.2.2.2.2.2.1
def eWay (E : EV) : Nat := E.2.2.2.2.2.2.1
def eP (E : EV) : Option Lns := E.2.2.2.2.2.2.2
def EW (h : Hp) (E : EV) : Prop := PN h (eN E) ∧ GN h (eG E) (eNum E) ∧ LT h 10 11 12 0 (eP E) ∧ hL h = eL E ∧ hRt h = eR E ∧ hC h = eC E ∧ eWay E ≤ 2
theorem EW.fw {h h' : Hp} {E : EV} (X : EW h E) (F : Fw h h') : EW h' E := by
  obtain ⟨x1, x2, x3, x4, x5, x6, x7⟩ := X
  refine ⟨x1.kept (F 3 3 rfl) (F 55 3 rfl) (F.row 4 (fun _ => rfl)) (F.row 5 (fun _ => rfl)) (F.row 6 (fun _ => rfl)) (F.row 57 (fun _ => rfl)) (F.row 58 (fun _ => rfl)) (F.row 59 (fun _ => rfl)), x2.kept (F 1 1 rfl) (F 55 1 rfl) (fun k => F 2 k rfl) (fun k => F 56 k rfl), x3.fw F ⟨rfl, rfl⟩ (fun _ => rfl) (fun _ => rfl), (hL_fw F).trans x4, (hR_fw F).trans x5, (hC_fw F).trans x6, x7⟩
def eK (E : EV) (s : Nat) : Nat → Int32 := keyf (eL E) (eR E) (eC E) (eWay E) s
noncomputable def lpS (E : EV) (s t g f : Nat) (d : DS) (L : Nat) : DS := dlp (eNum E) (eG E) (eK E s) (eN E) (eWay E) s t (eNum E g) f d L
def W0 (E : EV) (t : Nat) (d : DS) : Nat := anot (setB (fun k => decide (eL E k ≤ t)) (eN E)) d.2.1
def W1 (E : EV) (t : Nat) (d : DS) : Nat := setB (fun k => decide (eR E k ≤ t)) (eN E) &&& d.1
noncomputable def gst0 (E : EV) (t g : Nat) (d : DS) : DS := lpS E 0 t g 12 d (letB (eP E) (eC E) (eN E) t g 0 (W0 E t d))
noncomputable def gst1 (E : EV) (t g : Nat) (d : DS) : DS := lpS E 1 t g 12 d (letB (eP E) (eC E) (eN E) t g 1 (W1 E t d))
noncomputable def gsts (E : EV) (t : Nat) (d : DS) : Nat → DS
  | 0 => d
  | k + 1 => gst1 E t k (gst0 E t k (gsts E t d k))
def wsm (E : EV) (t : Nat) (d : DS) (n : Nat) : Nat := smT (fun p => if wts (eL E) (eR E) t d.1 d.2.1 p then eC E p else 0) n
def adS (d : DS) (n : Nat) : DS := (d.1, d.2.1, d.2.2.1, d.2.2.2.1, d.2.2.2.2.1 + n, d.2.2.2.2.2)
noncomputable def tst (E : EV) (t : Nat) (d : DS) : DS := adS (gsts E t d (eG E)) (wsm E t (gsts E t d (eG E)) (eN E))
noncomputable def days (E : EV) : Nat → DS
  | 0 => (0, 0, (fun _ => -2), (fun _ => -2), 0, 0)
  | t + 1 => tst E t (days E t)
theorem mv0 (s t : Nat) (d : DS) : mvS s t d 0 = d := by
  unfold mvS
  obtain ⟨o, w, a, i, m, p⟩ := d
  by_cases c : s = 0 <;> simp [c, Nat.zero_testBit]
theorem mv_ok {N s t : Nat} {d : DS} {T : Nat} (ok : dOK N d) (hT : T < 2 ^ N) (hs : s ≤ 1) (hb : ∀ i, T.testBit i = true → d.1.testBit i = decide (s = 1)) : dOK N (mvS s t d T) := by
  obtain ⟨k1, k2, k3⟩ := ok
  refine ⟨Nat.xor_lt_two_pow k1 hT, ?_, fun i hi => ?_⟩
  · show (if s = 0 then d.2.1 ||| T else d.2.1) < 2 ^ N
    by_cases c : s = 0
    · rw [if_pos c]; exact Nat.or_lt_two_pow k2 hT
    · rw [if_neg c]; exact k2
  · have hi : (d.1 ^^^ T).testBit i = true := hi
    show (if s = 0 then d.2.1 ||| T else d.2.1).testBit i = true
    rw [Nat.testBit_xor] at hi
    by_cases c : s = 0
    · rw [if_pos c, Nat.testBit_or]
      cases e : T.testBit i
      · rw [e] at hi
        rw [k3 i (by simpa using hi)]; rfl
      · simp
    · rw [if_neg c]
      cases e : T.testBit i
      · rw [e] at hi
        exact k3 i (by simpa using hi)
      · exact k3 i (by rw [hb i e]; simp; omega)
theorem ps_ok {N : Nat} {d : DS} (ok : dOK N d) : dOK N (psS d) := ok
theorem go_side {N s t : Nat} {d : DS} {L T : Nat} (hN : N ≤ 12) (hL : L < 2 ^ N) (side : ∀ i, L.testBit i = true → d.1.testBit i = decide (s = 1)) : ∀ i, (anot L T).testBit i = true → (psS (mvS s t d T)).1.testBit i = decide (s = 1) := by
  intro i hi
  have h12 := p12 hN
  rw [anot_bit (by omega)] at hi
  simp only [Bool.and_eq_true, Bool.not_eq_true'] at hi
  show (d.1 ^^^ T).testBit i = _
  rw [Nat.testBit_xor, hi.2, side i hi.1]
  simp
theorem c_take {h0 h1 : Hp} {E : EV} {s t m L : Nat} {x : Int64} {d : DS} {x7 : Int32} {K42 : Int32 → Int32 → Hp → Prop} {Q : Hp → Prop} (X : EW h0 E) (hs : s ≤ 1) (hm : m ≤ 6) (hL : L < 2 ^ eN E) (hmL : m ≤ pop L) (ok : dOK (eN E) d) (side : ∀ i, L.testBit i = true → d.1.testBit i = decide (s = 1)) (D : DC h0 (eWay E) x d h1)
    (hK0 : ∀ h', DC h0 (eWay E) x (psS (mvS s t d (tkT (eK E s) (eN E) L m))) h' → K42 (nI (anot L (tkT (eK E s) (eN E) L m))) (x7 + 1) h') : eX2_letThrough_72 27 (nI s) (nI t) (nI m) x7 K42 Q (nI L) 0 h1 := by
  have hN := X.1.1
  have h12 := p12 hN
  have hw := X.2.2.2.2.2.2
  refine iX2_letThrough_72 (I := fun x6 x8 h => ∃ k : Nat, x8 = nI k ∧ k ≤ m ∧ x6 = nI (anot L (tkT (eK E s) (eN E) L k)) ∧ DC h0 (eWay E) x (mvS s t d (tkT (eK E s) (eN E) L k)) h) (μ := fun _ x8 _ => m - x8.toNatClampNeg) ?_ (nI L) 0 h1 ⟨0, rfl, by omega, ?_, ?_⟩
  · rintro x6 x8 h ⟨k, rfl, hk, rfl, Dk⟩ K hK
    unfold fX2_letThrough_72
    by_cases c : m ≤ k
    · rw [if_pos (nI_le c (by omega))]
      have : k = m := by omega
      subst this
      simp only [forall_eq]
      apply hK0
      obtain ⟨d1, d2, d3, d4, d5, d6, d7, d8⟩ := Dk
      refine ⟨?_, d2, ?_, ?_, ?_, ?_, fun p hp => ?_, d8.set 27 10 _ rfl⟩
      · simp only [forall_eq, gI_sI, gI_sL, gL_sI, gL_sL, gI_cpI, gL_cpI, gI_cpL, gL_cpL, Nat.reduceEqDiff, Nat.reduceAdd, Nat.reduceSub, cl0, cl1, cl12, cl39, and_false, false_and, and_true, true_and, and_self, ↓reduceIte]; exact d1
      · simp only [forall_eq, gI_sI, gI_sL, gL_sI, gL_sL, gI_cpI, gL_cpI, gI_cpL, gL_cpL, Nat.reduceEqDiff, Nat.reduceAdd, Nat.reduceSub, cl0, cl1, cl12, cl39, and_false, false_and, and_true, true_and, and_self, ↓reduceIte]; exact d3
      · simp only [forall_eq, gI_sI, gI_sL, gL_sI, gL_sL, gI_cpI, gL_cpI, gI_cpL, gL_cpL, Nat.reduceEqDiff, Nat.reduceAdd, Nat.reduceSub, cl0, cl1, cl12, cl39, and_false, false_and, and_true, true_and, and_self, ↓reduceIte]; exact d4
      · simp only [forall_eq, gI_sI, gI_sL, gL_sI, gL_sL, gI_cpI, gL_cpI, gI_cpL, gL_cpL, Nat.reduceEqDiff, Nat.reduceAdd, Nat.reduceSub, cl0, cl1, cl12, cl39, and_false, false_and, and_true, true_and, and_self, ↓reduceIte]; exact d5
      · simp only [forall_eq, gI_sI, gI_sL, gL_sI, gL_sL, gI_cpI, gL_cpI, gI_cpL, gL_cpL, Nat.reduceEqDiff, Nat.reduceAdd, Nat.reduceSub, cl0, cl1, cl12, cl39, and_false, false_and, and_true, true_and, and_self, ↓reduceIte, d6]
        exact nI_1 _
      · simp only [forall_eq, gI_sI, gI_sL, gL_sI, gL_sL, gI_cpI, gL_cpI, gI_cpL, gL_cpL, Nat.reduceEqDiff, Nat.reduceAdd, Nat.reduceSub, cl0, cl1, cl12, cl39, and_false, false_and, and_true, true_and, and_self, ↓reduceIte]; exact d7 p hp
    · rw [if_neg (nI_ge (by omega) (by omega))]
      obtain ⟨s1, s2, s3⟩ := tk_spec (key := eK E s) hN hL k (by omega)
      obtain ⟨b, b1, b2, b3, b4, b5⟩ := tk_next (key := eK E s) hN hL (show k < pop L by omega) s3
      have Xh := X.fw Dk.2.2.2.2.2.2.2.fw
      have tl := tk_lt (key := eK E s) hN hL (show k ≤ pop L by omega)
      apply c_first (b := b) Xh.1 (Nat.lt_of_le_of_lt anot_le hL) hs hw Dk.1 (by rw [Xh.2.2.2.1, Xh.2.2.2.2.1, Xh.2.2.2.2.2.1]; exact b2)
      simp only [forall_eq, shl1 b (by omega)]
      rw [anot_nI (Nat.lt_of_le_of_lt anot_le (by omega))]
      apply c_move Dk (by omega) (by have := ok.1; omega) (by omega) b4 (side b b3) hs
      intro h' D'
      rw [← b5] at D'
      rw [nI_1]
      refine hK _ _ _ ⟨k + 1, rfl, by omega, ?_, D'⟩ (by rw [nI_clamp (by omega), nI_clamp (by omega)]; omega)
      rw [b5]
      congr 1
      apply nat_ext
      intro i
      rw [anot_bit (Nat.lt_of_le_of_lt anot_le (by omega)), anot_bit (by omega), anot_bit (by omega), Nat.testBit_or]
      cases L.testBit i <;> cases (tkT (eK E s) (eN E) L k).testBit i <;> cases (2 ^ b).testBit i <;> rfl
  · rw [tkT]
    congr 1
    apply nat_ext
    intro i
    rw [anot_bit (by omega), Nat.zero_testBit]
    simp
  · rw [tkT, mv0]
    exact D
theorem c_isLet {h0 h : Hp} {E : EV} {s m : Nat} {x : Int64} {S : Nat → Bool} {d : DS} (X : EW h0 E) (hs : s ≤ 1) (hm : m ≤ 6) (hx : isS x S) (hS : ∀ i, i < 64 → (S i = true ↔ SM (eNum E) 12 (eG E) i)) (ok : dOK (eN E) d) (D : DC h0 (eWay E) x d h) {Q : Int32 → Prop}
    (hQ : Q (if (!(decide (eWay E = 2) && decide (s = 0)) || smB (eNum E) 12 (eG E) (pop d.1 + m)) = true then 1 else 0)) : wX2_isLet 27 (nI s) (nI m) h Q := by
  have hw := X.2.2.2.2.2.2
  have h12 := p12 X.1.1
  obtain ⟨d1, d2, d3, d4, d5, d6, d7, d8⟩ := D
  unfold wX2_isLet
  rw [d1]
  by_cases c : eWay E = 2
  · rw [if_pos (show nI (eWay E) = 2 by rw [c]; rfl)]
    by_cases e : s = 0
    · subst e
      have pl := pop_le d.1 (by have := ok.1; omega)
      rw [if_neg (by decide), d4, e_bitCount h (by have := ok.1; omega), d2, nI_add, e_hold hx (by omega)]
      have q := hS (pop d.1 + m) (by omega)
      cases z : S (pop d.1 + m)
      · rw [if_pos (by decide)]
        have : smB (eNum E) 12 (eG E) (pop d.1 + m) = false := by
          cases y : smB (eNum E) 12 (eG E) (pop d.1 + m)
          · rfl
          · rw [q.mpr (smB_iff.mp y)] at z; exact absurd z (by decide)
        rw [this] at hQ
        simpa [c] using hQ
      · rw [if_pos rfl, if_neg (by decide)]
        have : smB (eNum E) 12 (eG E) (pop d.1 + m) = true := smB_iff.mpr (q.mp z)
        rw [this] at hQ
        simpa [c] using hQ
    · rw [if_pos (show nI s = 1 by rw [show s = 1 by omega]; rfl)]
      simpa [e] using hQ
  · rw [if_neg (show ¬ nI (eWay E) = 2 from fun q => c ((nI_eq (b := 2) (by omega) (by omega)).mp q))]
    simpa [c] using hQ
theorem c_lp {h0 h1 : Hp} {E : EV} {s t g L0 : Nat} {x : Int64} {S : Nat → Bool} {d0 : DS} {Q : Hp → Prop} (X : EW h0 E) (hg : g < eG E) (hs : s ≤ 1) (hx : isS x S) (hS : ∀ i, i < 64 → (S i = true ↔ SM (eNum E) 12 (eG E) i)) (hL0 : L0 < 2 ^ eN E) (ok0 : dOK (eN E) d0) (side0 : ∀ i, L0.testBit i = true → d0.1.testBit i = decide (s = 1)) (D0 : DC h0 (eWay E) x d0 h1)
    (hQ : ∀ h', DC h0 (eWay E) x (lpS E s t g 12 d0 L0) h' → dOK (eN E) (lpS E s t g 12 d0 L0) → Q h') : eX2_letThrough_42 27 (nI s) (nI t) (nI (eNum E g)) Q (nI L0) 0 h1 := by
  have hN := X.1.1
  have h12 := p12 hN
  obtain ⟨y1, y2, y3, y4⟩ := X.2.1.2.2.2 g hg
  obtain ⟨V, hV⟩ : ∃ V, lpS E s t g 12 d0 L0 = V := ⟨_, rfl⟩
  rw [hV] at hQ
  refine iX2_letThrough_42 (I := fun x6 x7 h => ∃ (i L : Nat) (d : DS), x7 = nI i ∧ i ≤ 12 ∧ x6 = nI L ∧ L < 2 ^ eN E ∧ (∀ i, L.testBit i = true → d.1.testBit i = decide (s = 1)) ∧ dOK (eN E) d ∧ DC h0 (eWay E) x d h ∧ lpS E s t g (12 - i) d L = V) (μ := fun _ x7 _ => 12 - x7.toNatClampNeg) ?_ (nI L0) 0 h1 ⟨0, L0, d0, rfl, by omega, rfl, hL0, side0, ok0, D0, hV⟩
  rintro x6 x7 h ⟨i, L, d, rfl, hi, rfl, hL, side, ok, D, hf⟩ K hK
  unfold fX2_letThrough_42
  by_cases c : 12 ≤ i
  · rw [if_pos (show (12 : Int32) ≤ nI i from nI_le (a := 12) c (by omega))]
    rw [show 12 - i = 0 by omega, lpS, dlp] at hf
    rw [hf] at ok D
    exact hQ h D ok
  · rw [if_neg (show ¬ (12 : Int32) ≤ nI i from nI_ge (b := 12) (by omega) (by omega)), e_bitCount h (by omega)]
    have pl := pop_le L (by omega)
    rw [show 12 - i = (11 - i) + 1 by omega, lpS, dlp] at hf
    have no : goB (eNum E) (eG E) (eWay E) s (eNum E g) d.1 L = false → Q h := by
      intro ng
      rw [if_neg (by rw [ng]; decide)] at hf
      rw [hf] at ok D
      exact hQ h D ok
    by_cases e : pop L < eNum E g
    · rw [if_pos (nI_lt e (by omega))]
      apply no
      unfold goB
      rw [decide_eq_false (show ¬ eNum E g ≤ pop L by omega)]
      rfl
    · rw [if_neg (nI_nlt (by omega) (by omega))]
      apply c_isLet X hs y4 hx hS ok D
      cases q : (!(decide (eWay E = 2) && decide (s = 0)) || smB (eNum E) 12 (eG E) (pop d.1 + eNum E g))
      · rw [if_pos (by decide)]
        apply no
        unfold goB
        rw [q, Bool.and_false]
      · rw [if_neg (by decide)]
        have go : goB (eNum E) (eG E) (eWay E) s (eNum E g) d.1 L = true := by
          unfold goB
          rw [q, decide_eq_true (show eNum E g ≤ pop L by omega)]
          rfl
        rw [if_pos go] at hf
        apply c_take X hs y4 hL (by omega) ok side D
        intro h' D'
        rw [nI_1]
        have tl := tk_lt (key := eK E s) hN hL (show eNum E g ≤ pop L by omega)
        have ts := (tk_spec (key := eK E s) hN hL (eNum E g) (by omega)).1
        exact hK _ _ _ ⟨i + 1, _, _, rfl, by omega, rfl, Nat.lt_of_le_of_lt anot_le hL, go_side hN hL side, ps_ok (mv_ok ok tl hs (fun i hi => side i (ts i hi))), D', by rw [show 12 - (i + 1) = 11 - i by omega]; exact hf⟩ (by rw [nI_clamp (by omega), nI_clamp (by omega)]; omega)
theorem c_through {h0 h : Hp} {E : EV} {s t g W : Nat} {x : Int64} {S : Nat → Bool} {d : DS} {Q : Hp → Prop} (X : EW h0 E) (hg : g < eG E) (hs : s ≤ 1) (hx : isS x S) (hS : ∀ i, i < 64 → (S i = true ↔ SM (eNum E) 12 (eG E) i)) (hW : W < 2 ^ eN E) (ok : dOK (eN E) d) (side : ∀ i, W.testBit i = true → d.1.testBit i = decide (s = 1)) (D : DC h0 (eWay E) x d h)
    (hQ : ∀ h', DC h0 (eWay E) x (lpS E s t g 12 d (letB (eP E) (eC E) (eN E) t g s W)) h' → dOK (eN E) (lpS E s t g 12 d (letB (eP E) (eC E) (eN E) t g s W)) → Q h') : wX2_letThrough 27 (nI g) (nI s) (nI t) (nI W) h Q := by
  have hN := X.1.1
  have h12 := p12 hN
  have Xh := X.fw D.2.2.2.2.2.2.2.fw
  obtain ⟨y1, y2, y3, y4⟩ := X.2.1.2.2.2 g hg
  unfold wX2_letThrough
  rw [rf_27_0, rf_27_1, rf_27_2, e_numberOf Xh.2.1 hg, e_bitCount h (by omega)]
  have pl := pop_le W (by omega)
  have sub : ∀ i, (letB (eP E) (eC E) (eN E) t g s W).testBit i = true → W.testBit i = true := by
    intro i hi
    unfold letB at hi
    rw [setB_bit] at hi
    simp only [Bool.and_eq_true] at hi
    exact hi.2.1
  by_cases c : eNum E g ≤ pop W
  · rw [if_pos (nI_le c (by omega))]
    apply c_letting Xh.1 hW Xh.2.2.1
    intro h2 F2
    rw [Xh.2.2.2.2.2.1]
    exact c_lp X hg hs hx hS (letB_lt _ _ _ _ _ _ _) ok (fun i hi => side i (sub i hi)) (D.fs F2) hQ
  · rw [if_neg (nI_ge (by omega) (by omega))]
    have e : lpS E s t g 12 d (letB (eP E) (eC E) (eN E) t g s W) = d := by
      have pm := pop_mono sub
      rw [lpS, dlp, if_neg]
      unfold goB
      rw [decide_eq_false (by omega), Bool.false_and]
      decide
    rw [e] at hQ
    exact hQ h D ok
