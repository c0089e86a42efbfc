/-! a day's state: who is out, who has gone, when out, when in, the sum, the passings -/
abbrev DS : Type := Nat × Nat × (Nat → Int32) × (Nat → Int32) × Nat × Nat
def keyf (l r c : Nat → Nat) (way s : Nat) (p : Nat) : Int32 := if way = 1 then -nI (c p) else if s = 0 then nI (l p) else nI (r p)
def mvS (s t : Nat) (d : DS) (T : Nat) : DS := (d.1 ^^^ T, (if s = 0 then d.2.1 ||| T else d.2.1), (if s = 0 then (fun p => if T.testBit p then nI t else d.2.2.1 p) else d.2.2.1), (if s = 0 then d.2.2.2.1 else (fun p => if T.testBit p then nI t else d.2.2.2.1 p)), d.2.2.2.2.1, d.2.2.2.2.2)
def psS (d : DS) : DS := (d.1, d.2.1, d.2.2.1, d.2.2.2.1, d.2.2.2.2.1, d.2.2.2.2.2 + 1)
noncomputable def smB (num : Nat → Nat) (t g i : Nat) : Bool := @decide (SM num t g i) (Classical.propDecidable _)
theorem smB_iff {num : Nat → Nat} {t g i : Nat} : smB num t g i = true ↔ SM num t g i := by
  unfold smB
  exact @decide_eq_true_iff _ (Classical.propDecidable _)
noncomputable def goB (num : Nat → Nat) (g way s m o L : Nat) : Bool := decide (m ≤ pop L) && (!(decide (way = 2) && decide (s = 0)) || smB num 12 g (pop o + m))
/-- passings, one behind another -/
noncomputable def dlp (num : Nat → Nat) (g : Nat) (key : Nat → Int32) (N way s t m : Nat) : Nat → DS → Nat → DS
  | 0, d, _ => d
  | f + 1, d, L => if goB num g way s m d.1 L then dlp num g key N way s t m f (psS (mvS s t d (tkT key N L m))) (anot L (tkT key N L m)) else d
def dOK (N : Nat) (d : DS) : Prop := d.1 < 2 ^ N ∧ d.2.1 < 2 ^ N ∧ ∀ i, d.1.testBit i = true → d.2.1.testBit i = true
/-- what a day changes -/
def dsc (a k : Nat) : Bool := decide (a ∈ ([9, 13, 17, 71, 72, 27, 28, 29, 74, 75] : List Nat)) || (decide (a = 55) && decide (33 ≤ k ∧ k ≤ 36))
def Fdy (h h' : Hp) : Prop := (∀ a k, dsc a k = false → gI h' a k = gI h a k) ∧ ∀ a k, a ≠ 27 → gL h' a k = gL h a k
theorem Fdy.refl (h : Hp) : Fdy h h := ⟨fun _ _ _ => rfl, fun _ _ _ => rfl⟩
theorem Fdy.trans {h0 h1 h2 : Hp} (F : Fdy h0 h1) (F2 : Fdy h1 h2) : Fdy h0 h2 := ⟨fun a k q => (F2.1 a k q).trans (F.1 a k q), fun a k q => (F2.2 a k q).trans (F.2 a k q)⟩
theorem Fdy.set {h0 h : Hp} (F : Fdy h0 h) (a k : Nat) (v : Int32) (hd : dsc a k = true) : Fdy h0 (sI h a k v) := by
  refine ⟨fun b j q => ?_, F.2⟩
  rw [gI_sI, if_neg (fun e => by rw [e.1, e.2, hd] at q; exact absurd q (by decide))]
  exact F.1 b j q
theorem Fdy.setL {h0 h : Hp} (F : Fdy h0 h) (k : Nat) (v : Int64) : Fdy h0 (sL h 27 k v) := by
  refine ⟨F.1, fun b j q => ?_⟩
  rw [gL_sL, if_neg (fun e => q e.1)]
  exact F.2 b j q
theorem Fs.fd {h h' : Hp} (F : Fs h h') : Fdy h h' := by
  refine ⟨fun a k q => ?_, fun a k _ => F.2 a k⟩
  refine F.1 a k ?_ ?_ ?_ ?_ ?_ <;> (rintro rfl; simp [dsc] at q)
theorem kpt_dsc {a k : Nat} (q : kpt a k = true) : dsc a k = false := by
  unfold kpt at q
  simp only [Bool.or_eq_true, decide_eq_true_eq, List.mem_cons, List.not_mem_nil, or_false, Prod.mk.injEq] at q
  unfold dsc
  simp only [Bool.or_eq_false_iff, Bool.and_eq_false_iff, decide_eq_false_iff_not, List.mem_cons, List.not_mem_nil, or_false]
  omega
theorem Fdy.fw {h h' : Hp} (F : Fdy h h') : Fw h h' := fun a k q => F.1 a k (kpt_dsc q)
theorem usd_dsc {a k : Nat} (q : usd a k = true ∨ usD a k = true) : dsc a k = false := by
  unfold usd usD at q
  simp only [Bool.or_eq_true, decide_eq_true_eq, List.mem_cons, List.not_mem_nil, or_false, Prod.mk.injEq] at q
  unfold dsc
  simp only [Bool.or_eq_false_iff, Bool.and_eq_false_iff, decide_eq_false_iff_not, List.mem_cons, List.not_mem_nil, or_false]
  omega
theorem Inv.fd {h h' : Hp} (I : Inv h) (F : Fdy h h') : Inv h' := I.same (fun a k q => F.1 a k (usd_dsc q)) (fun a k q => F.2 a k (by rintro rfl; simp [usL] at q))
/-- the class's cells of a day -/
def DC (h0 : Hp) (way : Nat) (x : Int64) (d : DS) (h : Hp) : Prop :=
  gI h 27 5 = nI way ∧ gL h 27 6 = x ∧ gI h 27 7 = nI d.2.1 ∧ gI h 27 8 = nI d.1 ∧ gI h 27 9 = nI d.2.2.2.2.1 ∧ gI h 27 10 = nI d.2.2.2.2.2 ∧ (∀ p, p < 12 → gI h 28 p = d.2.2.1 p ∧ gI h 29 p = d.2.2.2.1 p) ∧ Fdy h0 h
theorem DC.fs {h0 h h' : Hp} {way : Nat} {x : Int64} {d : DS} (D : DC h0 way x d h) (F : Fs h h') : DC h0 way x d h' := by
  obtain ⟨d1, d2, d3, d4, d5, d6, d7, d8⟩ := D
  refine ⟨(F.at 27 5 (by decide)).trans d1, (F.2 27 6).trans d2, (F.at 27 7 (by decide)).trans d3, (F.at 27 8 (by decide)).trans d4, (F.at 27 9 (by decide)).trans d5, (F.at 27 10 (by decide)).trans d6, fun p hp => ?_, d8.trans F.fd⟩
  rw [F.at 28 p (by decide), F.at 29 p (by decide)]
  exact d7 p hp
theorem c_turn {h : Hp} {N p s way : Nat} (PP : PN h N) (hp : p < N) (hs : s ≤ 1) (hw : way ≤ 2) (ew : gI h 27 5 = nI way) {Q : Int32 → Prop} (hQ : Q (keyf (hL h) (hRt h) (hC h) way s p)) : wX2_turnOf 27 (nI p) (nI s) h Q := by
  obtain ⟨hN, e1, e2, hq⟩ := PP
  obtain ⟨y1, y2, y3, y4⟩ := hq p hp
  unfold wX2_turnOf
  have v : vp_in (nI p) 12 := (vp_nI (by omega)).mpr (by omega)
  simp only [rf_27_1, rf_3_0, rf_3_1, rf_3_2, ln_4, ln_5, ln_6, nI_clamp (show p < 2 ^ 31 by omega), ew, y1, y2, y3]
  unfold keyf at hQ
  by_cases c : way = 1
  · rw [if_pos c] at hQ
    rw [if_pos (show nI way = 1 by rw [c]; rfl)]
    exact ⟨v, hQ⟩
  · rw [if_neg c] at hQ
    rw [if_neg (show ¬ nI way = 1 from fun q => c ((nI_eq (b := 1) (by omega) (by omega)).mp q))]
    by_cases d : s = 0
    · rw [if_pos d] at hQ
      rw [if_pos (show nI s = 0 by rw [d]; rfl)]
      exact ⟨v, hQ⟩
    · rw [if_neg d] at hQ
      rw [if_neg (nI_ne0 (by omega) (by omega))]
      exact ⟨v, hQ⟩
theorem key_lt {h : Hp} {N p s way : Nat} (PP : PN h N) (hp : p < N) : keyf (hL h) (hRt h) (hC h) way s p < 2147483647 := by
  obtain ⟨hN, e1, e2, hq⟩ := PP
  obtain ⟨y1, y2, y3, y4, y5, y6, y7, y8, y9, y10⟩ := hq p hp
  unfold keyf
  have sm : ∀ a, a ≤ 60 → nI a < 2147483647 := fun a ha => nI_lt (b := 2147483647) (by omega) (by omega)
  by_cases c : way = 1
  · rw [if_pos c, Int32.lt_iff_toInt_lt, neg_toInt (show hC h p ≤ 2 ^ 30 from by show tn (rI h 6) p ≤ _; omega)]
    show -((hC h p : Nat) : Int) < 2147483647
    omega
  · rw [if_neg c]
    by_cases d : s = 0
    · rw [if_pos d]; exact sm _ (by show tn (rI h 4) p ≤ 60; omega)
    · rw [if_neg d]; exact sm _ (by show tn (rI h 5) p ≤ 60; omega)
theorem c_first {h : Hp} {N S s way b : Nat} (PP : PN h N) (hS : S < 2 ^ N) (hs : s ≤ 1) (hw : way ≤ 2) (ew : gI h 27 5 = nI way) (hb : pick (keyf (hL h) (hRt h) (hC h) way s) S N = some b) {Q : Int32 → Prop} (hQ : Q (nI b)) : wX2_firstOf 27 (nI S) (nI s) h Q := by
  have hN := PP.1
  have h12 := p12 hN
  unfold wX2_firstOf
  refine iX2_firstOf_9 (I := fun x3 x4 x5 => ∃ j : Nat, x5 = nI j ∧ j ≤ N ∧ ((pick (keyf (hL h) (hRt h) (hC h) way s) S j = none ∧ x4 = 2147483647) ∨ ∃ b, b < j ∧ pick (keyf (hL h) (hRt h) (hC h) way s) S j = some b ∧ x3 = nI b ∧ x4 = keyf (hL h) (hRt h) (hC h) way s b)) (μ := fun _ _ x5 => N - x5.toNatClampNeg) ?_ 0 2147483647 0 ⟨0, rfl, by omega, Or.inl ⟨rfl, rfl⟩⟩
  rintro x3 x4 x5 ⟨j, rfl, hj, hor⟩ K hK
  unfold fX2_firstOf_9
  rw [rf_27_1, PP.2.1]
  by_cases c : N ≤ j
  · rw [if_pos (nI_le c (by omega))]
    have : j = N := by omega
    subst this
    rcases hor with ⟨q, _⟩ | ⟨b', _, q2, q3, _⟩
    · rw [hb] at q; exact absurd q (by simp)
    · rw [hb] at q2
      rw [q3, ← Option.some.inj q2]
      exact hQ
  · rw [if_neg (nI_ge (by omega) (by omega))]
    unfold wX11_bit
    rw [bit_nI (show S < 2 ^ 31 by omega) (by omega)]
    simp only [forall_eq, nI_1]
    have mu : N - (nI (j + 1)).toNatClampNeg < N - (nI j).toNatClampNeg := by rw [nI_clamp (by omega), nI_clamp (by omega)]; omega
    cases hb2 : S.testBit j
    · rw [if_pos (by decide)]
      refine hK _ _ _ ⟨j + 1, rfl, by omega, ?_⟩ mu
      rw [pick, hb2, if_neg (by decide)]
      rcases hor with q | ⟨b', q1, q2⟩
      · exact Or.inl q
      · exact Or.inr ⟨b', by omega, q2⟩
    · rw [if_neg (by decide)]
      apply c_turn PP (show j < N by omega) hs hw ew
      have kl := key_lt (s := s) (way := way) PP (show j < N by omega)
      rcases hor with ⟨q1, q2⟩ | ⟨b', q1, q2, q3, q4⟩
      · rw [q2, if_neg (Int32.not_le.mpr kl)]
        apply c_turn PP (show j < N by omega) hs hw ew
        refine hK _ _ _ ⟨j + 1, rfl, by omega, Or.inr ⟨j, by omega, ?_, rfl, rfl⟩⟩ mu
        rw [pick, hb2, if_pos rfl, q1]
      · rw [q4]
        by_cases d : keyf (hL h) (hRt h) (hC h) way s j < keyf (hL h) (hRt h) (hC h) way s b'
        · rw [if_neg (Int32.not_le.mpr d)]
          apply c_turn PP (show j < N by omega) hs hw ew
          refine hK _ _ _ ⟨j + 1, rfl, by omega, Or.inr ⟨j, by omega, ?_, rfl, rfl⟩⟩ mu
          rw [pick, hb2, if_pos rfl, q2]
          dsimp only
          rw [if_pos d]
        · rw [if_pos (nl d)]
          refine hK _ _ _ ⟨j + 1, rfl, by omega, Or.inr ⟨b', by omega, ?_, q3, rfl⟩⟩ mu
          rw [pick, hb2, if_pos rfl, q2]
          dsimp only
          rw [if_neg d]
theorem mv_bits {o T b s : Nat} (ho : o < 4096) (hT4 : T < 4096) (hT : T.testBit b = false) (hb : o.testBit b = decide (s = 1)) (hs : s ≤ 1) : (s = 0 → (o ^^^ T) ||| 2 ^ b = o ^^^ (T ||| 2 ^ b)) ∧ (s = 1 → anot (o ^^^ T) (2 ^ b) = o ^^^ (T ||| 2 ^ b)) := by
  have hx : o ^^^ T < 4096 := Nat.xor_lt_two_pow (n := 12) ho hT4
  constructor
  · intro e
    subst e
    apply nat_ext
    intro i
    rw [Nat.testBit_or, Nat.testBit_xor, Nat.testBit_xor, Nat.testBit_or, Nat.testBit_two_pow]
    by_cases q : b = i
    · subst q; simp [hT, hb]
    · simp [q]
  · intro e
    subst e
    apply nat_ext
    intro i
    rw [anot_bit hx, Nat.testBit_xor, Nat.testBit_xor, Nat.testBit_or, Nat.testBit_two_pow]
    by_cases q : b = i
    · subst q; simp [hT, hb]
    · simp [q]
theorem c_move {h0 h : Hp} {way b s t T : Nat} {x : Int64} {d : DS} (D : DC h0 way x (mvS s t d T) h) (hb : b < 12) (ho : d.1 < 4096) (hT4 : T < 4096) (hT : T.testBit b = false) (hbo : d.1.testBit b = decide (s = 1)) (hs : s ≤ 1) {Q : Hp → Prop} (hQ : ∀ h', DC h0 way x (mvS s t d (T ||| 2 ^ b)) h' → Q h') : wX2_move 27 (nI b) (nI s) (nI t) h Q := by
  obtain ⟨d1, d2, d3, d4, d5, d6, d7, d8⟩ := D
  obtain ⟨m0, m1⟩ := mv_bits ho hT4 hT hbo hs
  have hx : d.1 ^^^ T < 4096 := Nat.xor_lt_two_pow (n := 12) ho hT4
  have vb : vp_in (nI b) 12 := (vp_nI (by omega)).mpr hb
  unfold wX2_move
  simp only [forall_eq, rf_27_3, rf_27_4, ln_28, ln_29, nI_clamp (show b < 2 ^ 31 by omega), shl1 b (by omega)]
  by_cases c : s = 0
  · subst c
    rw [if_pos (show nI 0 = 0 from rfl)]
    refine ⟨vb, hQ _ ⟨?_, ?_, ?_, ?_, ?_, ?_, fun p hp => ⟨?_, ?_⟩, ?_⟩⟩
    · simp only [forall_eq, gI_sI, gI_sL, gL_sI, gL_sL, gI_cpI, gL_cpI, gI_cpL, gL_cpL, Nat.reduceEqDiff, Nat.reduceAdd, Nat.reduceSub, cl0, cl1, cl12, cl39, and_false, false_and, and_true, true_and, and_self, ↓reduceIte]; exact d1
    · exact d2
    · simp only [forall_eq, gI_sI, gI_sL, gL_sI, gL_sL, gI_cpI, gL_cpI, gI_cpL, gL_cpL, Nat.reduceEqDiff, Nat.reduceAdd, Nat.reduceSub, cl0, cl1, cl12, cl39, and_false, false_and, and_true, true_and, and_self, ↓reduceIte, d3]
      simp only [mvS, ↓reduceIte]
      rw [nI_or, Nat.or_assoc]
    · simp only [forall_eq, gI_sI, gI_sL, gL_sI, gL_sL, gI_cpI, gL_cpI, gI_cpL, gL_cpL, Nat.reduceEqDiff, Nat.reduceAdd, Nat.reduceSub, cl0, cl1, cl12, cl39, and_false, false_and, and_true, true_and, and_self, ↓reduceIte, d4]
      simp only [mvS]
      rw [nI_or, m0 rfl]
    · simp only [forall_eq, gI_sI, gI_sL, gL_sI, gL_sL, gI_cpI, gL_cpI, gI_cpL, gL_cpL, Nat.reduceEqDiff, Nat.reduceAdd, Nat.reduceSub, cl0, cl1, cl12, cl39, and_false, false_and, and_true, true_and, and_self, ↓reduceIte]; exact d5
    · simp only [forall_eq, gI_sI, gI_sL, gL_sI, gL_sL, gI_cpI, gL_cpI, gI_cpL, gL_cpL, Nat.reduceEqDiff, Nat.reduceAdd, Nat.reduceSub, cl0, cl1, cl12, cl39, and_false, false_and, and_true, true_and, and_self, ↓reduceIte]; exact d6
    · simp only [forall_eq, gI_sI, gI_sL, gL_sI, gL_sL, gI_cpI, gL_cpI, gI_cpL, gL_cpL, Nat.reduceEqDiff, Nat.reduceAdd, Nat.reduceSub, cl0, cl1, cl12, cl39, and_false, false_and, and_true, true_and, and_self, ↓reduceIte]
      simp only [mvS, ↓reduceIte] at d7 ⊢
      rw [Nat.testBit_or, Nat.testBit_two_pow]
      by_cases e : p = b
      · subst e; simp
      · rw [if_neg e, (d7 p hp).1]
        simp [show ¬ b = p by omega]
    · simp only [forall_eq, gI_sI, gI_sL, gL_sI, gL_sL, gI_cpI, gL_cpI, gI_cpL, gL_cpL, Nat.reduceEqDiff, Nat.reduceAdd, Nat.reduceSub, cl0, cl1, cl12, cl39, and_false, false_and, and_true, true_and, and_self, ↓reduceIte]
      exact (d7 p hp).2
    · exact ((d8.set 27 8 _ rfl).set 27 7 _ rfl).set 28 b _ rfl
  · rw [if_neg (show ¬ nI s = 0 from nI_ne0 (by omega) (by omega))]
    refine ⟨vb, hQ _ ⟨?_, ?_, ?_, ?_, ?_, ?_, fun p hp => ⟨?_, ?_⟩, ?_⟩⟩
    · simp only [forall_eq, gI_sI, gI_sL, gL_sI, gL_sL, gI_cpI, gL_cpI, gI_cpL, gL_cpL, Nat.reduceEqDiff, Nat.reduceAdd, Nat.reduceSub, cl0, cl1, cl12, cl39, and_false, false_and, and_true, true_and, and_self, ↓reduceIte]; exact d1
    · exact d2
    · simp only [forall_eq, gI_sI, gI_sL, gL_sI, gL_sL, gI_cpI, gL_cpI, gI_cpL, gL_cpL, Nat.reduceEqDiff, Nat.reduceAdd, Nat.reduceSub, cl0, cl1, cl12, cl39, and_false, false_and, and_true, true_and, and_self, ↓reduceIte, d3]
      simp only [mvS, if_neg c]
    · simp only [forall_eq, gI_sI, gI_sL, gL_sI, gL_sL, gI_cpI, gL_cpI, gI_cpL, gL_cpL, Nat.reduceEqDiff, Nat.reduceAdd, Nat.reduceSub, cl0, cl1, cl12, cl39, and_false, false_and, and_true, true_and, and_self, ↓reduceIte, d4]
      simp only [mvS]
      rw [anot_nI hx, m1 (by omega)]
    · simp only [forall_eq, gI_sI, gI_sL, gL_sI, gL_sL, gI_cpI, gL_cpI, gI_cpL, gL_cpL, Nat.reduceEqDiff, Nat.reduceAdd, Nat.reduceSub, cl0, cl1, cl12, cl39, and_false, false_and, and_true, true_and, and_self, ↓reduceIte]; exact d5
    · simp only [forall_eq, gI_sI, gI_sL, gL_sI, gL_sL, gI_cpI, gL_cpI, gI_cpL, gL_cpL, Nat.reduceEqDiff, Nat.reduceAdd, Nat.reduceSub, cl0, cl1, cl12, cl39, and_false, false_and, and_true, true_and, and_self, ↓reduceIte]; exact d6
    · simp only [forall_eq, gI_sI, gI_sL, gL_sI, gL_sL, gI_cpI, gL_cpI, gI_cpL, gL_cpL, Nat.reduceEqDiff, Nat.reduceAdd, Nat.reduceSub, cl0, cl1, cl12, cl39, and_false, false_and, and_true, true_and, and_self, ↓reduceIte]
      simp only [mvS, if_neg c] at d7 ⊢
      exact (d7 p hp).1
    · simp only [forall_eq, gI_sI, gI_sL, gL_sI, gL_sL, gI_cpI, gL_cpI, gI_cpL, gL_cpL, Nat.reduceEqDiff, Nat.reduceAdd, Nat.reduceSub, cl0, cl1, cl12, cl39, and_false, false_and, and_true, true_and, and_self, ↓reduceIte]
      simp only [mvS, if_neg c] at d7 ⊢
      rw [Nat.testBit_or, Nat.testBit_two_pow]
      by_cases e : p = b
      · subst e; simp
      · rw [if_neg e, (d7 p hp).2]
        simp [show ¬ b = p by omega]
    · exact (d8.set 27 8 _ rfl).set 29 b _ rfl
