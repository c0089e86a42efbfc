theorem Inv.lw {h h2 : Hp} (I : Inv h) (f : ∀ a k, usd a k = true ∨ usD a k = true → a ≠ 10 ∧ a ≠ 11 ∧ a ≠ 12 ∧ a ≠ 14 ∧ a ≠ 15 ∧ a ≠ 16 ∧ a ≠ 66 ∧ a ≠ 67 ∧ a ≠ 68 ∧ a ≠ 69 ∧ a ≠ 70 ∧ a ≠ 73 ∧ a ≠ 7 ∧ a ≠ 65 ∧ (a, k) ≠ (0, 3) ∧ (a, k) ≠ (55, 18) → gI h2 a k = gI h a k) (fl : ∀ a k, usL a = true → gL h2 a k = gL h a k)
    (jT : JT (gI h2 0 3) (rI h2 7) (gI h2 55 18) (rI h2 65))
    (l0 : JL1 0 (gI h2 10 4) (gI h2 10 3) (rI h2 11) (rI h2 12) (rI h2 73) (rI h2 66) (rI h2 67) (rI h2 68) (rI h2 69) (rI h2 70))
    (l1 : JL1 1 (gI h2 14 4) (gI h2 14 3) (rI h2 15) (rI h2 16) (rI h2 73) (rI h2 66) (rI h2 67) (rI h2 68) (rI h2 69) (rI h2 70)) : Inv h2 := by
  have ff : ∀ a k, usd a k = true ∨ usD a k = true → (a ≠ 10 ∧ a ≠ 11 ∧ a ≠ 12 ∧ a ≠ 14 ∧ a ≠ 15 ∧ a ≠ 16 ∧ a ≠ 66 ∧ a ≠ 67 ∧ a ≠ 68 ∧ a ≠ 69 ∧ a ≠ 70 ∧ a ≠ 73 ∧ a ≠ 7 ∧ a ≠ 65) ∧ a ≠ 0 ∧ a ≠ 55 → gI h2 a k = gI h a k := fun a k q1 q2 => f a k q1 ⟨q2.1.1, q2.1.2.1, q2.1.2.2.1, q2.1.2.2.2.1, q2.1.2.2.2.2.1, q2.1.2.2.2.2.2.1, q2.1.2.2.2.2.2.2.1, q2.1.2.2.2.2.2.2.2.1, q2.1.2.2.2.2.2.2.2.2.1, q2.1.2.2.2.2.2.2.2.2.2.1, q2.1.2.2.2.2.2.2.2.2.2.2.1, q2.1.2.2.2.2.2.2.2.2.2.2.2.1, q2.1.2.2.2.2.2.2.2.2.2.2.2.2.1, q2.1.2.2.2.2.2.2.2.2.2.2.2.2.2, fun e => q2.2.1 (congrArg Prod.fst e), fun e => q2.2.2 (congrArg Prod.fst e)⟩
  have r : ∀ a, (∀ k, usd a k = true ∨ usD a k = true) → (a ≠ 10 ∧ a ≠ 11 ∧ a ≠ 12 ∧ a ≠ 14 ∧ a ≠ 15 ∧ a ≠ 16 ∧ a ≠ 66 ∧ a ≠ 67 ∧ a ≠ 68 ∧ a ≠ 69 ∧ a ≠ 70 ∧ a ≠ 73 ∧ a ≠ 7 ∧ a ≠ 65) ∧ a ≠ 0 ∧ a ≠ 55 → rI h2 a = rI h a := fun a ha q => funext fun k => ff a k (ha k) q
  have rl : rL h2 85 = rL h 85 := funext fun k => fl 85 k rfl
  have sv : ∀ j, 1 ≤ j → j ≤ 3 → shV h2 j = shV h j := by
    intro j j1 j3
    funext s
    unfold shV
    by_cases hs : s < 6
    · rw [if_pos hs, if_pos hs]
      refine ff _ _ (Or.inl ?_) ⟨⟨by omega, by omega, by omega, by omega, by omega, by omega, by omega, by omega, by omega, by omega, by omega, by omega, by omega, by omega⟩, by omega, by omega⟩
      unfold usd
      rw [decide_eq_true (p := 43 ≤ 43 + 2 * s ∧ _) ⟨by omega, by omega, by omega, j1, j3⟩, Bool.or_true]
    · rw [if_neg hs, if_neg hs]
  have se : shE h2 = shE h := by
    funext s k
    unfold shE
    by_cases hs : s < 6
    · rw [if_pos hs, if_pos hs]
      exact fl _ _ (by unfold usL; exact decide_eq_true (Or.inr ⟨by omega, by omega⟩))
    · rw [if_neg hs, if_neg hs]
  obtain ⟨iG, iP, iD, iT, iI, iC, iB, iS, iL0, iL1⟩ := I
  unfold Inv
  rw [f 1 1 (Or.inl rfl) (by decide), f 3 3 (Or.inl rfl) (by decide), f 0 7 (Or.inl rfl) (by decide), f 25 1 (Or.inl rfl) (by decide), f 25 2 (Or.inl rfl) (by decide), f 25 3 (Or.inl rfl) (by decide), f 33 4 (Or.inl rfl) (by decide), f 33 5 (Or.inl rfl) (by decide), f 39 2 (Or.inl rfl) (by decide), f 39 3 (Or.inl rfl) (by decide), f 55 1 (Or.inl rfl) (by decide), f 55 3 (Or.inl rfl) (by decide), f 55 11 (Or.inl rfl) (by decide), f 55 12 (Or.inl rfl) (by decide), f 55 42 (Or.inl rfl) (by decide), f 55 43 (Or.inl rfl) (by decide), f 55 44 (Or.inl rfl) (by decide), f 55 45 (Or.inl rfl) (by decide), f 55 46 (Or.inl rfl) (by decide), f 55 48 (Or.inl rfl) (by decide), f 55 50 (Or.inl rfl) (by decide), f 23 1 (Or.inr rfl) (by decide), f 23 2 (Or.inr rfl) (by decide), f 23 3 (Or.inr rfl) (by decide), f 55 7 (Or.inr rfl) (by decide), f 55 8 (Or.inr rfl) (by decide), f 55 9 (Or.inr rfl) (by decide), r 2 (fun _ => Or.inl rfl) (by decide), r 56 (fun _ => Or.inl rfl) (by decide), r 4 (fun _ => Or.inl rfl) (by decide), r 5 (fun _ => Or.inl rfl) (by decide), r 6 (fun _ => Or.inl rfl) (by decide), r 57 (fun _ => Or.inl rfl) (by decide), r 58 (fun _ => Or.inl rfl) (by decide), r 59 (fun _ => Or.inl rfl) (by decide), r 26 (fun _ => Or.inl rfl) (by decide), r 80 (fun _ => Or.inl rfl) (by decide), r 34 (fun _ => Or.inl rfl) (by decide), r 35 (fun _ => Or.inl rfl) (by decide), r 36 (fun _ => Or.inl rfl) (by decide), r 37 (fun _ => Or.inl rfl) (by decide), r 61 (fun _ => Or.inl rfl) (by decide), r 62 (fun _ => Or.inl rfl) (by decide), r 63 (fun _ => Or.inl rfl) (by decide), r 64 (fun _ => Or.inl rfl) (by decide), r 40 (fun _ => Or.inl rfl) (by decide), r 41 (fun _ => Or.inl rfl) (by decide), r 81 (fun _ => Or.inl rfl) (by decide), r 82 (fun _ => Or.inl rfl) (by decide), r 83 (fun _ => Or.inl rfl) (by decide), r 84 (fun _ => Or.inl rfl) (by decide), r 24 (fun _ => Or.inr rfl) (by decide), r 60 (fun _ => Or.inr rfl) (by decide), rl, sv 1 (by omega) (by omega), sv 2 (by omega) (by omega), sv 3 (by omega) (by omega), se]
  exact ⟨iG, iP, iD, jT, iI, iC, iB, iS, l0, l1⟩
theorem LT.jl {h : Hp} {a0 o g w : Nat} {P : Option Lns} (L : LT h a0 o g w P) : JL1 w (gI h a0 4) (gI h a0 3) (rI h o) (rI h g) (rI h 73) (rI h 66) (rI h 67) (rI h 68) (rI h 69) (rI h 70) := by
  cases P with
  | none =>
    refine ⟨?_, Or.inl L.1⟩
    show gI h 73 w = gI h a0 4
    rw [L.1, L.2]
  | some P =>
    obtain ⟨q1, q2, q3, q4, q5, q6, q7, q8, q9, q10⟩ := L
    refine ⟨?_, Or.inr ⟨q1, P, q3, q4, q5, q6, q7, q8, q9, q10⟩⟩
    show gI h 73 w = gI h a0 4
    rw [q1, q2]
theorem LT.keep {h h' : Hp} {a0 o g w : Nat} {P : Option Lns} (L : LT h a0 o g w P) (f3 : gI h' a0 3 = gI h a0 3) (f4 : gI h' a0 4 = gI h a0 4) (fo : ∀ k, gI h' o k = gI h o k) (fg : ∀ k, gI h' g k = gI h g k) (f73 : gI h' 73 w = gI h 73 w) (f68 : gI h' 68 w = gI h 68 w) (f66 : ∀ k, k < 130 → gI h' 66 (130 * w + k) = gI h 66 (130 * w + k) ∧ gI h' 67 (130 * w + k) = gI h 67 (130 * w + k)) (f69 : ∀ k, k < 61 → gI h' 69 (61 * w + k) = gI h 69 (61 * w + k) ∧ gI h' 70 (61 * w + k) = gI h 70 (61 * w + k)) : LT h' a0 o g w P := by
  cases P with
  | none => exact ⟨f4.trans L.1, f73.trans L.2⟩
  | some P =>
    obtain ⟨q1, q2, q3, q4, q5, q6, q7, q8, q9, q10⟩ := L
    refine ⟨f4.trans q1, f73.trans q2, q3, q4, q5, f3.trans q6, fun k s hk => ?_, f68.trans q8, fun k s hk => ?_, fun k l hk => ?_⟩
    · rw [fo, fg]; exact q7 k s hk
    · have kl := (List.getElem?_eq_some_iff.mp hk).1
      have := fmS_le P
      obtain ⟨y1, y2⟩ := f66 k (by omega)
      rw [y1, y2]; exact q9 k s hk
    · have kl := (List.getElem?_eq_some_iff.mp hk).1
      obtain ⟨y1, y2⟩ := f69 k (by omega)
      rw [y1, y2]; exact q10 k l hk
/-! the reference keeps what it read -/
def fzs (w a k : Nat) : Bool := (decide (a = 55) && decide (18 ≤ k ∧ k ≤ 22)) || (decide (a = 66 ∨ a = 67) && decide (260 ≤ k ∨ (130 * w ≤ k ∧ k < 130 * w + 130))) || (decide (a = 68) && decide (k = 2 ∨ k = w)) || (decide (a = 69 ∨ a = 70) && decide (122 ≤ k ∨ (61 * w ≤ k ∧ k < 61 * w + 61)))
def Fz (w : Nat) (h0 h : Hp) : Prop := (∀ a k, fzs w a k = false → gI h a k = gI h0 a k) ∧ ∀ a k, gL h a k = gL h0 a k
theorem Fz.set {w : Nat} {h0 h : Hp} (F : Fz w h0 h) (a k : Nat) (v : Int32) (hd : fzs w a k = true) : Fz w h0 (sI h a k v) := by
  refine ⟨fun b j q => ?_, F.2⟩
  rw [gI_sI, if_neg (fun e => by rw [e.1, e.2, hd] at q; exact absurd q (by decide))]
  exact F.1 b j q
theorem Fq.fz {w : Nat} {h0 h : Hp} (F : Fq h0 h) : Fz w h0 h := by
  refine ⟨fun a k q => F.1 a k ?_, F.2⟩
  unfold fzs at q
  unfold fqs
  simp only [Bool.or_eq_false_iff, Bool.and_eq_false_iff, decide_eq_false_iff_not] at q ⊢
  omega
theorem enc_b8 : ∀ (L : List Sp2) (z m : Nat), runs z L = some m → ∀ s ∈ L, b8 (encS s).1 = (encS s).1
  | [], _, _, _, s, hs => absurd hs (by simp)
  | s0 :: r, z, m, h, s, hs => by
    rcases List.mem_cons.mp hs with rfl | hs
    · rcases runs_cons h with ⟨q, _⟩ | ⟨q, _, _⟩ | ⟨q, _⟩ | ⟨q, _⟩
      · have e : encS s = (1, s.2) := by unfold encS; rw [if_pos q]
        rw [e]; exact b81
      · have e : encS s = (2, s.2) := by unfold encS; rw [if_neg (by rw [q]; decide), if_pos q]
        rw [e]; exact b82
      · rcases q with q | q
        · have e : encS s = (3, 0) := by unfold encS; rw [if_neg (by rw [q]; decide), if_neg (by rw [q]; decide), if_pos q]
          rw [e]; exact b83
        · have e : encS s = (4, 0) := by unfold encS; rw [if_neg (by rw [q]; decide), if_neg (by rw [q]; decide), if_neg (by rw [q]; decide), if_pos q]
          rw [e]; exact b84
      · rw [encO q]
        simp only [List.mem_cons, List.not_mem_nil, or_false] at q
        rcases q with q | q | q | q | q | q | q | q | q | q <;> (rw [q]; decide)
    · rcases runs_cons h with ⟨_, q⟩ | ⟨_, _, q⟩ | ⟨_, _, q⟩ | ⟨_, _, q⟩ <;> exact enc_b8 r _ _ q s hs
theorem enc_P {P : Lns} (h : ∀ l ∈ P, lnOK l) : ∀ s ∈ P.flatMap lnS, b8 (encS s).1 = (encS s).1 := by
  intro s hs
  obtain ⟨l, hl, hs⟩ := List.mem_flatMap.mp hs
  obtain ⟨o2, o1⟩ := h l hl
  rcases List.mem_append.mp hs with hs | hs
  · rcases o1 with q | q
    · rw [q] at hs; exact absurd hs (by simp)
    · exact enc_b8 _ _ _ q s hs
  · exact enc_b8 _ _ _ o2 s hs
theorem off_le (P : Lns) (k : Nat) : offP P k ≤ (P.flatMap lnS).length := by
  unfold offP
  conv =>
    rhs
    rw [← List.take_append_drop k P]
  rw [List.flatMap_append, List.length_append]
  omega
section
variable {h0 : Hp} {n : Nat} {sg : Nat → Nat}
theorem m_copy {w : Nat} (hw : w < 2) {P : Lns} {p : Nat} {h : Hp} {Q : Int32 → Hp → Prop} (L : LM h0 n P p h) (hP : P.length ≤ 61) (hl : (P.flatMap lnS).length ≤ 129) (hOK : ∀ l ∈ P, lnOK l)
    (hQ : ∀ h', gI h' 55 18 = 0 → gI h' 68 w = nI P.length → (∀ k s, (P.flatMap lnS)[k]? = some s → gI h' 66 (130 * w + k) = (encS s).1 ∧ gI h' 67 (130 * w + k) = (encS s).2) → (∀ k l, P[k]? = some l → gI h' 69 (61 * w + k) = nI (offP P k + l.1.length) ∧ gI h' 70 (61 * w + k) = nI (offP P (k + 1))) → Fz w h0 h' → Q (-1) h') : jX12_readText_86 55 (nI w) h Q := by
  obtain ⟨m1, m2, m3, m4, m5, m6, m7, m8, m9⟩ := L
  unfold jX12_readText_86
  simp only [forall_eq]
  rw [show gI (sI h 55 18 0) 55 20 = gI h 55 20 by simp only [forall_eq, gI_sI, gI_sL, gL_sI, gL_sL, gI_cpI, gL_cpI, gI_cpL, gL_cpL, Nat.reduceEqDiff, Nat.reduceAdd, Nat.reduceSub, cl0, cl1, cl12, cl39, and_false, false_and, and_true, true_and, and_self, ↓reduceIte], m3, if_pos (by decide)]
  have z55 : fzs w 55 18 = true := by unfold fzs; simp
  have F0 : Fz w h0 (sI h 55 18 0) := (m9.fz).set 55 18 _ z55
  have z66 : ∀ j, j < 130 → fzs w 66 (130 * w + j) = true := by intro j hj; unfold fzs; simp; omega
  have z67 : ∀ j, j < 130 → fzs w 67 (130 * w + j) = true := by intro j hj; unfold fzs; simp; omega
  have z69 : ∀ j, j < 61 → fzs w 69 (61 * w + j) = true := by intro j hj; unfold fzs; simp; omega
  have z70 : ∀ j, j < 61 → fzs w 70 (61 * w + j) = true := by intro j hj; unfold fzs; simp; omega
  have z68 : fzs w 68 w = true := by unfold fzs; simp
  have vw : vp_in (nI w) 3 := (vp_nI (by omega)).mpr (by omega)
  have v2 : vp_in (2 : Int32) 3 := (vp_nI (a := 2) (by omega)).mpr (by omega)
  refine iX12_readText_105 (I := fun x2 h' => ∃ k, x2 = nI k ∧ k ≤ (P.flatMap lnS).length ∧ (∀ i s, (P.flatMap lnS)[i]? = some s → gI h' 66 (260 + i) = (encS s).1 ∧ gI h' 67 (260 + i) = (encS s).2) ∧ (∀ i s, i < k → (P.flatMap lnS)[i]? = some s → gI h' 66 (130 * w + i) = (encS s).1 ∧ gI h' 67 (130 * w + i) = (encS s).2) ∧ (∀ a j, a ≠ 66 → a ≠ 67 → gI h' a j = gI (sI h 55 18 0) a j) ∧ Fz w h0 h') (μ := fun x2 _ => (P.flatMap lnS).length - x2.toNatClampNeg) ?_ 0 _ ⟨0, rfl, by omega, fun i s hi => by simp only [forall_eq, gI_sI, gI_sL, gL_sI, gL_sL, gI_cpI, gL_cpI, gI_cpL, gL_cpL, Nat.reduceEqDiff, Nat.reduceAdd, Nat.reduceSub, cl0, cl1, cl12, cl39, and_false, false_and, and_true, true_and, and_self, ↓reduceIte]; exact m6 i s hi, fun i s hi => by omega, fun _ _ _ _ => rfl, F0⟩
  rintro x2 h' ⟨k, rfl, hk, c1, c2, c3, c4⟩ K hK
  unfold fX12_readText_105
  have l22 : gI h' 55 22 = nI (P.flatMap lnS).length := by rw [c3 55 22 (by omega) (by omega)]; simp only [forall_eq, gI_sI, gI_sL, gL_sI, gL_sL, gI_cpI, gL_cpI, gI_cpL, gL_cpL, Nat.reduceEqDiff, Nat.reduceAdd, Nat.reduceSub, cl0, cl1, cl12, cl39, and_false, false_and, and_true, true_and, and_self, ↓reduceIte]; exact m5
  rw [l22]
  by_cases d : (P.flatMap lnS).length ≤ k
  · rw [if_pos (nI_le d (by omega))]
    have l68 : gI h' 68 2 = nI P.length := by rw [c3 68 2 (by omega) (by omega)]; simp only [forall_eq, gI_sI, gI_sL, gL_sI, gL_sL, gI_cpI, gL_cpI, gI_cpL, gL_cpL, Nat.reduceEqDiff, Nat.reduceAdd, Nat.reduceSub, cl0, cl1, cl12, cl39, and_false, false_and, and_true, true_and, and_self, ↓reduceIte]; exact m7
    simp only [forall_eq, rf_55_25, ln_68, cl2, nI_clamp (show w < 2 ^ 31 by omega), l68]
    refine ⟨v2, vw, ?_⟩
    refine iX12_readText_177 (I := fun x2 h2 => ∃ j, x2 = nI j ∧ j ≤ P.length ∧ (∀ i l, i < j → P[i]? = some l → gI h2 69 (61 * w + i) = nI (offP P i + l.1.length) ∧ gI h2 70 (61 * w + i) = nI (offP P (i + 1))) ∧ (∀ i l, P[i]? = some l → gI h2 69 (122 + i) = nI (offP P i + l.1.length) ∧ gI h2 70 (122 + i) = nI (offP P (i + 1))) ∧ (∀ a b, a ≠ 69 → a ≠ 70 → gI h2 a b = gI (sI h' 68 w (nI P.length)) a b) ∧ Fz w h0 h2) (μ := fun x2 _ => P.length - x2.toNatClampNeg) ?_ 0 _ ⟨0, rfl, by omega, fun i l hi => by omega, fun i l hi => ?_, fun _ _ _ _ => rfl, c4.set 68 w _ z68⟩
    · rintro x2 h2 ⟨j, rfl, hj, d1, d2, d3, d4⟩ K2 hK2
      unfold fX12_readText_177
      simp only [forall_eq, rf_55_25, rf_55_26, rf_55_27, ln_68, ln_69, ln_70, nI_clamp (show w < 2 ^ 31 by omega), nI_1]
      have g68 : gI h2 68 w = nI P.length := by rw [d3 68 w (by omega) (by omega), gI_sI, if_pos ⟨rfl, rfl⟩]
      rw [g68]
      refine ⟨vw, ?_⟩
      by_cases e : P.length ≤ j
      · rw [if_pos (nI_le e (by omega))]
        refine hQ h2 ?_ ?_ (fun i s hi => ?_) (fun i l hi => ?_) d4
        · rw [d3 55 18 (by omega) (by omega), gI_sI, if_neg (by omega), c3 55 18 (by omega) (by omega), gI_sI, if_pos ⟨rfl, rfl⟩]
        · rw [d3 68 w (by omega) (by omega), gI_sI, if_pos ⟨rfl, rfl⟩]
        · have il := (List.getElem?_eq_some_iff.mp hi).1
          rw [d3 66 _ (by omega) (by omega), d3 67 _ (by omega) (by omega), gI_sI, if_neg (by omega), gI_sI, if_neg (by omega)]
          exact c2 i s (by omega) hi
        · have il := (List.getElem?_eq_some_iff.mp hi).1
          exact d1 i l (by omega) hi
      · rw [if_neg (nI_ge (by omega) (by omega)), show (122 : Int32) + nI j = nI (122 + j) by simp (disch := omega) only [lit, nI_ltI, nI_leI, nI_eq, nI_clamp, nI_add, vp_nI, nI_ne_neg, neg_ne_nI, pk_sub, pk_mul, pk_div, Nat.reduceAdd, Nat.reduceMul, Nat.reducePow, e_mn, e_mx, e_rm, lt_t, lt_f, le_t, le_f, eq_f, eq_t, ↓reduceIte, true_and, and_true, and_false, false_and, and_self, or_true, or_false, true_or, false_or, not_true, not_false_iff], show (61 : Int32) * nI w + nI j = nI (61 * w + j) by simp (disch := omega) only [lit, nI_ltI, nI_leI, nI_eq, nI_clamp, nI_add, vp_nI, nI_ne_neg, neg_ne_nI, pk_sub, pk_mul, pk_div, Nat.reduceAdd, Nat.reduceMul, Nat.reducePow, e_mn, e_mx, e_rm, lt_t, lt_f, le_t, le_f, eq_f, eq_t, ↓reduceIte, true_and, and_true, and_false, false_and, and_self, or_true, or_false, true_or, false_or, not_true, not_false_iff], nI_clamp (show 122 + j < 2 ^ 31 by omega), nI_clamp (show 61 * w + j < 2 ^ 31 by omega)]
        obtain ⟨l, hl'⟩ := get_lt (show j < P.length by omega)
        obtain ⟨t1, t2⟩ := d2 j l hl'
        have bl := fm_le hl'
        have ol := off_le P (j + 1)
        have va : vp_in (nI (122 + j)) 183 := (vp_nI (by omega)).mpr (by omega)
        have vb : vp_in (nI (61 * w + j)) 183 := (vp_nI (by omega)).mpr (by omega)
        rw [t1, vp_nar_short, show (nI (offP P j + l.1.length)).toInt16.toInt32 = nI (offP P j + l.1.length) from s16_lo _ (by omega), gI_sI, if_neg (by omega), t2, vp_nar_short, show (nI (offP P (j + 1))).toInt16.toInt32 = nI (offP P (j + 1)) from s16_lo _ (by omega)]
        refine ⟨va, vb, va, vb, hK2 _ _ ⟨j + 1, rfl, by omega, fun i l' hi hil => ?_, fun i l' hil => ?_, fun a b q1 q2 => ?_, (d4.set 69 _ _ (z69 j (by omega))).set 70 _ _ (z70 j (by omega))⟩ (by rw [nI_clamp (by omega), nI_clamp (by omega)]; omega)⟩
        · simp only [forall_eq, gI_sI, gI_sL, gL_sI, gL_sL, gI_cpI, gL_cpI, gI_cpL, gL_cpL, Nat.reduceEqDiff, Nat.reduceAdd, Nat.reduceSub, cl0, cl1, cl12, cl39, and_false, false_and, and_true, true_and, and_self, ↓reduceIte]
          by_cases z : i = j
          · subst z
            rw [hl'] at hil
            have := Option.some.inj hil
            subst this
            rw [if_pos rfl, if_pos rfl]
            exact ⟨rfl, rfl⟩
          · rw [if_neg (by omega), if_neg (by omega)]
            exact d1 i l' (by omega) hil
        · have il := (List.getElem?_eq_some_iff.mp hil).1
          simp only [forall_eq, gI_sI, gI_sL, gL_sI, gL_sL, gI_cpI, gL_cpI, gI_cpL, gL_cpL, Nat.reduceEqDiff, Nat.reduceAdd, Nat.reduceSub, cl0, cl1, cl12, cl39, and_false, false_and, and_true, true_and, and_self, ↓reduceIte]
          rw [if_neg (by omega), if_neg (by omega)]
          exact d2 i l' hil
        · rw [gI_sI, if_neg (fun q => q2 q.1), gI_sI, if_neg (fun q => q1 q.1)]
          exact d3 a b q1 q2
    · rw [gI_sI, if_neg (by omega), gI_sI, if_neg (by omega), c3 69 _ (by omega) (by omega), c3 70 _ (by omega) (by omega)]
      simp only [forall_eq, gI_sI, gI_sL, gL_sI, gL_sL, gI_cpI, gL_cpI, gI_cpL, gL_cpL, Nat.reduceEqDiff, Nat.reduceAdd, Nat.reduceSub, cl0, cl1, cl12, cl39, and_false, false_and, and_true, true_and, and_self, ↓reduceIte]
      exact m8 i l hi
  · rw [if_neg (nI_ge (by omega) (by omega))]
    obtain ⟨s, hs⟩ := get_lt (show k < (P.flatMap lnS).length by omega)
    obtain ⟨t1, t2⟩ := c1 k s hs
    have bs := enc_P hOK s (List.mem_of_getElem? hs)
    simp only [forall_eq, rf_55_23, rf_55_24, ln_66, ln_67, nI_1]
    rw [show (260 : Int32) + nI k = nI (260 + k) by simp (disch := omega) only [lit, nI_ltI, nI_leI, nI_eq, nI_clamp, nI_add, vp_nI, nI_ne_neg, neg_ne_nI, pk_sub, pk_mul, pk_div, Nat.reduceAdd, Nat.reduceMul, Nat.reducePow, e_mn, e_mx, e_rm, lt_t, lt_f, le_t, le_f, eq_f, eq_t, ↓reduceIte, true_and, and_true, and_false, false_and, and_self, or_true, or_false, true_or, false_or, not_true, not_false_iff], show (130 : Int32) * nI w + nI k = nI (130 * w + k) by simp (disch := omega) only [lit, nI_ltI, nI_leI, nI_eq, nI_clamp, nI_add, vp_nI, nI_ne_neg, neg_ne_nI, pk_sub, pk_mul, pk_div, Nat.reduceAdd, Nat.reduceMul, Nat.reducePow, e_mn, e_mx, e_rm, lt_t, lt_f, le_t, le_f, eq_f, eq_t, ↓reduceIte, true_and, and_true, and_false, false_and, and_self, or_true, or_false, true_or, false_or, not_true, not_false_iff], nI_clamp (show 260 + k < 2 ^ 31 by omega), nI_clamp (show 130 * w + k < 2 ^ 31 by omega)]
    have va : vp_in (nI (260 + k)) 390 := (vp_nI (by omega)).mpr (by omega)
    have vb : vp_in (nI (130 * w + k)) 390 := (vp_nI (by omega)).mpr (by omega)
    rw [t1, vp_nar_byte, show (encS s).1.toInt8.toInt32 = (encS s).1 from bs, gI_sI, if_neg (by omega), t2]
    refine ⟨va, vb, va, vb, hK _ _ ⟨k + 1, rfl, by omega, fun i s' hi => ?_, fun i s' hi his => ?_, fun a b q1 q2 => ?_, (c4.set 66 _ _ (z66 k (by omega))).set 67 _ _ (z67 k (by omega))⟩ (by rw [nI_clamp (by omega), nI_clamp (by omega)]; omega)⟩
    · simp only [forall_eq, gI_sI, gI_sL, gL_sI, gL_sL, gI_cpI, gL_cpI, gI_cpL, gL_cpL, Nat.reduceEqDiff, Nat.reduceAdd, Nat.reduceSub, cl0, cl1, cl12, cl39, and_false, false_and, and_true, true_and, and_self, ↓reduceIte]
      rw [if_neg (by omega), if_neg (by omega)]
      exact c1 i s' hi
    · simp only [forall_eq, gI_sI, gI_sL, gL_sI, gL_sL, gI_cpI, gL_cpI, gI_cpL, gL_cpL, Nat.reduceEqDiff, Nat.reduceAdd, Nat.reduceSub, cl0, cl1, cl12, cl39, and_false, false_and, and_true, true_and, and_self, ↓reduceIte]
      by_cases z : i = k
      · subst z
        rw [hs] at his
        have := Option.some.inj his
        subst this
        rw [if_pos rfl, if_pos rfl]
        exact ⟨rfl, rfl⟩
      · rw [if_neg (by omega), if_neg (by omega)]
        exact c2 i s' (by omega) his
    · rw [gI_sI, if_neg (fun q => q2 q.1), gI_sI, if_neg (fun q => q1 q.1)]
      exact c3 a b q1 q2
end
