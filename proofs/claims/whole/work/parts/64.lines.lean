/-! the reference's lines -/
def fqs (a k : Nat) : Bool := (decide (a = 55) && decide (19 ≤ k ∧ k ≤ 22)) || (decide (a = 66 ∨ a = 67) && decide (260 ≤ k)) || (decide (a = 68) && decide (k = 2)) || (decide (a = 69 ∨ a = 70) && decide (122 ≤ k))
def Fq (h0 h : Hp) : Prop := (∀ a k, fqs a k = false → gI h a k = gI h0 a k) ∧ ∀ a k, gL h a k = gL h0 a k
theorem Fq.refl (h : Hp) : Fq h h := ⟨fun _ _ _ => rfl, fun _ _ => rfl⟩
theorem Fq.trans {h0 h1 h2 : Hp} (F : Fq h0 h1) (F2 : Fq h1 h2) : Fq h0 h2 := ⟨fun a k q => (F2.1 a k q).trans (F.1 a k q), fun a k => (F2.2 a k).trans (F.2 a k)⟩
theorem Fq.set {h0 h : Hp} (F : Fq h0 h) (a k : Nat) (v : Int32) (hd : fqs a k = true) : Fq h0 (sI h a k v) := by
  refine ⟨fun b j q => ?_, F.2⟩
  rw [gI_sI, if_neg (fun e => by rw [e.1, e.2, hd] at q; exact absurd q (by decide))]
  exact F.1 b j q
theorem Fe.fq {h0 h : Hp} (F : Fe h0 h) : Fq h0 h := by
  refine ⟨fun a k q => F.1 a k ?_, F.2⟩
  unfold fqs at q
  unfold fes
  simp only [Bool.or_eq_false_iff] at q
  rw [q.1.1.1, q.1.1.2]
  rfl
theorem fq69 (k : Nat) : fqs 69 (122 + k) = true := by unfold fqs; simp
theorem fq70 (k : Nat) : fqs 70 (122 + k) = true := by unfold fqs; simp
theorem TM2.fq {h0 h : Hp} {n : Nat} {sg : Nat → Nat} (T : TM2 h0 n sg) (F : Fq h0 h) : TM2 h n sg := ⟨T.1, fun i hi => by rw [F.1 65 i (by simp [fqs])]; exact T.2.1 i hi, T.2.2⟩
set_option maxRecDepth 20000 in
theorem s16_lo : ∀ c, c < 512 → s16 (nI c) = nI c := by decide +kernel
def LM (h0 : Hp) (n : Nat) (P : Lns) (p : Nat) (h : Hp) : Prop := gI h 55 18 = nI n ∧ gI h 55 19 = nI p ∧ gI h 55 20 = -1 ∧ gI h 55 21 = 0 ∧ gI h 55 22 = nI (P.flatMap lnS).length ∧ (∀ k s, (P.flatMap lnS)[k]? = some s → gI h 66 (260 + k) = (encS s).1 ∧ gI h 67 (260 + k) = (encS s).2) ∧ gI h 68 2 = nI P.length ∧
  (∀ k l, P[k]? = some l → gI h 69 (122 + k) = nI (offP P k + l.1.length) ∧ gI h 70 (122 + k) = nI (offP P (k + 1))) ∧ Fq h0 h
def LSf (h0 : Hp) (n p : Nat) (h : Hp) : Prop := gI h 55 20 = nI p ∧ p ≤ n ∧ Fq h0 h
theorem offP_app {P : Lns} {l : List Sp2 × List Sp2} {k : Nat} (hk : k ≤ P.length) : offP (P ++ [l]) k = offP P k := by
  unfold offP
  rw [List.take_append_of_le_length hk]
theorem offP_len (P : Lns) : offP P P.length = (P.flatMap lnS).length := by
  unfold offP
  rw [List.take_length]
theorem flatS_snoc (P : Lns) (l : List Sp2 × List Sp2) : (P ++ [l]).flatMap lnS = P.flatMap lnS ++ lnS l := by
  rw [List.flatMap_append]
  simp
section
variable {h0 : Hp} {n : Nat} {sg : Nat → Nat}
/-- the tail of a line -/
theorem m_line_end {P : Lns} {l : List Sp2 × List Sp2} {p : Nat} {h : Hp} {Q : Hp → Prop} (hP : P.length ≤ 60) (hl : (P.flatMap lnS).length + (lnS l).length < 300) (m1 : gI h 55 18 = nI n) (m2 : gI h 55 19 = nI p) (m3 : gI h 55 20 = -1) (m4 : gI h 55 21 = 0) (m5 : gI h 55 22 = nI (P.flatMap lnS ++ lnS l).length) (m6 : ∀ k s, (P.flatMap lnS ++ lnS l)[k]? = some s → gI h 66 (260 + k) = (encS s).1 ∧ gI h 67 (260 + k) = (encS s).2) (m7 : gI h 68 2 = nI P.length)
    (m8 : gI h 69 (122 + P.length) = nI ((P.flatMap lnS).length + l.1.length)) (m9 : ∀ k l', P[k]? = some l' → gI h 69 (122 + k) = nI (offP P k + l'.1.length) ∧ gI h 70 (122 + k) = nI (offP P (k + 1))) (m10 : Fq h0 h) (hQ : ∀ h', LM h0 n (P ++ [l]) p h' → Q h') : jX12_line_66 55 (nI (122 + P.length)) h Q := by
  unfold jX12_line_66
  have v2 : vp_in (2 : Int32) 3 := (vp_nI (a := 2) (by omega)).mpr (by omega)
  simp only [forall_eq, rf_55_25, rf_55_27, ln_68, ln_70, cl2, nI_clamp (show 122 + P.length < 2 ^ 31 by omega), m5, pk_vs]
  have len : (P.flatMap lnS ++ lnS l).length < 512 := by rw [List.length_append]; omega
  rw [show (nI (P.flatMap lnS ++ lnS l).length).toInt16.toInt32 = nI (P.flatMap lnS ++ lnS l).length from s16_lo _ len]
  refine ⟨(vp_nI (by omega)).mpr (by omega), v2, v2, hQ _ ⟨?_, ?_, ?_, ?_, ?_, fun k s hk => ?_, ?_, fun k l' hk => ?_, (m10.set 70 _ _ (fq70 _)).set 68 2 _ rfl⟩⟩
  · simp only [forall_eq, gI_sI, gI_sL, gL_sI, gL_sL, gI_cpI, gL_cpI, gI_cpL, gL_cpL, Nat.reduceEqDiff, Nat.reduceAdd, Nat.reduceSub, cl0, cl1, cl12, cl39, and_false, false_and, and_true, true_and, and_self, ↓reduceIte]; exact m1
  · simp only [forall_eq, gI_sI, gI_sL, gL_sI, gL_sL, gI_cpI, gL_cpI, gI_cpL, gL_cpL, Nat.reduceEqDiff, Nat.reduceAdd, Nat.reduceSub, cl0, cl1, cl12, cl39, and_false, false_and, and_true, true_and, and_self, ↓reduceIte]; exact m2
  · simp only [forall_eq, gI_sI, gI_sL, gL_sI, gL_sL, gI_cpI, gL_cpI, gI_cpL, gL_cpL, Nat.reduceEqDiff, Nat.reduceAdd, Nat.reduceSub, cl0, cl1, cl12, cl39, and_false, false_and, and_true, true_and, and_self, ↓reduceIte]; exact m3
  · simp only [forall_eq, gI_sI, gI_sL, gL_sI, gL_sL, gI_cpI, gL_cpI, gI_cpL, gL_cpL, Nat.reduceEqDiff, Nat.reduceAdd, Nat.reduceSub, cl0, cl1, cl12, cl39, and_false, false_and, and_true, true_and, and_self, ↓reduceIte]; exact m4
  · simp only [forall_eq, gI_sI, gI_sL, gL_sI, gL_sL, gI_cpI, gL_cpI, gI_cpL, gL_cpL, Nat.reduceEqDiff, Nat.reduceAdd, Nat.reduceSub, cl0, cl1, cl12, cl39, and_false, false_and, and_true, true_and, and_self, ↓reduceIte]
    rw [flatS_snoc]
    exact m5
  · simp only [forall_eq, gI_sI, gI_sL, gL_sI, gL_sL, gI_cpI, gL_cpI, gI_cpL, gL_cpL, Nat.reduceEqDiff, Nat.reduceAdd, Nat.reduceSub, cl0, cl1, cl12, cl39, and_false, false_and, and_true, true_and, and_self, ↓reduceIte]
    rw [flatS_snoc] at hk
    exact m6 k s hk
  · simp only [forall_eq, gI_sI, gI_sL, gL_sI, gL_sL, gI_cpI, gL_cpI, gI_cpL, gL_cpL, Nat.reduceEqDiff, Nat.reduceAdd, Nat.reduceSub, cl0, cl1, cl12, cl39, and_false, false_and, and_true, true_and, and_self, ↓reduceIte, m7]
    rw [nI_1]
    simp
  · simp only [forall_eq, gI_sI, gI_sL, gL_sI, gL_sL, gI_cpI, gL_cpI, gI_cpL, gL_cpL, Nat.reduceEqDiff, Nat.reduceAdd, Nat.reduceSub, cl0, cl1, cl12, cl39, and_false, false_and, and_true, true_and, and_self, ↓reduceIte]
    by_cases e : k = P.length
    · subst e
      rw [List.getElem?_append_right (Nat.le_refl _), Nat.sub_self] at hk
      have := Option.some.inj hk
      subst this
      rw [if_pos rfl, offP_app (Nat.le_refl _), offP_len]
      refine ⟨m8, ?_⟩
      congr 1
      have e2 : offP (P ++ [l]) (P.length + 1) = ((P ++ [l]).flatMap lnS).length := by
        rw [← offP_len]
        simp
      rw [e2, flatS_snoc]
    · have kl : k < P.length := by
        have := (List.getElem?_eq_some_iff.mp hk).1
        simp at this
        omega
      rw [List.getElem?_append_left kl] at hk
      rw [if_neg (by omega), offP_app (by omega), offP_app (by omega)]
      exact m9 k l' hk
theorem m_line_fault {P : Lns} {p z : Nat} {hb h : Hp} {Q : Hp → Prop} (hP : P.length ≤ 60) (M : MS hb n p z h) (e68 : gI hb 68 2 = nI P.length) (F : Fq h0 hb) (hQ : ∀ h', LSf h0 n p h' → Q h') : jX12_line_66 55 (nI (122 + P.length)) h Q := by
  unfold jX12_line_66
  have v2 : vp_in (2 : Int32) 3 := (vp_nI (a := 2) (by omega)).mpr (by omega)
  simp only [forall_eq, rf_55_25, rf_55_27, ln_68, ln_70, cl2, nI_clamp (show 122 + P.length < 2 ^ 31 by omega)]
  obtain ⟨m1, m2, m3, m4, m5, m6⟩ := M
  refine ⟨(vp_nI (by omega)).mpr (by omega), v2, v2, hQ _ ⟨by simp only [forall_eq, gI_sI, gI_sL, gL_sI, gL_sL, gI_cpI, gL_cpI, gI_cpL, gL_cpL, Nat.reduceEqDiff, Nat.reduceAdd, Nat.reduceSub, cl0, cl1, cl12, cl39, and_false, false_and, and_true, true_and, and_self, ↓reduceIte]; exact m3, m4, ((F.trans m6.fq).set 70 _ _ (fq70 _)).set 68 2 _ rfl⟩⟩
theorem mm_line (T0 : TM2 h0 n sg) {F pos : Nat} {P : Lns} {h : Hp} {Q : Hp → Prop} (hF : 20 * (n + 1) + 12 ≤ F) (hp : pos ≤ n) (L : LM h0 n P pos h) (hl : (P.flatMap lnS).length ≤ pos) (hP : P.length ≤ 60)
    (hok : ∀ p l, lin sg F pos = (p, some l) → ∀ h', LM h0 n (P ++ [l]) p h' → Q h') (hfa : ∀ p, lin sg F pos = (p, none) → ∀ h', LSf h0 n p h' → Q h') : wX12_line 55 h Q := by
  have n120 := T0.1
  obtain ⟨m1, m2, m3, m4, m5, m6, m7, m8, m9⟩ := L
  unfold wX12_line
  have v2 : vp_in (2 : Int32) 3 := (vp_nI (a := 2) (by omega)).mpr (by omega)
  simp only [forall_eq, rf_55_25, rf_55_26, ln_68, ln_69, cl2, m7]
  rw [show (122 : Int32) + nI P.length = nI (122 + P.length) by simp (disch := omega) only [lit, nI_ltI, nI_leI, nI_eq, nI_clamp, nI_add, vp_nI, nI_ne_neg, neg_ne_nI, pk_sub, pk_mul, pk_div, Nat.reduceAdd, Nat.reduceMul, Nat.reducePow, e_mn, e_mx, e_rm, lt_t, lt_f, le_t, le_f, eq_f, eq_t, ↓reduceIte, true_and, and_true, and_false, false_and, and_self, or_true, or_false, true_or, false_or, not_true, not_false_iff], nI_clamp (show 122 + P.length < 2 ^ 31 by omega), m5, pk_vs, show (nI (P.flatMap lnS).length).toInt16.toInt32 = nI (P.flatMap lnS).length from s16_lo _ (by omega)]
  have vj : vp_in (nI (122 + P.length)) 183 := (vp_nI (by omega)).mpr (by omega)
  refine ⟨v2, vj, 42, by omega, ?_⟩
  obtain ⟨h4, eh4⟩ : ∃ h4, h4 = sI h 69 (122 + P.length) (nI (P.flatMap lnS).length) := ⟨_, rfl⟩
  rw [← eh4]
  have F4 : Fq h0 h4 := by rw [eh4]; exact m9.set 69 _ _ (fq69 _)
  have T4 := T0.fq F4
  have M4 : MP h4 n pos 0 (P.flatMap lnS) h4 := by
    refine ⟨?_, ?_, ?_, ?_, ?_, fun k s hk => ?_, Fe.refl h4⟩
    · rw [eh4]; simp only [forall_eq, gI_sI, gI_sL, gL_sI, gL_sL, gI_cpI, gL_cpI, gI_cpL, gL_cpL, Nat.reduceEqDiff, Nat.reduceAdd, Nat.reduceSub, cl0, cl1, cl12, cl39, and_false, false_and, and_true, true_and, and_self, ↓reduceIte]; exact m1
    · rw [eh4]; simp only [forall_eq, gI_sI, gI_sL, gL_sI, gL_sL, gI_cpI, gL_cpI, gI_cpL, gL_cpL, Nat.reduceEqDiff, Nat.reduceAdd, Nat.reduceSub, cl0, cl1, cl12, cl39, and_false, false_and, and_true, true_and, and_self, ↓reduceIte]; exact m2
    · rw [eh4]; simp only [forall_eq, gI_sI, gI_sL, gL_sI, gL_sL, gI_cpI, gL_cpI, gI_cpL, gL_cpL, Nat.reduceEqDiff, Nat.reduceAdd, Nat.reduceSub, cl0, cl1, cl12, cl39, and_false, false_and, and_true, true_and, and_self, ↓reduceIte]; exact m3
    · rw [eh4]; simp only [forall_eq, gI_sI, gI_sL, gL_sI, gL_sL, gI_cpI, gL_cpI, gI_cpL, gL_cpL, Nat.reduceEqDiff, Nat.reduceAdd, Nat.reduceSub, cl0, cl1, cl12, cl39, and_false, false_and, and_true, true_and, and_self, ↓reduceIte]; exact m4
    · rw [eh4]; simp only [forall_eq, gI_sI, gI_sL, gL_sI, gL_sL, gI_cpI, gL_cpI, gI_cpL, gL_cpL, Nat.reduceEqDiff, Nat.reduceAdd, Nat.reduceSub, cl0, cl1, cl12, cl39, and_false, false_and, and_true, true_and, and_self, ↓reduceIte]; exact m5
    · rw [eh4]; simp only [forall_eq, gI_sI, gI_sL, gL_sI, gL_sL, gI_cpI, gL_cpI, gI_cpL, gL_cpL, Nat.reduceEqDiff, Nat.reduceAdd, Nat.reduceSub, cl0, cl1, cl12, cl39, and_false, false_and, and_true, true_and, and_self, ↓reduceIte]; exact m6 k s hk
  have e68 : gI h4 68 2 = nI P.length := by rw [eh4]; simp only [forall_eq, gI_sI, gI_sL, gL_sI, gL_sL, gI_cpI, gL_cpI, gI_cpL, gL_cpL, Nat.reduceEqDiff, Nat.reduceAdd, Nat.reduceSub, cl0, cl1, cl12, cl39, and_false, false_and, and_true, true_and, and_self, ↓reduceIte]; exact m7
  have old : ∀ k l', P[k]? = some l' → gI h4 69 (122 + k) = nI (offP P k + l'.1.length) ∧ gI h4 70 (122 + k) = nI (offP P (k + 1)) := by
    intro k l' hk
    have kl := (List.getElem?_eq_some_iff.mp hk).1
    rw [eh4]
    simp only [forall_eq, gI_sI, gI_sL, gL_sI, gL_sL, gI_cpI, gL_cpI, gI_cpL, gL_cpL, Nat.reduceEqDiff, Nat.reduceAdd, Nat.reduceSub, cl0, cl1, cl12, cl39, and_false, false_and, and_true, true_and, and_self, ↓reduceIte]
    rw [if_neg (by omega)]
    exact m8 k l' hk
  have t4 : gI h4 69 (122 + P.length) = nI (P.flatMap lnS).length := by rw [eh4]; simp only [forall_eq, gI_sI, gI_sL, gL_sI, gL_sL, gI_cpI, gL_cpI, gI_cpL, gL_cpL, Nat.reduceEqDiff, Nat.reduceAdd, Nat.reduceSub, cl0, cl1, cl12, cl39, and_false, false_and, and_true, true_and, and_self, ↓reduceIte]
  have key := SMr_all T4 F 0 0 pos (P.flatMap lnS) h4 (fun h7 => if 0 ≤ (gI h7 55 20) then (jX12_line_66 55 (nI (122 + P.length)) h7 Q) else (wX12_look 55 h7 (fun v8 => if v8 = (63 : Int32) then (∀ h9 : Hp, h9 = sI h7 55 19 ((gI h7 55 19) + (1 : Int32)) → (vp_in (nI (122 + P.length)) 183 ∧ (∀ h11 : Hp, h11 = sI h9 69 (122 + P.length) (vp_nar .short (s16 (gI h9 55 22))) → (∃ n12, n12 ≤ 120 ∧ ((wG2 n12).2.2.2.2.2 55 h11 (fun h14 => jX12_line_66 55 (nI (122 + P.length)) h14 Q)))))) else (jX12_line_66 55 (nI (122 + P.length)) h7 Q)))) 42 (by omega) (by omega) hp (by omega) M4 hl ?_ ?_ (by omega)
  · simp only [forall_eq] at key ⊢
    exact key
  · intro p1 s1 e1 h7 M7
    obtain ⟨a1, a2, a3, a4, a5⟩ := (prs_ok T0.end F 0 0 pos (Or.inl (by omega)) hp).1 p1 s1 e1
    unfold lin at hok hfa
    rw [e1] at hok hfa
    dsimp only at hok hfa
    rw [if_neg (f20 M7)]
    apply m_look T4 M7.2.2.2.2.2.2 M7.1 M7.2.1 a2
    have s63 : sgM sg n p1 = 63 ↔ sg p1 = 63 := sgME T4 p1 (c := 63) (by omega)
    by_cases c : sg p1 = 63
    · rw [if_pos (s63.mpr c)]
      rw [if_pos c] at hok hfa
      have pn : p1 < n := by
        rcases Nat.lt_or_ge p1 n with z | z
        · exact z
        · have := T0.2.2 p1 z; omega
      simp only [forall_eq]
      have M9 := M7.step
      rw [M9.2.2.2.2.1, pk_vs, show (nI (P.flatMap lnS ++ s1).length).toInt16.toInt32 = nI (P.flatMap lnS ++ s1).length from s16_lo _ (by rw [List.length_append]; omega)]
      refine ⟨vj, 42, by omega, ?_⟩
      obtain ⟨h11, eh11⟩ : ∃ h11, h11 = sI (sI h7 55 19 (gI h7 55 19 + 1)) 69 (122 + P.length) (nI (P.flatMap lnS ++ s1).length) := ⟨_, rfl⟩
      rw [← eh11]
      have F9 : Fq h0 (sI h7 55 19 (gI h7 55 19 + 1)) := F4.trans M9.2.2.2.2.2.2.fq
      have F11 : Fq h0 h11 := by rw [eh11]; exact F9.set 69 _ _ (fq69 _)
      have M11 : MP h11 n (p1 + 1) 0 (P.flatMap lnS ++ s1) h11 := by
        obtain ⟨q1, q2, q3, q4, q5, q6, q7⟩ := M9
        refine ⟨?_, ?_, ?_, ?_, ?_, fun k s hk => ?_, Fe.refl h11⟩
        · rw [eh11]; simp only [gI_sI, Nat.reduceEqDiff, false_and, ↓reduceIte] at q1 ⊢; exact q1
        · rw [eh11, gI_sI, if_neg (by omega)]; exact q2
        · rw [eh11, gI_sI, if_neg (by omega)]; exact q3
        · rw [eh11, gI_sI, if_neg (by omega)]; exact q4
        · rw [eh11, gI_sI, if_neg (by omega)]; exact q5
        · rw [eh11, gI_sI, if_neg (by omega), gI_sI, if_neg (by omega)]; exact q6 k s hk
      have fe7 : ∀ a k, fes a k = false → gI (sI h7 55 19 (gI h7 55 19 + 1)) a k = gI h4 a k := M9.2.2.2.2.2.2.1
      have e68' : gI h11 68 2 = nI P.length := by rw [eh11, gI_sI, if_neg (by omega), fe7 68 2 rfl]; exact e68
      have old' : ∀ k l', P[k]? = some l' → gI h11 69 (122 + k) = nI (offP P k + l'.1.length) ∧ gI h11 70 (122 + k) = nI (offP P (k + 1)) := by
        intro k l' hk
        have kl := (List.getElem?_eq_some_iff.mp hk).1
        have y1 : gI h11 69 (122 + k) = gI h4 69 (122 + k) := by
          rw [eh11, gI_sI, if_neg (by omega)]
          exact fe7 69 _ (by simp [fes])
        have y2 : gI h11 70 (122 + k) = gI h4 70 (122 + k) := by
          rw [eh11, gI_sI, if_neg (by omega)]
          exact fe7 70 _ (by simp [fes])
        rw [y1, y2]
        exact old k l' hk
      have t11 : gI h11 69 (122 + P.length) = nI (P.flatMap lnS ++ s1).length := by rw [eh11, gI_sI, if_pos ⟨rfl, rfl⟩]
      have key2 := SMr_all (T0.fq F11) F 0 0 (p1 + 1) (P.flatMap lnS ++ s1) h11 (fun h14 => jX12_line_66 55 (nI (122 + P.length)) h14 Q) 42 (by omega) (by omega) (by omega) (by omega) M11 (by rw [List.length_append]; omega) ?_ ?_ (by omega)
      · exact key2
      · intro p2 s2 e2 h14 M14
        obtain ⟨b1, b2, b3, b4, b5⟩ := (prs_ok T0.end F 0 0 (p1 + 1) (Or.inl (by omega)) (by omega)).1 p2 s2 e2
        rw [e2] at hok
        obtain ⟨q1, q2, q3, q4, q5, q6, q7⟩ := M14
        refine m_line_end (l := (s1, s2)) hP (by simp only [lnS, List.length_append]; omega) q1 q2 q3 q4 (by rw [List.append_assoc] at q5; exact q5) (by rw [List.append_assoc] at q6; exact q6) ((q7.1 68 2 rfl).trans e68') ?_ ?_ (F11.trans q7.fq) (fun h' L' => hok p2 (s1, s2) rfl h' L')
        · rw [q7.1 69 _ (by simp [fes]), t11, List.length_append]
        · intro k l' hk
          rw [q7.1 69 _ (by simp [fes]), q7.1 70 _ (by simp [fes])]
          exact old' k l' hk
      · intro p2 e2 h14 M14
        rw [e2] at hfa
        exact m_line_fault hP M14 e68' F11 (fun h' L' => hfa p2 rfl h' L')
    · rw [if_neg (fun y => c (s63.mp y))]
      rw [if_neg c] at hok
      obtain ⟨q1, q2, q3, q4, q5, q6, q7⟩ := M7
      refine m_line_end (l := ([], s1)) hP (by simp only [lnS, List.length_append, List.length_nil]; omega) q1 q2 q3 q4 q5 q6 ((q7.1 68 2 rfl).trans e68) ?_ ?_ (F4.trans q7.fq) (fun h' L' => hok p1 ([], s1) rfl h' L')
      · rw [q7.1 69 _ (by simp [fes]), t4]
        rfl
      · intro k l' hk
        rw [q7.1 69 _ (by simp [fes]), q7.1 70 _ (by simp [fes])]
        exact old k l' hk
  · intro p1 e1 h7 M7
    unfold lin at hfa
    rw [e1] at hfa
    rw [if_pos (f20s n120 M7)]
    exact m_line_fault hP M7 e68 F4 (fun h' L' => hfa p1 rfl h' L')
end
