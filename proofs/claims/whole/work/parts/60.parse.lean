/-! the reference reads -/
def TM2 (h : Hp) (n : Nat) (sg : Nat → Nat) : Prop := n ≤ 120 ∧ (∀ i, i < n → gI h 65 i = b8 (nI (sg i)) ∧ sg i < 256) ∧ ∀ i, n ≤ i → sg i = 999
def fes (a k : Nat) : Bool := (decide (a = 55) && decide (19 ≤ k ∧ k ≤ 22)) || (decide (a = 66 ∨ a = 67) && decide (260 ≤ k))
def Fe (h0 h : Hp) : Prop := (∀ a k, fes a k = false → gI h a k = gI h0 a k) ∧ ∀ a k, gL h a k = gL h0 a k
theorem Fe.refl (h : Hp) : Fe h h := ⟨fun _ _ _ => rfl, fun _ _ => rfl⟩
theorem Fe.trans {h0 h1 h2 : Hp} (F : Fe h0 h1) (F2 : Fe h1 h2) : Fe h0 h2 := ⟨fun a k q => (F2.1 a k q).trans (F.1 a k q), fun a k => (F2.2 a k).trans (F.2 a k)⟩
theorem Fe.set {h0 h : Hp} (F : Fe h0 h) (a k : Nat) (v : Int32) (hd : fes a k = true) : Fe h0 (sI h a k v) := by
  refine ⟨fun b j q => ?_, F.2⟩
  rw [gI_sI, if_neg (fun e => by rw [e.1, e.2, hd] at q; exact absurd q (by decide))]
  exact F.1 b j q
def sgM (sg : Nat → Nat) (n pos : Nat) : Int32 := if pos < n then b8 (nI (sg pos)) else -1
set_option maxRecDepth 20000 in
theorem b8_lo : ∀ c, c < 128 → b8 (nI c) = nI c := by decide +kernel
set_option maxRecDepth 20000 in
theorem b8_hi : ∀ c, c < 256 → 128 ≤ c → b8 (nI c) < 0 := by decide +kernel
set_option maxRecDepth 20000 in
theorem nmM256 : ∀ c, c < 256 → nmG (b8 (nI c)) = nmV c := by decide +kernel
set_option maxRecDepth 20000 in
theorem inM256 : ∀ c, c < 256 → (if b8 (nI c) < 48 ∨ 57 < b8 (nI c) then (0 : Int32) else 1) = if dgB c then 1 else 0 := by decide +kernel
theorem b8b8 (x : Int32) : b8 (b8 x) = b8 x := by
  have := pk_vb x
  rw [vp_nar_byte] at this
  exact this
theorem enc0 (v : Int32) : encS ((0 : Int32), v) = (1, v) := by
  unfold encS
  rw [if_pos rfl]
theorem enc1 (v : Int32) : encS ((1 : Int32), v) = (2, v) := by
  unfold encS
  rw [if_neg (show ¬ ((1 : Int32), v).1 = 0 from (by decide : ¬ (1 : Int32) = 0)), if_pos rfl]
theorem b81 : b8 1 = 1 := by decide
theorem b82 : b8 2 = 2 := by decide
theorem b83 : b8 3 = 3 := by decide
theorem b84 : b8 4 = 4 := by decide
theorem encO {s : Sp2} (h : s.1 ∈ ([37, 38, 42, 43, 45, 47, 60, 61, 62, 124] : List Int32)) : encS s = s := by
  obtain ⟨z1, z2, z3, z4, z5, z6, z7, z8⟩ := op2_ne h
  unfold encS
  rw [if_neg z7, if_neg z8, if_neg z6, if_neg z5]
section
variable {hb : Hp} {n : Nat} {sg : Nat → Nat}
theorem TM2.end (T : TM2 hb n sg) : ∀ i, n ≤ i → sg i = 999 := T.2.2
theorem sgME (T : TM2 hb n sg) (pos : Nat) {c : Nat} (hc : c < 128) : sgM sg n pos = nI c ↔ sg pos = c := by
  unfold sgM
  by_cases d : pos < n
  · rw [if_pos d]
    have l := (T.2.1 pos d).2
    by_cases e : sg pos < 128
    · rw [b8_lo _ e]
      exact nI_eq (by omega) (by omega)
    · constructor
      · intro q
        have := b8_hi (sg pos) l (by omega)
        rw [q] at this
        exact absurd this (nI_pos (by omega))
      · intro q; omega
  · rw [if_neg d, T.2.2 pos (by omega)]
    constructor
    · intro q
      exact absurd q.symm (nm1 (by omega))
    · intro q; omega
theorem nmMS (T : TM2 hb n sg) (pos : Nat) : nmG (sgM sg n pos) = nmV (sg pos) := by
  unfold sgM
  by_cases c : pos < n
  · rw [if_pos c, nmM256 _ (T.2.1 pos c).2]
  · rw [if_neg c, T.2.2 pos (by omega)]
    decide
theorem inMS (T : TM2 hb n sg) (pos : Nat) : (if sgM sg n pos < 48 ∨ 57 < sgM sg n pos then (0 : Int32) else 1) = if dgB (sg pos) then 1 else 0 := by
  unfold sgM
  by_cases c : pos < n
  · rw [if_pos c, inM256 _ (T.2.1 pos c).2]
  · rw [if_neg c, T.2.2 pos (by omega)]
    decide
def MP (hb : Hp) (n pos op : Nat) (st : List Sp2) (h : Hp) : Prop := gI h 55 18 = nI n ∧ gI h 55 19 = nI pos ∧ gI h 55 20 = -1 ∧ gI h 55 21 = nI op ∧ gI h 55 22 = nI st.length ∧ (∀ k s, st[k]? = some s → gI h 66 (260 + k) = (encS s).1 ∧ gI h 67 (260 + k) = (encS s).2) ∧ Fe hb h
def MS (hb : Hp) (n p z : Nat) (h : Hp) : Prop := gI h 55 18 = nI n ∧ gI h 55 19 = nI p ∧ gI h 55 20 = nI p ∧ p ≤ n ∧ (∃ z', z' ≤ z ∧ gI h 55 22 = nI z') ∧ Fe hb h
theorem MS.mono {p z z' : Nat} {h : Hp} (M : MS hb n p z h) (hz : z ≤ z') : MS hb n p z' h := by
  obtain ⟨m1, m2, m3, m4, ⟨y, m5, m6⟩, m7⟩ := M
  exact ⟨m1, m2, m3, m4, ⟨y, by omega, m6⟩, m7⟩
theorem m_look {h : Hp} {pos : Nat} (T : TM2 hb n sg) (F : Fe hb h) (e2 : gI h 55 18 = nI n) (e3 : gI h 55 19 = nI pos) (hp : pos ≤ n) {Q : Int32 → Prop} (hQ : Q (sgM sg n pos)) : wX12_look 55 h Q := by
  unfold wX12_look
  have := T.1
  unfold sgM at hQ
  rw [e2, e3, rf_55_17, ln_65, nI_clamp (show pos < 2 ^ 31 by omega)]
  by_cases c : pos < n
  · rw [if_pos c] at hQ
    rw [if_neg (nI_ge c (by omega)), F.1 65 pos (by simp [fes]), (T.2.1 pos c).1]
    exact ⟨(vp_nI (by omega)).mpr (by omega), hQ⟩
  · rw [if_neg c] at hQ
    rw [if_pos (nI_le (by omega) (by omega))]
    exact hQ
theorem MP.step {h : Hp} {pos op : Nat} {st : List Sp2} (M : MP hb n pos op st h) : MP hb n (pos + 1) op st (sI h 55 19 (gI h 55 19 + 1)) := by
  obtain ⟨m1, m2, m3, m4, m5, m6, m7⟩ := M
  exact ⟨by simp only [forall_eq, gI_sI, gI_sL, gL_sI, gL_sL, gI_cpI, gL_cpI, gI_cpL, gL_cpL, Nat.reduceEqDiff, Nat.reduceAdd, Nat.reduceSub, cl0, cl1, cl12, cl39, and_false, false_and, and_true, true_and, and_self, ↓reduceIte]; exact m1, by simp only [forall_eq, gI_sI, gI_sL, gL_sI, gL_sL, gI_cpI, gL_cpI, gI_cpL, gL_cpL, Nat.reduceEqDiff, Nat.reduceAdd, Nat.reduceSub, cl0, cl1, cl12, cl39, and_false, false_and, and_true, true_and, and_self, ↓reduceIte, m2]; exact nI_1 _, by simp only [forall_eq, gI_sI, gI_sL, gL_sI, gL_sL, gI_cpI, gL_cpI, gI_cpL, gL_cpL, Nat.reduceEqDiff, Nat.reduceAdd, Nat.reduceSub, cl0, cl1, cl12, cl39, and_false, false_and, and_true, true_and, and_self, ↓reduceIte]; exact m3, by simp only [forall_eq, gI_sI, gI_sL, gL_sI, gL_sL, gI_cpI, gL_cpI, gI_cpL, gL_cpL, Nat.reduceEqDiff, Nat.reduceAdd, Nat.reduceSub, cl0, cl1, cl12, cl39, and_false, false_and, and_true, true_and, and_self, ↓reduceIte]; exact m4, by simp only [forall_eq, gI_sI, gI_sL, gL_sI, gL_sL, gI_cpI, gL_cpI, gI_cpL, gL_cpL, Nat.reduceEqDiff, Nat.reduceAdd, Nat.reduceSub, cl0, cl1, cl12, cl39, and_false, false_and, and_true, true_and, and_self, ↓reduceIte]; exact m5, fun k s hk => by simp only [forall_eq, gI_sI, gI_sL, gL_sI, gL_sL, gI_cpI, gL_cpI, gI_cpL, gL_cpL, Nat.reduceEqDiff, Nat.reduceAdd, Nat.reduceSub, cl0, cl1, cl12, cl39, and_false, false_and, and_true, true_and, and_self, ↓reduceIte]; exact m6 k s hk, m7.set 55 19 _ rfl⟩
theorem MP.fault {h : Hp} {pos op : Nat} {st : List Sp2} (M : MP hb n pos op st h) (hp : pos ≤ n) : MS hb n pos st.length (sI h 55 20 (gI h 55 19)) := by
  obtain ⟨m1, m2, m3, m4, m5, m6, m7⟩ := M
  exact ⟨by simp only [forall_eq, gI_sI, gI_sL, gL_sI, gL_sL, gI_cpI, gL_cpI, gI_cpL, gL_cpL, Nat.reduceEqDiff, Nat.reduceAdd, Nat.reduceSub, cl0, cl1, cl12, cl39, and_false, false_and, and_true, true_and, and_self, ↓reduceIte]; exact m1, by simp only [forall_eq, gI_sI, gI_sL, gL_sI, gL_sL, gI_cpI, gL_cpI, gI_cpL, gL_cpL, Nat.reduceEqDiff, Nat.reduceAdd, Nat.reduceSub, cl0, cl1, cl12, cl39, and_false, false_and, and_true, true_and, and_self, ↓reduceIte]; exact m2, by simp only [forall_eq, gI_sI, gI_sL, gL_sI, gL_sL, gI_cpI, gL_cpI, gI_cpL, gL_cpL, Nat.reduceEqDiff, Nat.reduceAdd, Nat.reduceSub, cl0, cl1, cl12, cl39, and_false, false_and, and_true, true_and, and_self, ↓reduceIte]; exact m2, hp, ⟨_, Nat.le_refl _, by simp only [forall_eq, gI_sI, gI_sL, gL_sI, gL_sL, gI_cpI, gL_cpI, gI_cpL, gL_cpL, Nat.reduceEqDiff, Nat.reduceAdd, Nat.reduceSub, cl0, cl1, cl12, cl39, and_false, false_and, and_true, true_and, and_self, ↓reduceIte]; exact m5⟩, m7.set 55 20 _ rfl⟩
theorem m_faultP {h : Hp} {pos op : Nat} {st : List Sp2} (M : MP hb n pos op st h) (hp : pos ≤ n) {Q : Hp → Prop} (hQ : ∀ h', MS hb n pos st.length h' → Q h') : wX12_faulty 55 h Q := by
  unfold wX12_faulty
  rw [if_neg (show ¬ 0 ≤ gI h 55 20 by rw [M.2.2.1]; decide)]
  simp only [forall_eq]
  exact hQ _ (M.fault hp)
theorem m_addP {h : Hp} {pos op : Nat} {st : List Sp2} {x1 x2 : Int32} {s : Sp2} (M : MP hb n pos op st h) (hl : st.length < 130) (e1 : b8 x1 = (encS s).1) (e2 : x2 = (encS s).2) {Q : Hp → Prop} (hQ : ∀ h', MP hb n pos op (st ++ [s]) h' → Q h') : wX12_addStep 55 x1 x2 h Q := by
  obtain ⟨m1, m2, m3, m4, m5, m6, m7⟩ := M
  unfold wX12_addStep
  simp only [forall_eq, rf_55_23, rf_55_24, ln_66, ln_67, forall_eq, gI_sI, gI_sL, gL_sI, gL_sL, gI_cpI, gL_cpI, gI_cpL, gL_cpL, Nat.reduceEqDiff, Nat.reduceAdd, Nat.reduceSub, cl0, cl1, cl12, cl39, and_false, false_and, and_true, true_and, and_self, ↓reduceIte, m5]
  rw [show (260 : Int32) + nI st.length = nI (260 + st.length) by simp (disch := omega) only [lit, nI_ltI, nI_leI, nI_eq, nI_clamp, nI_add, vp_nI, nI_ne_neg, neg_ne_nI, pk_sub, pk_mul, pk_div, Nat.reduceAdd, Nat.reduceMul, Nat.reducePow, e_mn, e_mx, e_rm, lt_t, lt_f, le_t, le_f, eq_f, eq_t, ↓reduceIte, true_and, and_true, and_false, false_and, and_self, or_true, or_false, true_or, false_or, not_true, not_false_iff], nI_clamp (show 260 + st.length < 2 ^ 31 by omega), pk_vb, show x1.toInt8.toInt32 = _ from e1]
  have v : vp_in (nI (260 + st.length)) 390 := (vp_nI (by omega)).mpr (by omega)
  refine ⟨v, v, hQ _ ⟨by simp only [forall_eq, gI_sI, gI_sL, gL_sI, gL_sL, gI_cpI, gL_cpI, gI_cpL, gL_cpL, Nat.reduceEqDiff, Nat.reduceAdd, Nat.reduceSub, cl0, cl1, cl12, cl39, and_false, false_and, and_true, true_and, and_self, ↓reduceIte]; exact m1, by simp only [forall_eq, gI_sI, gI_sL, gL_sI, gL_sL, gI_cpI, gL_cpI, gI_cpL, gL_cpL, Nat.reduceEqDiff, Nat.reduceAdd, Nat.reduceSub, cl0, cl1, cl12, cl39, and_false, false_and, and_true, true_and, and_self, ↓reduceIte]; exact m2, by simp only [forall_eq, gI_sI, gI_sL, gL_sI, gL_sL, gI_cpI, gL_cpI, gI_cpL, gL_cpL, Nat.reduceEqDiff, Nat.reduceAdd, Nat.reduceSub, cl0, cl1, cl12, cl39, and_false, false_and, and_true, true_and, and_self, ↓reduceIte]; exact m3, by simp only [forall_eq, gI_sI, gI_sL, gL_sI, gL_sL, gI_cpI, gL_cpI, gI_cpL, gL_cpL, Nat.reduceEqDiff, Nat.reduceAdd, Nat.reduceSub, cl0, cl1, cl12, cl39, and_false, false_and, and_true, true_and, and_self, ↓reduceIte]; exact m4, by simp only [forall_eq, gI_sI, gI_sL, gL_sI, gL_sL, gI_cpI, gL_cpI, gI_cpL, gL_cpL, Nat.reduceEqDiff, Nat.reduceAdd, Nat.reduceSub, cl0, cl1, cl12, cl39, and_false, false_and, and_true, true_and, and_self, ↓reduceIte]; rw [nI_1]; simp, fun k s' hk => ?_, ((m7.set 66 _ _ (by unfold fes; simp)).set 67 _ _ (by unfold fes; simp)).set 55 22 _ rfl⟩⟩
  simp only [forall_eq, gI_sI, gI_sL, gL_sI, gL_sL, gI_cpI, gL_cpI, gI_cpL, gL_cpL, Nat.reduceEqDiff, Nat.reduceAdd, Nat.reduceSub, cl0, cl1, cl12, cl39, and_false, false_and, and_true, true_and, and_self, ↓reduceIte]
  by_cases e : k = st.length
  · rw [e, List.getElem?_append_right (Nat.le_refl _), Nat.sub_self] at hk
    have := Option.some.inj hk
    rw [if_pos (by rw [e]), if_pos (by rw [e]), ← this]
    exact ⟨rfl, e2⟩
  · have kl : k < st.length := by
      have := (List.getElem?_eq_some_iff.mp hk).1
      simp at this
      omega
    rw [List.getElem?_append_left kl] at hk
    rw [if_neg (by omega), if_neg (by omega)]
    exact m6 k s' hk
theorem m_addS {h : Hp} {p z : Nat} {x1 x2 : Int32} (M : MS hb n p z h) (hz : z < 130) {Q : Hp → Prop} (hQ : ∀ h', MS hb n p (z + 1) h' → Q h') : wX12_addStep 55 x1 x2 h Q := by
  obtain ⟨m1, m2, m3, m4, ⟨y, m5, m6⟩, m7⟩ := M
  unfold wX12_addStep
  simp only [forall_eq, rf_55_23, rf_55_24, ln_66, ln_67, forall_eq, gI_sI, gI_sL, gL_sI, gL_sL, gI_cpI, gL_cpI, gI_cpL, gL_cpL, Nat.reduceEqDiff, Nat.reduceAdd, Nat.reduceSub, cl0, cl1, cl12, cl39, and_false, false_and, and_true, true_and, and_self, ↓reduceIte, m6]
  rw [show (260 : Int32) + nI y = nI (260 + y) by simp (disch := omega) only [lit, nI_ltI, nI_leI, nI_eq, nI_clamp, nI_add, vp_nI, nI_ne_neg, neg_ne_nI, pk_sub, pk_mul, pk_div, Nat.reduceAdd, Nat.reduceMul, Nat.reducePow, e_mn, e_mx, e_rm, lt_t, lt_f, le_t, le_f, eq_f, eq_t, ↓reduceIte, true_and, and_true, and_false, false_and, and_self, or_true, or_false, true_or, false_or, not_true, not_false_iff], nI_clamp (show 260 + y < 2 ^ 31 by omega)]
  have v : vp_in (nI (260 + y)) 390 := (vp_nI (by omega)).mpr (by omega)
  exact ⟨v, v, hQ _ ⟨by simp only [forall_eq, gI_sI, gI_sL, gL_sI, gL_sL, gI_cpI, gL_cpI, gI_cpL, gL_cpL, Nat.reduceEqDiff, Nat.reduceAdd, Nat.reduceSub, cl0, cl1, cl12, cl39, and_false, false_and, and_true, true_and, and_self, ↓reduceIte]; exact m1, by simp only [forall_eq, gI_sI, gI_sL, gL_sI, gL_sL, gI_cpI, gL_cpI, gI_cpL, gL_cpL, Nat.reduceEqDiff, Nat.reduceAdd, Nat.reduceSub, cl0, cl1, cl12, cl39, and_false, false_and, and_true, true_and, and_self, ↓reduceIte]; exact m2, by simp only [forall_eq, gI_sI, gI_sL, gL_sI, gL_sL, gI_cpI, gL_cpI, gI_cpL, gL_cpL, Nat.reduceEqDiff, Nat.reduceAdd, Nat.reduceSub, cl0, cl1, cl12, cl39, and_false, false_and, and_true, true_and, and_self, ↓reduceIte]; exact m3, m4, ⟨y + 1, by omega, by simp only [forall_eq, gI_sI, gI_sL, gL_sI, gL_sL, gI_cpI, gL_cpI, gI_cpL, gL_cpL, Nat.reduceEqDiff, Nat.reduceAdd, Nat.reduceSub, cl0, cl1, cl12, cl39, and_false, false_and, and_true, true_and, and_self, ↓reduceIte]; exact nI_1 _⟩, ((m7.set 66 _ _ (by unfold fes; simp)).set 67 _ _ (by unfold fes; simp)).set 55 22 _ rfl⟩⟩
/-- a figure -/
theorem m_figure {h1 : Hp} {pos op : Nat} {st : List Sp2} (T : TM2 hb n sg) (M1 : MP hb n pos op st h1) (hp : pos ≤ n) (hl : st.length ≤ pos) {Q : Hp → Prop}
    (hQ1 : dgB (sg pos) = true → ¬ (nd4 sg pos = 4 ∧ dgB (sg (pos + 4)) = true) → ∀ h', MP hb n (pos + nd4 sg pos) op (st ++ [((0 : Int32), nI (numV sg pos (nd4 sg pos)))]) h' → Q h')
    (hQ2 : dgB (sg pos) = true → nd4 sg pos = 4 ∧ dgB (sg (pos + 4)) = true → ∀ h', MS hb n (pos + 4) (st.length + 1) h' → Q h')
    (hQ3 : dgB (sg pos) = false → ∀ h', MS hb n pos (st.length + 1) h' → Q h') : wX12_figure 55 h1 Q := by
  have n120 := T.1
  unfold wX12_figure
  refine iX12_figure_4 (I := fun x1 x2 h => ∃ m, x1 = nI (numV sg pos m) ∧ x2 = nI m ∧ m ≤ 4 ∧ (∀ i, i < m → dgB (sg (pos + i)) = true) ∧ MP hb n (pos + m) op st h) (μ := fun _ x2 _ => 4 - x2.toNatClampNeg) ?_ 0 0 h1 ⟨0, rfl, rfl, by omega, fun i hi => by omega, M1⟩
  rintro x1 x2 h ⟨m, rfl, rfl, hm, ha, M⟩ K hK
  unfold fX12_figure_4
  have pn : pos + m ≤ n := by
    rcases Nat.eq_zero_or_pos m with q | q
    · omega
    · have := dg_lt T.end (ha (m - 1) (by omega))
      omega
  obtain ⟨m1, m2, m3, m4, m5, m6, m7⟩ := id M
  have vl : numV sg pos m < 10 ^ m := by
    have key : ∀ j, j ≤ m → numV sg pos j < 10 ^ j := by
      intro j
      induction j with
      | zero => intro _; simp [numV]
      | succ j ihj =>
        intro hj
        have a := ihj (by omega)
        have d := ha j (by omega)
        unfold dgB at d
        simp only [decide_eq_true_eq] at d
        rw [numV, Nat.pow_succ]
        omega
    exact key m (Nat.le_refl _)
  have pl := p104 hm
  have done : (m = 4 ∨ dgB (sg (pos + m)) = false) → jX12_figure_52 55 (nI (numV sg pos m)) (nI m) h Q := by
    intro q
    unfold jX12_figure_52 jX12_figure_74
    by_cases m0 : m = 0
    · subst m0
      rw [if_pos (show nI 0 = 0 from rfl)]
      have d0 : dgB (sg pos) = false := by
        rcases q with q | q
        · omega
        · exact q
      apply m_faultP M pn
      intro h2 M2
      exact m_addS M2 (by omega) (fun h3 M3 => hQ3 d0 h3 M3)
    · rw [if_neg (nI_ne0 (by omega) (by omega))]
      have hd : dgB (sg pos) = true := ha 0 (by omega)
      have e := nd4_uni hd hm ha q
      apply m_look T m7 m1 m2 pn
      rw [e_in, inMS T]
      cases d : dgB (sg (pos + m))
      · rw [if_pos (by decide)]
        refine m_addP M (by omega) (s := ((0 : Int32), nI (numV sg pos m))) (by rw [enc0]; exact b81) (by rw [enc0]) (fun h' M' => hQ1 hd ?_ h' (by rw [← e]; exact M'))
        rintro ⟨z1, z2⟩
        rw [← z1, ← e, d] at z2
        exact absurd z2 (by decide)
      · rw [if_neg (by decide)]
        have m4' : m = 4 := by
          rcases q with q | q
          · exact q
          · rw [d] at q; exact absurd q (by decide)
        apply m_faultP M pn
        intro h2 M2
        rw [m4'] at M2 d
        exact m_addS M2 (by omega) (fun h3 M3 => hQ2 hd ⟨by omega, d⟩ h3 M3)
  by_cases c : 4 ≤ m
  · rw [if_pos (show (4 : Int32) ≤ nI m from nI_le (a := 4) c (by omega))]
    exact done (Or.inl (by omega))
  · rw [if_neg (show ¬ (4 : Int32) ≤ nI m from nI_ge (b := 4) (by omega) (by omega))]
    apply m_look T m7 m1 m2 pn
    rw [e_in, inMS T]
    cases d : dgB (sg (pos + m))
    · rw [if_pos (by decide)]
      exact done (Or.inr d)
    · rw [if_neg (by decide)]
      apply m_look T m7 m1 m2 pn
      have dl := dg_lt T.end d
      simp only [forall_eq, nI_1]
      have dd := d
      unfold dgB at dd
      simp only [decide_eq_true_eq] at dd
      have e : (10 : Int32) * nI (numV sg pos m) + sgM sg n (pos + m) - 48 = nI (numV sg pos (m + 1)) := by
        unfold sgM
        rw [if_pos dl, b8_lo _ (by omega), show (10 : Int32) = nI 10 from rfl, pk_mul, nI_add, show (48 : Int32) = nI 48 from rfl, pk_sub (by omega), numV]
        congr 1
        omega
      rw [e]
      refine hK _ _ _ ⟨m + 1, rfl, rfl, by omega, fun i hi => ?_, M.step⟩ (by rw [nI_clamp (by omega), nI_clamp (by omega)]; omega)
      by_cases z : i = m
      · rw [z]; exact d
      · exact ha i (by omega)
end
