/-! the class reads -/
def TP (h : Hp) (n : Nat) (sg : Nat → Nat) : Prop := n ≤ 120 ∧ (∀ i, i < n → gI h 7 i = nI (sg i) ∧ sg i < 256) ∧ ∀ i, n ≤ i → sg i = 999
def Fp (h0 h : Hp) : Prop := (∀ a k, a ≠ 18 → a ≠ 19 → a ≠ 20 → a ≠ 21 → gI h a k = gI h0 a k) ∧ ∀ a k, gL h a k = gL h0 a k
theorem Fp.refl (h : Hp) : Fp h h := ⟨fun _ _ _ _ _ _ => rfl, fun _ _ => rfl⟩
theorem Fp.set {h0 h : Hp} (F : Fp h0 h) (a k : Nat) (v : Int32) (ha : a = 18 ∨ a = 19 ∨ a = 20 ∨ a = 21) : Fp h0 (sI h a k v) := by
  refine ⟨fun b j q1 q2 q3 q4 => ?_, F.2⟩
  rw [gI_sI, if_neg (by omega)]
  exact F.1 b j q1 q2 q3 q4
def sgI (sg : Nat → Nat) (n pos : Nat) : Int32 := if pos < n then nI (sg pos) else -1
def lvF (x0 : Int32) : Int32 := if x0 = 37 then 4 else if x0 = 38 then 1 else if x0 = 42 then 4 else if x0 = 43 then 3 else if x0 = 45 then 3 else if x0 = 47 then 4 else if x0 = 60 then 2 else if x0 = 61 then 2 else if x0 = 62 then 2 else if x0 = 124 then 0 else -1
def dgF (x0 : Int32) : Int32 := if x0 < 48 then 0 else if 57 < x0 then 0 else 1
def nmG (x0 : Int32) : Int32 := if x0 = 99 then 3 else if x0 = 100 then -1 else if x0 = 101 then -1 else if x0 = 102 then -1 else if x0 = 103 then 1 else if x0 = 104 then -1 else if x0 = 105 then -1 else if x0 = 106 then -1 else if x0 = 107 then -1 else if x0 = 108 then -1 else if x0 = 109 then -1 else if x0 = 110 then 5 else if x0 = 111 then -1 else if x0 = 112 then 2 else if x0 = 113 then -1 else if x0 = 114 then -1 else if x0 = 115 then 4 else if x0 = 116 then 0 else -1
theorem e_lv (x : Int32) (h : Hp) (Q : Int32 → Prop) : wX9_levelOf x h Q = Q (lvF x) := by
  unfold wX9_levelOf lvF
  simp only [apply_ite Q]
theorem e_dg (x : Int32) (h : Hp) (Q : Int32 → Prop) : wX9_isDigit x h Q = Q (dgF x) := by
  unfold wX9_isDigit dgF
  simp only [apply_ite Q]
theorem e_nm (x : Int32) (h : Hp) (Q : Int32 → Prop) : wX9_nameOf x h Q = Q (nmG x) := by
  unfold wX9_nameOf nmG
  simp only [apply_ite Q]
theorem e_nmM (x : Int32) (h : Hp) (Q : Int32 → Prop) : wX12_nameOf x h Q = Q (nmG x) := by
  unfold wX12_nameOf nmG
  simp only [apply_ite Q]
def nmV (c : Nat) : Int32 := match nmN c with
  | some j => nI j
  | none => -1
set_option maxRecDepth 20000 in
theorem lv256 : ∀ c, c < 256 → lvF (nI c) = if lvN c = 9 then -1 else nI (lvN c) := by decide +kernel
set_option maxRecDepth 20000 in
theorem dg256 : ∀ c, c < 256 → dgF (nI c) = if dgB c then 1 else 0 := by decide +kernel
set_option maxRecDepth 20000 in
theorem nm256 : ∀ c, c < 256 → nmG (nI c) = nmV c := by decide +kernel
section
variable {h0 : Hp} {n : Nat} {sg : Nat → Nat}
theorem TP.end (T : TP h0 n sg) : ∀ i, n ≤ i → sg i = 999 := T.2.2
theorem lvS (T : TP h0 n sg) (pos : Nat) : lvF (sgI sg n pos) = if lvN (sg pos) = 9 then -1 else nI (lvN (sg pos)) := by
  unfold sgI
  by_cases c : pos < n
  · rw [if_pos c, lv256 _ (T.2.1 pos c).2]
  · rw [if_neg c, T.2.2 pos (by omega)]
    decide
theorem dgS (T : TP h0 n sg) (pos : Nat) : dgF (sgI sg n pos) = if dgB (sg pos) then 1 else 0 := by
  unfold sgI
  by_cases c : pos < n
  · rw [if_pos c, dg256 _ (T.2.1 pos c).2]
  · rw [if_neg c, T.2.2 pos (by omega)]
    decide
theorem nmS (T : TP h0 n sg) (pos : Nat) : nmG (sgI sg n pos) = nmV (sg pos) := by
  unfold sgI
  by_cases c : pos < n
  · rw [if_pos c, nm256 _ (T.2.1 pos c).2]
  · rw [if_neg c, T.2.2 pos (by omega)]
    decide
theorem sgE (T : TP h0 n sg) (pos : Nat) {c : Nat} (hc : c < 256) : sgI sg n pos = nI c ↔ sg pos = c := by
  unfold sgI
  by_cases d : pos < n
  · rw [if_pos d]
    exact nI_eq (by have := (T.2.1 pos d).2; omega) (by omega)
  · rw [if_neg d, T.2.2 pos (by omega)]
    constructor
    · intro q
      exact absurd q.symm (nm1 (by omega))
    · intro q; omega
theorem c_sign {h : Hp} {pos : Nat} (T : TP h0 n sg) (F : Fp h0 h) (e2 : gI h 18 2 = nI n) (e3 : gI h 18 3 = nI pos) (hp : pos ≤ n) {Q : Int32 → Prop} (hQ : Q (sgI sg n pos)) : wX9_sign 18 h Q := by
  unfold wX9_sign
  have := T.1
  unfold sgI at hQ
  rw [e2, e3, rf_18_1, nI_clamp (show pos < 2 ^ 31 by omega)]
  by_cases c : pos < n
  · rw [if_pos c] at hQ
    rw [if_neg (nI_ge c (by omega)), show Int32.ofNat (ln 7) = nI 120 from rfl, if_neg (nI_ge (by omega) (by omega)), F.1 7 pos (by decide) (by decide) (by decide) (by decide), (T.2.1 pos c).1]
    exact ⟨(vp_nI (by omega)).mpr (show pos < ln 7 from by show pos < 120; omega), hQ⟩
  · rw [if_neg c] at hQ
    rw [if_pos (nI_le (by omega) (by omega))]
    exact hQ
def CP (h0 : Hp) (n pos : Nat) (st : List Sp2) (h : Hp) : Prop := gI h 18 2 = nI n ∧ gI h 18 3 = nI pos ∧ gI h 18 4 = 1 ∧ gI h 19 3 = nI st.length ∧ (∀ k s, st[k]? = some s → gI h 20 k = s.1 ∧ gI h 21 k = s.2) ∧ Fp h0 h
def CS (h0 : Hp) (n : Nat) (sg : Nat → Nat) (p : Nat) (h : Hp) : Prop := gI h 18 2 = nI n ∧ gI h 18 3 = nI p ∧ p ≤ n ∧ (gI h 18 4 = 0 ∨ (gI h 18 4 = 1 ∧ dgB (sg p) = true)) ∧ (∃ z, z ≤ 121 ∧ gI h 19 3 = nI z) ∧ Fp h0 h
theorem CP.stuck {h : Hp} {pos : Nat} {st : List Sp2} (C : CP h0 n pos st h) (hp : pos ≤ n) (hl : st.length ≤ 121) (hd : dgB (sg pos) = true) : CS h0 n sg pos h := by
  obtain ⟨c1, c2, c3, c4, c5, c6⟩ := C
  exact ⟨c1, c2, hp, Or.inr ⟨c3, hd⟩, ⟨_, hl, c4⟩, c6⟩
theorem CP.fault {h : Hp} {pos : Nat} {st : List Sp2} (C : CP h0 n pos st h) (hp : pos ≤ n) (hl : st.length ≤ 121) : CS h0 n sg pos (sI h 18 4 0) := by
  obtain ⟨c1, c2, c3, c4, c5, c6⟩ := C
  exact ⟨by simp only [forall_eq, gI_sI, gI_sL, gL_sI, gL_sL, gI_cpI, gL_cpI, gI_cpL, gL_cpL, Nat.reduceEqDiff, Nat.reduceAdd, Nat.reduceSub, cl0, cl1, cl12, cl39, and_false, false_and, and_true, true_and, and_self, ↓reduceIte]; exact c1, by simp only [forall_eq, gI_sI, gI_sL, gL_sI, gL_sL, gI_cpI, gL_cpI, gI_cpL, gL_cpL, Nat.reduceEqDiff, Nat.reduceAdd, Nat.reduceSub, cl0, cl1, cl12, cl39, and_false, false_and, and_true, true_and, and_self, ↓reduceIte]; exact c2, hp, Or.inl (by simp only [forall_eq, gI_sI, gI_sL, gL_sI, gL_sL, gI_cpI, gL_cpI, gI_cpL, gL_cpL, Nat.reduceEqDiff, Nat.reduceAdd, Nat.reduceSub, cl0, cl1, cl12, cl39, and_false, false_and, and_true, true_and, and_self, ↓reduceIte]), ⟨_, hl, by simp only [forall_eq, gI_sI, gI_sL, gL_sI, gL_sL, gI_cpI, gL_cpI, gI_cpL, gL_cpL, Nat.reduceEqDiff, Nat.reduceAdd, Nat.reduceSub, cl0, cl1, cl12, cl39, and_false, false_and, and_true, true_and, and_self, ↓reduceIte]; exact c4⟩, c6.set 18 4 _ (by omega)⟩
theorem CS.fault {h : Hp} {p : Nat} (C : CS h0 n sg p h) : CS h0 n sg p (sI h 18 4 0) := by
  obtain ⟨c1, c2, c3, c4, ⟨z, c5, c6⟩, c7⟩ := C
  exact ⟨by simp only [forall_eq, gI_sI, gI_sL, gL_sI, gL_sL, gI_cpI, gL_cpI, gI_cpL, gL_cpL, Nat.reduceEqDiff, Nat.reduceAdd, Nat.reduceSub, cl0, cl1, cl12, cl39, and_false, false_and, and_true, true_and, and_self, ↓reduceIte]; exact c1, by simp only [forall_eq, gI_sI, gI_sL, gL_sI, gL_sL, gI_cpI, gL_cpI, gI_cpL, gL_cpL, Nat.reduceEqDiff, Nat.reduceAdd, Nat.reduceSub, cl0, cl1, cl12, cl39, and_false, false_and, and_true, true_and, and_self, ↓reduceIte]; exact c2, c3, Or.inl (by simp only [forall_eq, gI_sI, gI_sL, gL_sI, gL_sL, gI_cpI, gL_cpI, gI_cpL, gL_cpL, Nat.reduceEqDiff, Nat.reduceAdd, Nat.reduceSub, cl0, cl1, cl12, cl39, and_false, false_and, and_true, true_and, and_self, ↓reduceIte]), ⟨z, c5, by simp only [forall_eq, gI_sI, gI_sL, gL_sI, gL_sL, gI_cpI, gL_cpI, gI_cpL, gL_cpL, Nat.reduceEqDiff, Nat.reduceAdd, Nat.reduceSub, cl0, cl1, cl12, cl39, and_false, false_and, and_true, true_and, and_self, ↓reduceIte]; exact c6⟩, c7.set 18 4 _ (by omega)⟩
theorem CP.step {h : Hp} {pos : Nat} {st : List Sp2} (C : CP h0 n pos st h) : CP h0 n (pos + 1) st (sI h 18 3 (gI h 18 3 + 1)) := by
  obtain ⟨c1, c2, c3, c4, c5, c6⟩ := C
  refine ⟨by simp only [forall_eq, gI_sI, gI_sL, gL_sI, gL_sL, gI_cpI, gL_cpI, gI_cpL, gL_cpL, Nat.reduceEqDiff, Nat.reduceAdd, Nat.reduceSub, cl0, cl1, cl12, cl39, and_false, false_and, and_true, true_and, and_self, ↓reduceIte]; exact c1, by simp only [forall_eq, gI_sI, gI_sL, gL_sI, gL_sL, gI_cpI, gL_cpI, gI_cpL, gL_cpL, Nat.reduceEqDiff, Nat.reduceAdd, Nat.reduceSub, cl0, cl1, cl12, cl39, and_false, false_and, and_true, true_and, and_self, ↓reduceIte, c2]; exact nI_1 _, by simp only [forall_eq, gI_sI, gI_sL, gL_sI, gL_sL, gI_cpI, gL_cpI, gI_cpL, gL_cpL, Nat.reduceEqDiff, Nat.reduceAdd, Nat.reduceSub, cl0, cl1, cl12, cl39, and_false, false_and, and_true, true_and, and_self, ↓reduceIte]; exact c3, by simp only [forall_eq, gI_sI, gI_sL, gL_sI, gL_sL, gI_cpI, gL_cpI, gI_cpL, gL_cpL, Nat.reduceEqDiff, Nat.reduceAdd, Nat.reduceSub, cl0, cl1, cl12, cl39, and_false, false_and, and_true, true_and, and_self, ↓reduceIte]; exact c4, fun k s hk => by simp only [forall_eq, gI_sI, gI_sL, gL_sI, gL_sL, gI_cpI, gL_cpI, gI_cpL, gL_cpL, Nat.reduceEqDiff, Nat.reduceAdd, Nat.reduceSub, cl0, cl1, cl12, cl39, and_false, false_and, and_true, true_and, and_self, ↓reduceIte]; exact c5 k s hk, c6.set 18 3 _ (by omega)⟩
theorem c_addP {h : Hp} {pos : Nat} {st : List Sp2} {x1 x2 : Int32} (C : CP h0 n pos st h) (hl : st.length < 121) {Q : Hp → Prop} (hQ : ∀ h', CP h0 n pos (st ++ [(x1, x2)]) h' → Q h') : wX5_add 19 x1 x2 h Q := by
  obtain ⟨c1, c2, c3, c4, c5, c6⟩ := C
  unfold wX5_add
  rw [c4, if_neg (show ¬ (121 : Int32) ≤ nI st.length from nI_ge (b := 121) hl (by omega))]
  simp only [forall_eq, rf_19_0, rf_19_1, ln_20, ln_21, forall_eq, gI_sI, gI_sL, gL_sI, gL_sL, gI_cpI, gL_cpI, gI_cpL, gL_cpL, Nat.reduceEqDiff, Nat.reduceAdd, Nat.reduceSub, cl0, cl1, cl12, cl39, and_false, false_and, and_true, true_and, and_self, ↓reduceIte, c4, nI_clamp (show st.length < 2 ^ 31 by omega)]
  have v : vp_in (nI st.length) 121 := (vp_nI (by omega)).mpr hl
  refine ⟨v, v, hQ _ ⟨by simp only [forall_eq, gI_sI, gI_sL, gL_sI, gL_sL, gI_cpI, gL_cpI, gI_cpL, gL_cpL, Nat.reduceEqDiff, Nat.reduceAdd, Nat.reduceSub, cl0, cl1, cl12, cl39, and_false, false_and, and_true, true_and, and_self, ↓reduceIte]; exact c1, by simp only [forall_eq, gI_sI, gI_sL, gL_sI, gL_sL, gI_cpI, gL_cpI, gI_cpL, gL_cpL, Nat.reduceEqDiff, Nat.reduceAdd, Nat.reduceSub, cl0, cl1, cl12, cl39, and_false, false_and, and_true, true_and, and_self, ↓reduceIte]; exact c2, by simp only [forall_eq, gI_sI, gI_sL, gL_sI, gL_sL, gI_cpI, gL_cpI, gI_cpL, gL_cpL, Nat.reduceEqDiff, Nat.reduceAdd, Nat.reduceSub, cl0, cl1, cl12, cl39, and_false, false_and, and_true, true_and, and_self, ↓reduceIte]; exact c3, by simp only [forall_eq, gI_sI, gI_sL, gL_sI, gL_sL, gI_cpI, gL_cpI, gI_cpL, gL_cpL, Nat.reduceEqDiff, Nat.reduceAdd, Nat.reduceSub, cl0, cl1, cl12, cl39, and_false, false_and, and_true, true_and, and_self, ↓reduceIte]; rw [nI_1]; simp, fun k s hk => ?_, ((c6.set 20 _ _ (by omega)).set 21 _ _ (by omega)).set 19 3 _ (by omega)⟩⟩
  simp only [forall_eq, gI_sI, gI_sL, gL_sI, gL_sL, gI_cpI, gL_cpI, gI_cpL, gL_cpL, Nat.reduceEqDiff, Nat.reduceAdd, Nat.reduceSub, cl0, cl1, cl12, cl39, and_false, false_and, and_true, true_and, and_self, ↓reduceIte]
  by_cases e : k = st.length
  · rw [e, List.getElem?_append_right (Nat.le_refl _), Nat.sub_self] at hk
    have := Option.some.inj hk
    rw [if_pos e, if_pos e, ← this]
    exact ⟨rfl, rfl⟩
  · have kl : k < st.length := by
      have := (List.getElem?_eq_some_iff.mp hk).1
      simp at this
      omega
    rw [List.getElem?_append_left kl] at hk
    rw [if_neg e, if_neg e]
    exact c5 k s hk
theorem c_addS {h : Hp} {p : Nat} {x1 x2 : Int32} (C : CS h0 n sg p h) {Q : Hp → Prop} (hQ : ∀ h', CS h0 n sg p h' → Q h') : wX5_add 19 x1 x2 h Q := by
  have C0 := C
  obtain ⟨c1, c2, c3, c4, ⟨z, c5, c6⟩, c7⟩ := C
  unfold wX5_add
  rw [c6]
  by_cases d : 121 ≤ z
  · rw [if_pos (show (121 : Int32) ≤ nI z from nI_le (a := 121) d (by omega))]
    exact hQ h C0
  · rw [if_neg (show ¬ (121 : Int32) ≤ nI z from nI_ge (b := 121) (by omega) (by omega))]
    simp only [forall_eq, rf_19_0, rf_19_1, ln_20, ln_21, forall_eq, gI_sI, gI_sL, gL_sI, gL_sL, gI_cpI, gL_cpI, gI_cpL, gL_cpL, Nat.reduceEqDiff, Nat.reduceAdd, Nat.reduceSub, cl0, cl1, cl12, cl39, and_false, false_and, and_true, true_and, and_self, ↓reduceIte, c6, nI_clamp (show z < 2 ^ 31 by omega)]
    have v : vp_in (nI z) 121 := (vp_nI (by omega)).mpr (by omega)
    exact ⟨v, v, hQ _ ⟨by simp only [forall_eq, gI_sI, gI_sL, gL_sI, gL_sL, gI_cpI, gL_cpI, gI_cpL, gL_cpL, Nat.reduceEqDiff, Nat.reduceAdd, Nat.reduceSub, cl0, cl1, cl12, cl39, and_false, false_and, and_true, true_and, and_self, ↓reduceIte]; exact c1, by simp only [forall_eq, gI_sI, gI_sL, gL_sI, gL_sL, gI_cpI, gL_cpI, gI_cpL, gL_cpL, Nat.reduceEqDiff, Nat.reduceAdd, Nat.reduceSub, cl0, cl1, cl12, cl39, and_false, false_and, and_true, true_and, and_self, ↓reduceIte]; exact c2, c3, by simp only [forall_eq, gI_sI, gI_sL, gL_sI, gL_sL, gI_cpI, gL_cpI, gI_cpL, gL_cpL, Nat.reduceEqDiff, Nat.reduceAdd, Nat.reduceSub, cl0, cl1, cl12, cl39, and_false, false_and, and_true, true_and, and_self, ↓reduceIte]; exact c4, ⟨z + 1, by omega, by simp only [forall_eq, gI_sI, gI_sL, gL_sI, gL_sL, gI_cpI, gL_cpI, gI_cpL, gL_cpL, Nat.reduceEqDiff, Nat.reduceAdd, Nat.reduceSub, cl0, cl1, cl12, cl39, and_false, false_and, and_true, true_and, and_self, ↓reduceIte]; exact nI_1 _⟩, ((c7.set 20 _ _ (by omega)).set 21 _ _ (by omega)).set 19 3 _ (by omega)⟩⟩
theorem numV_lt (T : TP h0 n sg) {pos : Nat} : ∀ m, (∀ i, i < m → dgB (sg (pos + i)) = true) → numV sg pos m < 10 ^ m
  | 0, _ => by simp [numV]
  | m + 1, h => by
    have ih := numV_lt T m (fun i hi => h i (by omega))
    have d := h m (by omega)
    unfold dgB at d
    simp only [decide_eq_true_eq] at d
    rw [numV, Nat.pow_succ]
    omega
theorem p104 {m : Nat} (h : m ≤ 4) : 10 ^ m ≤ 10000 := by
  have := Nat.pow_le_pow_right (n := 10) (by omega) h
  omega
theorem c_num {h1 : Hp} {pos : Nat} {st : List Sp2} (T : TP h0 n sg) (C1 : CP h0 n pos st h1) (hp : pos ≤ n) (hl : st.length < 121) (hd : dgB (sg pos) = true) {Q : Hp → Prop} (hQ : ∀ h', CP h0 n (pos + nd4 sg pos) (st ++ [((0 : Int32), nI (numV sg pos (nd4 sg pos)))]) h' → Q h') : wX9_number 18 h1 Q := by
  have n120 := T.1
  unfold wX9_number
  refine iX9_number_4 (I := fun x1 x2 h => ∃ m, x1 = nI (numV sg pos m) ∧ x2 = nI m ∧ m ≤ 4 ∧ (∀ i, i < m → dgB (sg (pos + i)) = true) ∧ CP h0 n (pos + m) st h) (μ := fun _ x2 _ => 4 - x2.toNatClampNeg) ?_ 0 0 h1 ⟨0, rfl, rfl, by omega, fun i hi => by omega, C1⟩
  rintro x1 x2 h ⟨m, rfl, rfl, hm, ha, C⟩ K hK
  unfold fX9_number_4
  have pn : pos + m ≤ n := by
    rcases Nat.eq_zero_or_pos m with q | q
    · omega
    · have := dg_lt T.end (ha (m - 1) (by omega))
      omega
  have done : (m = 4 ∨ dgB (sg (pos + m)) = false) → jX9_number_48 18 (nI (numV sg pos m)) h Q := by
    intro q
    have e := nd4_uni hd hm ha q
    unfold jX9_number_48
    rw [rf_18_0]
    apply c_addP C hl
    rw [e]
    exact hQ
  by_cases c : 4 ≤ m
  · rw [if_pos (show (4 : Int32) ≤ nI m from nI_le (a := 4) c (by omega))]
    exact done (Or.inl (by omega))
  · rw [if_neg (show ¬ (4 : Int32) ≤ nI m from nI_ge (b := 4) (by omega) (by omega))]
    apply c_sign T C.2.2.2.2.2 C.1 C.2.1 pn
    rw [e_dg, dgS T]
    cases d : dgB (sg (pos + m))
    · rw [if_pos (by decide)]
      exact done (Or.inr d)
    · rw [if_neg (by decide)]
      apply c_sign T C.2.2.2.2.2 C.1 C.2.1 pn
      have dl := dg_lt T.end d
      simp only [forall_eq, nI_1]
      have dd := d
      unfold dgB at dd
      simp only [decide_eq_true_eq] at dd
      have vl := numV_lt T m ha
      have pl := p104 hm
      have e : nI (numV sg pos m) * 10 + sgI sg n (pos + m) - 48 = nI (numV sg pos (m + 1)) := by
        unfold sgI
        rw [if_pos dl, show (10 : Int32) = nI 10 from rfl, pk_mul, nI_add, show (48 : Int32) = nI 48 from rfl, pk_sub (by omega), numV]
        congr 1
        omega
      rw [e]
      refine hK _ _ _ ⟨m + 1, rfl, rfl, by omega, fun i hi => ?_, C.step⟩ (by rw [nI_clamp (by omega), nI_clamp (by omega)]; omega)
      by_cases z : i = m
      · rw [z]; exact d
      · exact ha i (by omega)
end
