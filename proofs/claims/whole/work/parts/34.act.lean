def WM (hb : Hp) (l : List Int32) (h : Hp) : Prop := gI h 55 50 = nI l.length ∧ (∀ i v, i < 24 → l[i]? = some v → gI h 82 i = v) ∧ (∀ a j, a ≠ 82 → (a = 55 → j ≠ 50) → gI h a j = gI hb a j) ∧ ∀ a j, gL h a j = gL hb a j
theorem m_ran {hb h : Hp} {l : List Int32} (W : WM hb l h) (hl : l.length < 500) (id : Int32) {Q : Hp → Prop} (hQ : ∀ h', WM hb (l ++ [id]) h' → Q h') : wX12_ran 55 id h Q := by
  obtain ⟨w1, w4, w5, w6⟩ := W
  unfold wX12_ran jX12_ran_19
  rw [w1]
  by_cases c : 24 ≤ l.length
  · rw [if_pos (show (24 : Int32) ≤ nI l.length from nI_le (a := 24) c (by omega))]
    simp only [forall_eq, w1, nI_1]
    refine hQ _ ⟨?_, fun i v hi hv => ?_, fun a j ha hj => ?_, fun a j => ?_⟩
    · simp only [forall_eq, gI_sI, gI_sL, gL_sI, gL_sL, gI_cpI, gL_cpI, gI_cpL, gL_cpL, Nat.reduceEqDiff, Nat.reduceAdd, Nat.reduceSub, cl0, cl1, cl12, cl39, and_false, false_and, and_true, true_and, and_self, ↓reduceIte]
      simp
    · simp only [forall_eq, gI_sI, gI_sL, gL_sI, gL_sL, gI_cpI, gL_cpI, gI_cpL, gL_cpL, Nat.reduceEqDiff, Nat.reduceAdd, Nat.reduceSub, cl0, cl1, cl12, cl39, and_false, false_and, and_true, true_and, and_self, ↓reduceIte]
      rw [List.getElem?_append_left (by omega)] at hv
      exact w4 i v hi hv
    · rw [gI_sI, if_neg (fun q => (hj q.1) q.2)]
      exact w5 a j ha hj
    · exact w6 a j
  · rw [if_neg (show ¬ (24 : Int32) ≤ nI l.length from nI_ge (b := 24) (by omega) (by omega)), rf_55_51, ln_82, nI_clamp (show l.length < 2 ^ 31 by omega)]
    simp only [forall_eq, forall_eq, gI_sI, gI_sL, gL_sI, gL_sL, gI_cpI, gL_cpI, gI_cpL, gL_cpL, Nat.reduceEqDiff, Nat.reduceAdd, Nat.reduceSub, cl0, cl1, cl12, cl39, and_false, false_and, and_true, true_and, and_self, ↓reduceIte, w1, nI_1]
    refine ⟨(vp_nI (by omega)).mpr (by omega), hQ _ ⟨?_, fun i v hi hv => ?_, fun a j ha hj => ?_, fun a j => ?_⟩⟩
    · simp only [forall_eq, gI_sI, gI_sL, gL_sI, gL_sL, gI_cpI, gL_cpI, gI_cpL, gL_cpL, Nat.reduceEqDiff, Nat.reduceAdd, Nat.reduceSub, cl0, cl1, cl12, cl39, and_false, false_and, and_true, true_and, and_self, ↓reduceIte]
      simp
    · simp only [forall_eq, gI_sI, gI_sL, gL_sI, gL_sL, gI_cpI, gL_cpI, gI_cpL, gL_cpL, Nat.reduceEqDiff, Nat.reduceAdd, Nat.reduceSub, cl0, cl1, cl12, cl39, and_false, false_and, and_true, true_and, and_self, ↓reduceIte]
      by_cases e : i = l.length
      · subst e
        rw [List.getElem?_append_right (Nat.le_refl _), Nat.sub_self] at hv
        rw [if_pos rfl]
        exact Option.some.inj hv
      · rw [if_neg e]
        by_cases e2 : i < l.length
        · rw [List.getElem?_append_left e2] at hv
          exact w4 i v hi hv
        · rw [List.getElem?_append_right (by omega), List.getElem?_eq_none (by simp; omega)] at hv
          exact absurd hv (by simp)
    · rw [gI_sI, if_neg (fun q => (hj q.1) q.2), gI_sI, if_neg (fun q => ha q.1)]
      exact w5 a j ha hj
    · exact w6 a j
abbrev PR : Type := Int32 × List Int32
def oP (b x : Int32) : PR := (x + b, [1])
def oT (b x : Int32) : PR := ((oP b x).1 * 2, 70 :: (oP b x).2)
def oO (k : Nat) (b x : Int32) : PR := if undT k 1 then ((oP b x).1 + 3, 20 :: (oP b x).2) else if k = 7 then ((oT b x).1 - 1, 81 :: (oT b x).2) else if k = 6 then oT b x else oP b x
def cP (k : Nat) (b x : Int32) : PR := ((oO k b x).1 * 2, 10 :: (oO k b x).2)
def cL (k : Nat) (b x : Int32) : PR := (-(cP k b x).1, 30 :: (cP k b x).2)
def wP (b x : Int32) : PR := (x ^^^ b, [11])
def wW (b x : Int32) : PR := ((wP b x).1 * 3, 40 :: (wP b x).2)
def wA (k : Nat) (b x : Int32) : PR := if k = 5 then ((wW b x).1 - (oO k b 2).1, 60 :: ((wW b x).2 ++ (oO k b 2).2)) else if k = 3 then wW b x else wP b x
def cA (k : Nat) (b x : Int32) : PR := if undT k 3 then ((cL k b (x + 1)).1, 41 :: (cL k b (x + 1)).2) else if k = 7 then ((cP k b x).1 + (wA k b 2).1, 80 :: ((cP k b x).2 ++ (wA k b 2).2)) else if k = 2 then cL k b x else cP k b x
def tP (k : Nat) (b x : Int32) : PR := ((cA k b x).1 - (wA k b 1).1, 2 :: ((cA k b x).2 ++ (wA k b 1).2))
def tA (k : Nat) (b x : Int32) : PR := if k = 4 then ((tP k b x).1 ^^^ 5, 50 :: (tP k b x).2) else if k = 5 then ((tP k b x).1 + 1, 61 :: (tP k b x).2) else tP k b x
def TM (hb : Hp) (w : Int32 → Hp → (Int32 → Hp → Prop) → Prop) (r : Int32 → PR) : Prop := ∀ (x : Int32) (l : List Int32) (h : Hp) (Q : Int32 → Hp → Prop), WM hb l h → l.length + (r x).2.length ≤ 400 → (∀ h', WM hb (l ++ (r x).2) h' → Q (r x).1 h') → w x h Q
/-- a method that runs and then calls another -/
theorem TM.then {hb : Hp} {w : Int32 → Hp → (Int32 → Hp → Prop) → Prop} {r : Int32 → PR} (T : TM hb w r) {id x : Int32} {l : List Int32} {h : Hp} {u : Int32 → Int32} {Q : Int32 → Hp → Prop} (W : WM hb l h) (hl : l.length + (id :: (r x).2).length ≤ 400) (hQ : ∀ h', WM hb (l ++ (id :: (r x).2)) h' → Q (u (r x).1) h') : wX12_ran 55 id h (fun h2 => w x h2 (fun v h3 => Q (u v) h3)) := by
  apply m_ran W (by simp only [List.length_cons] at hl; omega)
  intro h' W'
  refine T x _ h' _ W' (by simp only [List.length_append, List.length_cons, List.length_nil] at hl ⊢; omega) (fun h'' W'' => ?_)
  rw [List.append_assoc] at W''
  exact hQ h'' W''
theorem TM.then2 {hb : Hp} {w w' : Int32 → Hp → (Int32 → Hp → Prop) → Prop} {r r' : Int32 → PR} (T : TM hb w r) (T' : TM hb w' r') {id x x' : Int32} {l : List Int32} {h : Hp} {u : Int32 → Int32 → Int32} {Q : Int32 → Hp → Prop} (W : WM hb l h) (hl : l.length + (id :: ((r x).2 ++ (r' x').2)).length ≤ 400) (hQ : ∀ h', WM hb (l ++ (id :: ((r x).2 ++ (r' x').2))) h' → Q (u (r x).1 (r' x').1) h') : wX12_ran 55 id h (fun h2 => w x h2 (fun v h3 => w' x' h3 (fun v' h4 => Q (u v v') h4))) := by
  apply m_ran W (by simp only [List.length_cons] at hl; omega)
  intro h' W'
  refine T x _ h' _ W' (by simp only [List.length_append, List.length_cons, List.length_nil] at hl ⊢; omega) (fun h2 W2 => ?_)
  refine T' x' _ h2 _ W2 (by simp only [List.length_append, List.length_cons, List.length_nil] at hl ⊢; omega) (fun h3 W3 => ?_)
  rw [List.append_assoc, List.append_assoc] at W3
  exact hQ h3 W3
section
variable {hb : Hp} {k b : Nat}
theorem t_oP : TM hb (wX12_plainOpens 55 (nI b)) (oP (nI b)) := by
  intro x l h Q W hl hQ
  unfold wX12_plainOpens
  apply m_ran W (by simp only [oP, List.length_cons] at hl; omega)
  intro h' W'
  exact hQ h' W'
theorem t_oT : TM hb (wX12_toldOpens 55 (nI b)) (oT (nI b)) := by
  intro x l h Q W hl hQ
  unfold wX12_toldOpens
  exact t_oP.then (u := fun v => v * 2) W hl hQ
theorem WM.kd {l : List Int32} {h : Hp} (W : WM hb l h) (hb1 : b < 50) (hk1 : gI hb 81 b = nI k) : vp_in (nI b) (ln (rf 55 49)) ∧ gI h (rf 55 49) (nI b).toNatClampNeg = nI k := by
  refine ⟨(vp_nI (by omega)).mpr hb1, ?_⟩
  rw [nI_clamp (by omega)]
  exact (W.2.2.1 81 b (by decide) (fun q => absurd q (by decide))).trans hk1
theorem t_oO (hb1 : b < 50) (hk : k < 8) (hk1 : gI hb 81 b = nI k) : TM hb (wX12_opening 55 (nI b)) (oO k (nI b)) := by
  intro x l h Q W hl hQ
  obtain ⟨v1, v2⟩ := W.kd hb1 hk1
  unfold wX12_opening
  rw [v2]
  refine ⟨v1, ?_⟩
  apply m_under k hk 1 (by omega)
  unfold oO at hl hQ
  by_cases c : undT k 1 = true
  · simp only [if_pos c] at hl hQ ⊢
    rw [if_neg (by decide)]
    exact t_oP.then (u := fun v => v + 3) W hl hQ
  · simp only [if_neg c, ↓reduceIte] at hl hQ ⊢
    refine ⟨v1, ?_⟩
    by_cases c7 : k = 7
    · simp only [if_pos c7] at hl hQ
      rw [if_pos (show nI k = 7 by rw [c7]; rfl)]
      exact t_oT.then (u := fun v => v - 1) W hl hQ
    · simp only [if_neg c7] at hl hQ
      rw [if_neg (show ¬ nI k = 7 from fun q => c7 ((nI_eq (b := 7) (by omega) (by omega)).mp q))]
      refine ⟨v1, ?_⟩
      by_cases c6 : k = 6
      · simp only [if_pos c6] at hl hQ
        rw [if_pos (show nI k = 6 by rw [c6]; rfl)]
        exact t_oT x l h _ W hl hQ
      · simp only [if_neg c6] at hl hQ
        rw [if_neg (show ¬ nI k = 6 from fun q => c6 ((nI_eq (b := 6) (by omega) (by omega)).mp q))]
        exact t_oP x l h _ W hl hQ
theorem t_cP (hb1 : b < 50) (hk : k < 8) (hk1 : gI hb 81 b = nI k) : TM hb (wX12_plainCounts 55 (nI b)) (cP k (nI b)) := by
  intro x l h Q W hl hQ
  unfold wX12_plainCounts
  exact (t_oO hb1 hk hk1).then (u := fun v => v * 2) W hl hQ
theorem t_cL (hb1 : b < 50) (hk : k < 8) (hk1 : gI hb 81 b = nI k) : TM hb (wX12_lookCounts 55 (nI b)) (cL k (nI b)) := by
  intro x l h Q W hl hQ
  unfold wX12_lookCounts
  exact (t_cP hb1 hk hk1).then (u := fun v => -v) W hl hQ
theorem t_wP : TM hb (wX12_plainWaits 55 (nI b)) (wP (nI b)) := by
  intro x l h Q W hl hQ
  unfold wX12_plainWaits
  apply m_ran W (by simp only [wP, List.length_cons] at hl; omega)
  intro h' W'
  exact hQ h' W'
theorem t_wW : TM hb (wX12_walkWaits 55 (nI b)) (wW (nI b)) := by
  intro x l h Q W hl hQ
  unfold wX12_walkWaits
  exact t_wP.then (u := fun v => v * 3) W hl hQ
theorem t_wA (hb1 : b < 50) (hk : k < 8) (hk1 : gI hb 81 b = nI k) : TM hb (wX12_waitingAct 55 (nI b)) (wA k (nI b)) := by
  intro x l h Q W hl hQ
  obtain ⟨v1, v2⟩ := W.kd hb1 hk1
  unfold wX12_waitingAct
  rw [v2]
  refine ⟨v1, ?_⟩
  unfold wA at hl hQ
  by_cases c5 : k = 5
  · simp only [if_pos c5] at hl hQ
    rw [if_pos (show nI k = 5 by rw [c5]; rfl)]
    exact t_wW.then2 (t_oO hb1 hk hk1) (u := fun v v' => v - v') W hl hQ
  · simp only [if_neg c5] at hl hQ
    rw [if_neg (show ¬ nI k = 5 from fun q => c5 ((nI_eq (b := 5) (by omega) (by omega)).mp q))]
    refine ⟨v1, ?_⟩
    by_cases c3 : k = 3
    · simp only [if_pos c3] at hl hQ
      rw [if_pos (show nI k = 3 by rw [c3]; rfl)]
      exact t_wW x l h _ W hl hQ
    · simp only [if_neg c3] at hl hQ
      rw [if_neg (show ¬ nI k = 3 from fun q => c3 ((nI_eq (b := 3) (by omega) (by omega)).mp q))]
      exact t_wP x l h _ W hl hQ
theorem t_cA (hb1 : b < 50) (hk : k < 8) (hk1 : gI hb 81 b = nI k) : TM hb (wX12_counting 55 (nI b)) (cA k (nI b)) := by
  intro x l h Q W hl hQ
  obtain ⟨v1, v2⟩ := W.kd hb1 hk1
  unfold wX12_counting
  rw [v2]
  refine ⟨v1, ?_⟩
  apply m_under k hk 3 (by omega)
  unfold cA at hl hQ
  by_cases c : undT k 3 = true
  · simp only [if_pos c] at hl hQ ⊢
    rw [if_neg (by decide)]
    exact (t_cL hb1 hk hk1).then (u := fun v => v) W hl hQ
  · simp only [if_neg c, ↓reduceIte] at hl hQ ⊢
    refine ⟨v1, ?_⟩
    by_cases c7 : k = 7
    · simp only [if_pos c7] at hl hQ
      rw [if_pos (show nI k = 7 by rw [c7]; rfl)]
      exact (t_cP hb1 hk hk1).then2 (t_wA hb1 hk hk1) (u := fun v v' => v + v') W hl hQ
    · simp only [if_neg c7] at hl hQ
      rw [if_neg (show ¬ nI k = 7 from fun q => c7 ((nI_eq (b := 7) (by omega) (by omega)).mp q))]
      refine ⟨v1, ?_⟩
      by_cases c2 : k = 2
      · simp only [if_pos c2] at hl hQ
        rw [if_pos (show nI k = 2 by rw [c2]; rfl)]
        exact t_cL hb1 hk hk1 x l h _ W hl hQ
      · simp only [if_neg c2] at hl hQ
        rw [if_neg (show ¬ nI k = 2 from fun q => c2 ((nI_eq (b := 2) (by omega) (by omega)).mp q))]
        exact t_cP hb1 hk hk1 x l h _ W hl hQ
theorem t_tP (hb1 : b < 50) (hk : k < 8) (hk1 : gI hb 81 b = nI k) : TM hb (wX12_plainTells 55 (nI b)) (tP k (nI b)) := by
  intro x l h Q W hl hQ
  unfold wX12_plainTells
  exact (t_cA hb1 hk hk1).then2 (t_wA hb1 hk hk1) (u := fun v v' => v - v') W hl hQ
theorem t_tA (hb1 : b < 50) (hk : k < 8) (hk1 : gI hb 81 b = nI k) : TM hb (wX12_telling 55 (nI b)) (tA k (nI b)) := by
  intro x l h Q W hl hQ
  obtain ⟨v1, v2⟩ := W.kd hb1 hk1
  unfold wX12_telling
  rw [v2]
  refine ⟨v1, ?_⟩
  unfold tA at hl hQ
  by_cases c4 : k = 4
  · simp only [if_pos c4] at hl hQ
    rw [if_pos (show nI k = 4 by rw [c4]; rfl)]
    exact (t_tP hb1 hk hk1).then (u := fun v => v ^^^ 5) W hl hQ
  · simp only [if_neg c4] at hl hQ
    rw [if_neg (show ¬ nI k = 4 from fun q => c4 ((nI_eq (b := 4) (by omega) (by omega)).mp q))]
    refine ⟨v1, ?_⟩
    by_cases c5 : k = 5
    · simp only [if_pos c5] at hl hQ
      rw [if_pos (show nI k = 5 by rw [c5]; rfl)]
      exact (t_tP hb1 hk hk1).then (u := fun v => v + 1) W hl hQ
    · simp only [if_neg c5] at hl hQ
      rw [if_neg (show ¬ nI k = 5 from fun q => c5 ((nI_eq (b := 5) (by omega) (by omega)).mp q))]
      exact t_tP hb1 hk hk1 x l h _ W hl hQ
end
def actP (k w : Nat) (b x : Int32) : PR := if w = 0 then oO k b x else if w = 1 then cA k b x else if w = 2 then wA k b x else tA k b x
set_option maxRecDepth 20000 in
theorem act_eq : ∀ k, k < 8 → ∀ w, w < 4 → ∀ b x : Int32, rn k b 12 (rfT k w) x = some (actP k w b x) ∧ (actP k w b x).2.length ≤ 40 := by
  intro k hk w hw b x
  rcases (show k = 0 ∨ k = 1 ∨ k = 2 ∨ k = 3 ∨ k = 4 ∨ k = 5 ∨ k = 6 ∨ k = 7 by omega) with rfl | rfl | rfl | rfl | rfl | rfl | rfl | rfl <;>
  rcases (show w = 0 ∨ w = 1 ∨ w = 2 ∨ w = 3 by omega) with rfl | rfl | rfl | rfl <;>
  exact ⟨rfl, Nat.le_of_ble_eq_true rfl⟩
theorem get_some {l : List Int32} {i : Nat} (h : i < l.length) : ∃ v, l[i]? = some v := ⟨l[i], List.getElem?_eq_getElem h⟩
set_option maxRecDepth 20000 in
set_option maxHeartbeats 1000000 in
theorem ok_act {h : Hp} (I : Inv h) (x1 : Int32) (x2 : Int32) (x3 : Int32) {A1 : Prop} (b1 : A1) {A2 : Prop} (b2 : A2) {A3 : Prop} (b3 : A3) {R : Hp → Prop} {Q0 : Prop} (hR : ∀ h', Inv h' → R h') : wX11_act 0 x1 x2 x3 h (fun v h1 => A1 ∧ (A2 ∧ (A3 ∧ (wX12_act 55 x1 x2 x3 h1 (fun v' h2 => if v = v' then R h2 else Q0))))) := by
  obtain ⟨iG, iP, iD, iT, iI, iC, iB, iS, iL0, iL1⟩ := id I
  obtain ⟨n, r, hn, hr0, e1, e2, e3, e4, hk, ht⟩ := id iB
  unfold wX11_act wX0_perform
  simp only [forall_eq, rf_0_12]
  rw [e_bHas]
  have g2 : gI (sI h 39 3 0) 39 2 = nI n := by
    simp only [forall_eq, gI_sI, gI_sL, gL_sI, gL_sL, gI_cpI, gL_cpI, gI_cpL, gL_cpL, Nat.reduceEqDiff, Nat.reduceAdd, Nat.reduceSub, cl0, cl1, cl12, cl39, and_false, false_and, and_true, true_and, and_self, ↓reduceIte]
    exact e1
  rw [g2]
  have open_m : ∀ (h1 : Hp) (Q : Int32 → Hp → Prop), gI h1 55 48 = nI n → (if x1 < 0 ∨ ¬ x1 < nI n then Q 0 (sI h1 55 50 0) else if x2 < 0 ∨ 3 < x2 then Q 0 (sI h1 55 50 0) else if x2 = 0 then wX12_opening 55 x1 x3 (sI h1 55 50 0) Q else if x2 = 1 then wX12_counting 55 x1 x3 (sI h1 55 50 0) Q else if x2 = 2 then wX12_waitingAct 55 x1 x3 (sI h1 55 50 0) Q else wX12_telling 55 x1 x3 (sI h1 55 50 0) Q) → wX12_act 55 x1 x2 x3 h1 Q := by
    intro h1 Q k1 hQ
    unfold wX12_act
    simp only [forall_eq]
    rw [e_isBody x1 (g := n) (by simp only [forall_eq, gI_sI, gI_sL, gL_sI, gL_sL, gI_cpI, gL_cpI, gI_cpL, gL_cpL, Nat.reduceEqDiff, Nat.reduceAdd, Nat.reduceSub, cl0, cl1, cl12, cl39, and_false, false_and, and_true, true_and, and_self, ↓reduceIte]; exact k1) (by omega)]
    by_cases q : x1 < 0 ∨ ¬ x1 < nI n
    · rw [if_pos q] at hQ ⊢
      rw [if_pos rfl]
      exact hQ
    · rw [if_neg q] at hQ ⊢
      rw [if_neg (by decide), e_in]
      by_cases q2 : x2 < 0 ∨ 3 < x2
      · rw [if_pos q2] at hQ ⊢
        rw [if_pos rfl]
        exact hQ
      · rw [if_neg q2] at hQ ⊢
        rw [if_neg (by decide)]
        exact hQ
  -- nothing runs
  have none : R (sI (sI h 39 3 0) 55 50 0) := by
    apply hR
    refine I.jb (fun a k q hn => ?_) (fun a k _ => rfl) ?_
    · obtain ⟨z1, z2, z3, z4⟩ := hn
      rw [gI_sI, if_neg (fun q => z4 (by rw [q.1, q.2])), gI_sI, if_neg (fun q => z3 (by rw [q.1, q.2]))]
    · refine ⟨n, 0, hn, by omega, e1, e2, by simp only [forall_eq, gI_sI, gI_sL, gL_sI, gL_sL, gI_cpI, gL_cpI, gI_cpL, gL_cpL, Nat.reduceEqDiff, Nat.reduceAdd, Nat.reduceSub, cl0, cl1, cl12, cl39, and_false, false_and, and_true, true_and, and_self, ↓reduceIte]; rfl, by simp only [forall_eq, gI_sI, gI_sL, gL_sI, gL_sL, gI_cpI, gL_cpI, gI_cpL, gL_cpL, Nat.reduceEqDiff, Nat.reduceAdd, Nat.reduceSub, cl0, cl1, cl12, cl39, and_false, false_and, and_true, true_and, and_self, ↓reduceIte]; rfl, hk, fun k hk => by omega⟩
  have key : ∀ Q : Int32 → Hp → Prop, gI (sI h 39 3 0) 55 48 = nI n := fun _ => by
    simp only [forall_eq, gI_sI, gI_sL, gL_sI, gL_sL, gI_cpI, gL_cpI, gI_cpL, gL_cpL, Nat.reduceEqDiff, Nat.reduceAdd, Nat.reduceSub, cl0, cl1, cl12, cl39, and_false, false_and, and_true, true_and, and_self, ↓reduceIte]
    exact e2
  have key := key (fun _ _ => True)
  rcases ix x1 n (by omega) with c | ⟨b, hb, rfl, c⟩
  · rw [if_pos c, if_pos rfl]
    refine ⟨b1, b2, b3, open_m _ _ key ?_⟩
    rw [if_pos c]
    exact fin rfl none
  · rw [if_neg c, if_neg (by decide)]
    have open_m := fun h1 Q k1 hQ => open_m h1 Q k1 (by rw [if_neg c]; exact hQ)
    rcases bd x2 0 3 (l := 0) (u := 3) rfl rfl (by omega) (by omega) with d | ⟨w, d1, d2, rfl, d⟩
    · have z : wX12_act 55 (nI b) x2 x3 (sI h 39 3 0) (fun v' h2 => if 0 = v' then R h2 else Q0) := by
        apply open_m _ _ key
        rw [if_pos d]
        exact fin rfl none
      by_cases d0 : x2 < 0
      · rw [if_pos d0]
        exact ⟨b1, b2, b3, z⟩
      · have d3 : ¬ x2 < 4 := by
          have := d.resolve_left d0
          rw [Int32.lt_iff_toInt_lt] at this ⊢
          have : (3 : Int) < x2.toInt := this
          show ¬ x2.toInt < (4 : Int)
          omega
        rw [if_neg d0, if_neg d3]
        exact ⟨b1, b2, b3, z⟩
    · rw [if_neg (show ¬ nI w < 0 from fun q => d (Or.inl q)), if_pos (show nI w < 4 from nI_lt (b := 4) (by omega) (by omega))]
      have open_m := fun h1 Q k1 hQ => open_m h1 Q k1 (by rw [if_neg d]; exact hQ)
      obtain ⟨y1, k, hk8, y2⟩ := hk b hb
      have y1 : gI h 81 b = gI h 40 b := y1
      have y2 : gI h 40 b = nI k := y2
      simp only [rf_39_0, ln_40, nI_clamp (show b < 2 ^ 31 by omega), forall_eq, gI_sI, gI_sL, gL_sI, gL_sL, gI_cpI, gL_cpI, gI_cpL, gL_cpL, Nat.reduceEqDiff, Nat.reduceAdd, Nat.reduceSub, cl0, cl1, cl12, cl39, and_false, false_and, and_true, true_and, and_self, ↓reduceIte, y2]
      refine ⟨(vp_nI (by omega)).mpr (by omega), 26, by omega, ?_⟩
      obtain ⟨r1, r2⟩ := act_eq k hk8 w (by omega) (nI b) x3
      have W0 : WC h (nI b) k [] (sI (sI (sI h 39 3 0) 39 4 (nI b)) 39 5 (nI k)) := by
        refine ⟨by simp only [forall_eq, gI_sI, gI_sL, gL_sI, gL_sL, gI_cpI, gL_cpI, gI_cpL, gL_cpL, Nat.reduceEqDiff, Nat.reduceAdd, Nat.reduceSub, cl0, cl1, cl12, cl39, and_false, false_and, and_true, true_and, and_self, ↓reduceIte]; rfl, by simp only [forall_eq, gI_sI, gI_sL, gL_sI, gL_sL, gI_cpI, gL_cpI, gI_cpL, gL_cpL, Nat.reduceEqDiff, Nat.reduceAdd, Nat.reduceSub, cl0, cl1, cl12, cl39, and_false, false_and, and_true, true_and, and_self, ↓reduceIte], by simp only [forall_eq, gI_sI, gI_sL, gL_sI, gL_sL, gI_cpI, gL_cpI, gI_cpL, gL_cpL, Nat.reduceEqDiff, Nat.reduceAdd, Nat.reduceSub, cl0, cl1, cl12, cl39, and_false, false_and, and_true, true_and, and_self, ↓reduceIte], fun i v _ hv => absurd hv (by simp), fun a j _ hj => ?_, fun a j => rfl⟩
        rw [gI_sI, if_neg (fun q => (hj q.1).2.2 q.2), gI_sI, if_neg (fun q => (hj q.1).2.1 q.2), gI_sI, if_neg (fun q => (hj q.1).1 q.2)]
      generalize hA : actP k w (nI b) x3 = A at r1 r2
      obtain ⟨v, t⟩ := A
      have r2 : t.length ≤ 40 := r2
      refine c_own (f := 12) (c_run hk8 12) hk8 (w := w) (d := 0) (by omega) r1 W0 (by omega) (by simp; omega) (fun h' W' => ?_)
      refine ⟨b1, b2, b3, ?_⟩
      rw [List.nil_append] at W'
      obtain ⟨c1, c2, c3, c4, c5, c6⟩ := W'
      have WM0 : WM h' [] (sI h' 55 50 0) := by
        refine ⟨by simp only [forall_eq, gI_sI, gI_sL, gL_sI, gL_sL, gI_cpI, gL_cpI, gI_cpL, gL_cpL, Nat.reduceEqDiff, Nat.reduceAdd, Nat.reduceSub, cl0, cl1, cl12, cl39, and_false, false_and, and_true, true_and, and_self, ↓reduceIte]; rfl, fun i v _ hv => absurd hv (by simp), fun a j _ hj => ?_, fun a j => rfl⟩
        rw [gI_sI, if_neg (fun q => (hj q.1) q.2)]
      have last : ∀ h2, WM h' ([] ++ t) h2 → R h2 := by
        intro h2 W2
        rw [List.nil_append] at W2
        obtain ⟨m1, m2, m3, m4⟩ := W2
        apply hR
        refine I.jb (fun a k' q hn => ?_) (fun a j _ => (m4 a j).trans (c6 a j)) ?_
        · obtain ⟨z1, z2, z3, z4⟩ := hn
          rw [m3 a k' z2 (fun q q2 => z4 (by rw [q, q2]))]
          by_cases z : a = 39 ∧ (k' = 4 ∨ k' = 5)
          · obtain ⟨rfl, rfl | rfl⟩ := z
            · exact absurd q (by decide)
            · exact absurd q (by decide)
          · exact c5 a k' z1 (fun q => ⟨fun q2 => z3 (by rw [q, q2]), fun q2 => z ⟨q, Or.inl q2⟩, fun q2 => z ⟨q, Or.inr q2⟩⟩)
        · refine ⟨n, t.length, hn, by omega, e1, e2, ?_, m1, hk, fun i hi hi2 => ?_⟩
          · rw [m3 39 3 (by decide) (by decide)]
            exact c1
          · obtain ⟨u, hu⟩ := get_some hi
            show gI h2 82 i = gI h2 41 i
            rw [m2 i u hi2 hu, m3 41 i (by decide) (fun q => absurd q (by decide)), c4 i u hi2 hu]
      have hb81 : gI h' 81 b = nI k := by
        rw [c5 81 b (by decide) (fun q => absurd q (by decide)), y1, y2]
      apply open_m
      · rw [c5 55 48 (by decide) (fun q => absurd q (by decide))]
        exact e2
      · have lenT : ([] : List Int32).length + t.length ≤ 400 := by simp; omega
        rcases (show w = 0 ∨ w = 1 ∨ w = 2 ∨ w = 3 by omega) with rfl | rfl | rfl | rfl
        · rw [if_pos (show nI 0 = 0 from rfl)]
          have hA : oO k (nI b) x3 = (v, t) := hA
          refine t_oO (by omega) hk8 hb81 x3 [] _ _ WM0 (by rw [hA]; exact lenT) ?_
          rw [hA]
          exact fun h2 W2 => fin rfl (last h2 W2)
        · rw [if_neg (by decide), if_pos (show nI 1 = 1 from rfl)]
          have hA : cA k (nI b) x3 = (v, t) := hA
          refine t_cA (by omega) hk8 hb81 x3 [] _ _ WM0 (by rw [hA]; exact lenT) ?_
          rw [hA]
          exact fun h2 W2 => fin rfl (last h2 W2)
        · rw [if_neg (by decide), if_neg (by decide), if_pos (show nI 2 = 2 from rfl)]
          have hA : wA k (nI b) x3 = (v, t) := hA
          refine t_wA (by omega) hk8 hb81 x3 [] _ _ WM0 (by rw [hA]; exact lenT) ?_
          rw [hA]
          exact fun h2 W2 => fin rfl (last h2 W2)
        · rw [if_neg (by decide), if_neg (by decide), if_neg (by decide)]
          have hA : tA k (nI b) x3 = (v, t) := hA
          refine t_tA (by omega) hk8 hb81 x3 [] _ _ WM0 (by rw [hA]; exact lenT) ?_
          rw [hA]
          exact fun h2 W2 => fin rfl (last h2 W2)
