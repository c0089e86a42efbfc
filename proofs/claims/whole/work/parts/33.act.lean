theorem Inv.jb {h h2 : Hp} (I : Inv h) (f : ∀ a k, usd a k = true ∨ usD a k = true → a ≠ 41 ∧ a ≠ 82 ∧ (a, k) ≠ (39, 3) ∧ (a, k) ≠ (55, 50) → gI h2 a k = gI h a k) (fl : ∀ a k, usL a = true → gL h2 a k = gL h a k)
    (jB : JB (gI h 39 2) (rI h 40) (gI h2 39 3) (rI h2 41) (gI h 55 48) (rI h 81) (gI h2 55 50) (rI h2 82)) : Inv h2 := by
  have ff : ∀ a k, usd a k = true ∨ usD a k = true → a ≠ 41 ∧ a ≠ 82 ∧ a ≠ 39 ∧ a ≠ 55 → gI h2 a k = gI h a k := fun a k q1 q2 => f a k q1 ⟨q2.1, q2.2.1, fun e => q2.2.2.1 (congrArg Prod.fst e), fun e => q2.2.2.2 (congrArg Prod.fst e)⟩
  have r : ∀ a, (∀ k, usd a k = true ∨ usD a k = true) → a ≠ 41 ∧ a ≠ 82 ∧ a ≠ 39 ∧ a ≠ 55 → rI h2 a = rI h a := fun a ha q => funext fun k => ff a k (ha k) q
  have rl : rL h2 85 = rL h 85 := funext fun k => fl 85 k rfl
  have sv : ∀ j, 1 ≤ j → j ≤ 3 → shV h2 j = shV h j := by
    intro j j1 j3
    funext s
    unfold shV
    by_cases hs : s < 6
    · rw [if_pos hs, if_pos hs]
      refine ff _ _ (Or.inl ?_) ⟨by omega, by omega, by omega, by omega⟩
      unfold usd
      rw [decide_eq_true (p := 43 ≤ 43 + 2 * s ∧ _) ⟨by omega, by omega, by omega, j1, j3⟩, Bool.or_true]
    · rw [if_neg hs, if_neg hs]
  have se : shE h2 = shE h := by
    funext s k
    unfold shE
    by_cases hs : s < 6
    · rw [if_pos hs, if_pos hs]
      exact fl _ _ (by unfold usL; exact decide_eq_true (Or.inr ⟨by omega, by omega⟩))
    · rw [if_neg hs, if_neg hs]
  obtain ⟨iG, iP, iD, iT, iI, iC, iB, iS, iL0, iL1⟩ := I
  unfold Inv
  rw [f 1 1 (Or.inl rfl) (by decide), f 3 3 (Or.inl rfl) (by decide), f 0 3 (Or.inl rfl) (by decide), f 0 7 (Or.inl rfl) (by decide), f 25 1 (Or.inl rfl) (by decide), f 25 2 (Or.inl rfl) (by decide), f 25 3 (Or.inl rfl) (by decide), f 33 4 (Or.inl rfl) (by decide), f 33 5 (Or.inl rfl) (by decide), f 39 2 (Or.inl rfl) (by decide), f 10 3 (Or.inl rfl) (by decide), f 10 4 (Or.inl rfl) (by decide), f 14 3 (Or.inl rfl) (by decide), f 14 4 (Or.inl rfl) (by decide), f 55 1 (Or.inl rfl) (by decide), f 55 3 (Or.inl rfl) (by decide), f 55 11 (Or.inl rfl) (by decide), f 55 12 (Or.inl rfl) (by decide), f 55 18 (Or.inl rfl) (by decide), f 55 42 (Or.inl rfl) (by decide), f 55 43 (Or.inl rfl) (by decide), f 55 44 (Or.inl rfl) (by decide), f 55 45 (Or.inl rfl) (by decide), f 55 46 (Or.inl rfl) (by decide), f 55 48 (Or.inl rfl) (by decide), f 23 1 (Or.inr rfl) (by decide), f 23 2 (Or.inr rfl) (by decide), f 23 3 (Or.inr rfl) (by decide), f 55 7 (Or.inr rfl) (by decide), f 55 8 (Or.inr rfl) (by decide), f 55 9 (Or.inr rfl) (by decide), r 2 (fun _ => Or.inl rfl) (by decide), r 56 (fun _ => Or.inl rfl) (by decide), r 4 (fun _ => Or.inl rfl) (by decide), r 5 (fun _ => Or.inl rfl) (by decide), r 6 (fun _ => Or.inl rfl) (by decide), r 57 (fun _ => Or.inl rfl) (by decide), r 58 (fun _ => Or.inl rfl) (by decide), r 59 (fun _ => Or.inl rfl) (by decide), r 7 (fun _ => Or.inl rfl) (by decide), r 65 (fun _ => Or.inl rfl) (by decide), r 26 (fun _ => Or.inl rfl) (by decide), r 80 (fun _ => Or.inl rfl) (by decide), r 34 (fun _ => Or.inl rfl) (by decide), r 35 (fun _ => Or.inl rfl) (by decide), r 36 (fun _ => Or.inl rfl) (by decide), r 37 (fun _ => Or.inl rfl) (by decide), r 61 (fun _ => Or.inl rfl) (by decide), r 62 (fun _ => Or.inl rfl) (by decide), r 63 (fun _ => Or.inl rfl) (by decide), r 64 (fun _ => Or.inl rfl) (by decide), r 40 (fun _ => Or.inl rfl) (by decide), r 81 (fun _ => Or.inl rfl) (by decide), r 83 (fun _ => Or.inl rfl) (by decide), r 84 (fun _ => Or.inl rfl) (by decide), r 11 (fun _ => Or.inl rfl) (by decide), r 12 (fun _ => Or.inl rfl) (by decide), r 15 (fun _ => Or.inl rfl) (by decide), r 16 (fun _ => Or.inl rfl) (by decide), r 66 (fun _ => Or.inl rfl) (by decide), r 67 (fun _ => Or.inl rfl) (by decide), r 68 (fun _ => Or.inl rfl) (by decide), r 69 (fun _ => Or.inl rfl) (by decide), r 70 (fun _ => Or.inl rfl) (by decide), r 73 (fun _ => Or.inl rfl) (by decide), r 24 (fun _ => Or.inr rfl) (by decide), r 60 (fun _ => Or.inr rfl) (by decide), rl, sv 1 (by omega) (by omega), sv 2 (by omega) (by omega), sv 3 (by omega) (by omega), se]
  exact ⟨iG, iP, iD, iT, iI, iC, jB, iS, iL0, iL1⟩
-- act
def rfT (k w : Nat) : Int32 := ([1, 10, 11, 2, 20, 10, 11, 2, 1, 30, 11, 2, 1, 41, 40, 2, 20, 10, 11, 50, 1, 41, 60, 61, 70, 10, 11, 2, 81, 80, 11, 2] : List Int32).getD (4 * k + w) 0
theorem rfT_up : ∀ c, c < 8 → ∀ w, w < 4 → (ownL.getD (4 * c + w) 0 ≠ 0 ∧ rfT c w = ownL.getD (4 * c + w) 0) ∨ (ownL.getD (4 * c + w) 0 = 0 ∧ ∃ d, d < c ∧ abvL.getD c 0 = nI d ∧ rfT d w = rfT c w) := by decide
theorem c_runFrom {k w : Nat} (hk : k < 8) (hw : w < 4) (h : Hp) {Q : Int32 → Prop} (hQ : Q (rfT k w)) : wX0_runFrom (nI k) (nI w) h Q := by
  unfold wX0_runFrom
  refine iX0_runFrom_4 (I := fun x y => ∃ c j : Nat, c < 8 ∧ x = nI c ∧ y = nI j ∧ rfT c w = rfT k w ∧ c + j < 8) (μ := fun _ y => 8 - y.toNatClampNeg) ?_ (nI k) 0 ⟨k, 0, hk, rfl, rfl, rfl, by omega⟩
  rintro x y ⟨c, j, hc, rfl, rfl, hr, hj⟩ K hK
  unfold fX0_runFrom_4
  have em : nI c * (4 : Int32) + nI w = nI (4 * c + w) := by
    show nI c * nI 4 + nI w = _
    rw [pk_mul, nI_add, Nat.mul_comm]
  rw [if_neg (show ¬ (8 : Int32) ≤ nI j from nI_ge (b := 8) (by omega) (by omega)), e_isKind, if_neg (show ¬ (nI c < 0 ∨ ¬ nI c < 8) from fun q => q.elim (fun q => nI_pos (by omega) q) (fun q => q (nI_lt (b := 8) hc (by omega)))), if_neg (by decide), em, nI_clamp (show 4 * c + w < 2 ^ 31 by omega), nI_clamp (show c < 2 ^ 31 by omega)]
  have v32 : vp_in (nI (4 * c + w)) 32 := (vp_nI (by omega)).mpr (by omega)
  refine ⟨v32, ?_⟩
  rcases rfT_up c hc w hw with ⟨z1, z2⟩ | ⟨z1, d, z2, z3, z4⟩
  · rw [if_neg z1]
    rw [← hr, z2] at hQ
    exact ⟨v32, hQ⟩
  · rw [if_pos z1]
    simp only [forall_eq, nI_1]
    exact ⟨(vp_nI (by omega)).mpr hc, hK _ _ ⟨d, j + 1, by omega, z3, rfl, z4.trans hr, by omega⟩ (by rw [nI_clamp (by omega), nI_clamp (by omega)]; omega)⟩
def paT (id : Int32) : Nat := (abvL.getD ((id / (10 : Int32)) - (1 : Int32)).toNatClampNeg 0).toNatClampNeg
def rn (k : Nat) (b : Int32) : Nat → Int32 → Int32 → Option (Int32 × List Int32)
  | 0, _, _ => none
  | f + 1, id, x =>
    if id = 1 then some (x + b, [id])
    else if id = 2 then (rn k b f (rfT k 1) x).bind fun a => (rn k b f (rfT k 2) 1).bind fun c => some (a.1 - c.1, id :: (a.2 ++ c.2))
    else if id = 10 then (rn k b f (rfT k 0) x).bind fun a => some (a.1 * 2, id :: a.2)
    else if id = 11 then some (x ^^^ b, [id])
    else if id = 20 then (rn k b f (rfT (paT id) 0) x).bind fun a => some (a.1 + 3, id :: a.2)
    else if id = 30 then (rn k b f (rfT (paT id) 1) x).bind fun a => some (-a.1, id :: a.2)
    else if id = 40 then (rn k b f (rfT (paT id) 2) x).bind fun a => some (a.1 * 3, id :: a.2)
    else if id = 41 then (rn k b f (rfT (paT id) 1) (x + 1)).bind fun a => some (a.1, id :: a.2)
    else if id = 50 then (rn k b f (rfT (paT id) 3) x).bind fun a => some (a.1 ^^^ 5, id :: a.2)
    else if id = 60 then (rn k b f (rfT (paT id) 2) x).bind fun a => (rn k b f (rfT k 0) 2).bind fun c => some (a.1 - c.1, id :: (a.2 ++ c.2))
    else if id = 61 then (rn k b f (rfT (paT id) 3) x).bind fun a => some (a.1 + 1, id :: a.2)
    else if id = 70 then (rn k b f (rfT (paT id) 0) x).bind fun a => some (a.1 * 2, id :: a.2)
    else if id = 80 then (rn k b f (rfT (paT id) 1) x).bind fun a => (rn k b f (rfT k 2) 2).bind fun c => some (a.1 + c.1, id :: (a.2 ++ c.2))
    else if id = 81 then (rn k b f (rfT (paT id) 0) x).bind fun a => some (a.1 - 1, id :: a.2)
    else none
def WC (hb : Hp) (b : Int32) (k : Nat) (l : List Int32) (h : Hp) : Prop := gI h 39 3 = nI l.length ∧ gI h 39 4 = b ∧ gI h 39 5 = nI k ∧ (∀ i v, i < 24 → l[i]? = some v → gI h 41 i = v) ∧ (∀ a j, a ≠ 41 → (a = 39 → j ≠ 3 ∧ j ≠ 4 ∧ j ≠ 5) → gI h a j = gI hb a j) ∧ ∀ a j, gL h a j = gL hb a j
theorem c_begin {hb h : Hp} {b : Int32} {k : Nat} {l : List Int32} (W : WC hb b k l h) (hl : l.length < 500) (id : Int32) {Q : Hp → Prop} (hQ : ∀ h', WC hb b k (l ++ [id]) h' → Q h') : wX0_begin 39 id h Q := by
  obtain ⟨w1, w2, w3, w4, w5, w6⟩ := W
  unfold wX0_begin jX0_begin_19
  rw [w1]
  by_cases c : 24 ≤ l.length
  · rw [if_pos (show (24 : Int32) ≤ nI l.length from nI_le (a := 24) c (by omega))]
    simp only [forall_eq, w1, nI_1]
    refine hQ _ ⟨?_, ?_, ?_, fun i v hi hv => ?_, fun a j ha hj => ?_, fun a j => ?_⟩
    · simp only [forall_eq, gI_sI, gI_sL, gL_sI, gL_sL, gI_cpI, gL_cpI, gI_cpL, gL_cpL, Nat.reduceEqDiff, Nat.reduceAdd, Nat.reduceSub, cl0, cl1, cl12, cl39, and_false, false_and, and_true, true_and, and_self, ↓reduceIte]
      simp
    · simp only [forall_eq, gI_sI, gI_sL, gL_sI, gL_sL, gI_cpI, gL_cpI, gI_cpL, gL_cpL, Nat.reduceEqDiff, Nat.reduceAdd, Nat.reduceSub, cl0, cl1, cl12, cl39, and_false, false_and, and_true, true_and, and_self, ↓reduceIte]
      exact w2
    · simp only [forall_eq, gI_sI, gI_sL, gL_sI, gL_sL, gI_cpI, gL_cpI, gI_cpL, gL_cpL, Nat.reduceEqDiff, Nat.reduceAdd, Nat.reduceSub, cl0, cl1, cl12, cl39, and_false, false_and, and_true, true_and, and_self, ↓reduceIte]
      exact w3
    · simp only [forall_eq, gI_sI, gI_sL, gL_sI, gL_sL, gI_cpI, gL_cpI, gI_cpL, gL_cpL, Nat.reduceEqDiff, Nat.reduceAdd, Nat.reduceSub, cl0, cl1, cl12, cl39, and_false, false_and, and_true, true_and, and_self, ↓reduceIte]
      rw [List.getElem?_append_left (by omega)] at hv
      exact w4 i v hi hv
    · rw [gI_sI, if_neg (fun q => (hj q.1).1 q.2)]
      exact w5 a j ha hj
    · exact w6 a j
  · rw [if_neg (show ¬ (24 : Int32) ≤ nI l.length from nI_ge (b := 24) (by omega) (by omega)), rf_39_1, ln_41, nI_clamp (show l.length < 2 ^ 31 by omega)]
    simp only [forall_eq, forall_eq, gI_sI, gI_sL, gL_sI, gL_sL, gI_cpI, gL_cpI, gI_cpL, gL_cpL, Nat.reduceEqDiff, Nat.reduceAdd, Nat.reduceSub, cl0, cl1, cl12, cl39, and_false, false_and, and_true, true_and, and_self, ↓reduceIte, w1, nI_1]
    refine ⟨(vp_nI (by omega)).mpr (by omega), hQ _ ⟨?_, ?_, ?_, fun i v hi hv => ?_, fun a j ha hj => ?_, fun a j => ?_⟩⟩
    · simp only [forall_eq, gI_sI, gI_sL, gL_sI, gL_sL, gI_cpI, gL_cpI, gI_cpL, gL_cpL, Nat.reduceEqDiff, Nat.reduceAdd, Nat.reduceSub, cl0, cl1, cl12, cl39, and_false, false_and, and_true, true_and, and_self, ↓reduceIte]
      simp
    · simp only [forall_eq, gI_sI, gI_sL, gL_sI, gL_sL, gI_cpI, gL_cpI, gI_cpL, gL_cpL, Nat.reduceEqDiff, Nat.reduceAdd, Nat.reduceSub, cl0, cl1, cl12, cl39, and_false, false_and, and_true, true_and, and_self, ↓reduceIte]
      exact w2
    · simp only [forall_eq, gI_sI, gI_sL, gL_sI, gL_sL, gI_cpI, gL_cpI, gI_cpL, gL_cpL, Nat.reduceEqDiff, Nat.reduceAdd, Nat.reduceSub, cl0, cl1, cl12, cl39, and_false, false_and, and_true, true_and, and_self, ↓reduceIte]
      exact w3
    · simp only [forall_eq, gI_sI, gI_sL, gL_sI, gL_sL, gI_cpI, gL_cpI, gI_cpL, gL_cpL, Nat.reduceEqDiff, Nat.reduceAdd, Nat.reduceSub, cl0, cl1, cl12, cl39, and_false, false_and, and_true, true_and, and_self, ↓reduceIte]
      by_cases e : i = l.length
      · subst e
        rw [List.getElem?_append_right (Nat.le_refl _), Nat.sub_self] at hv
        rw [if_pos rfl]
        exact Option.some.inj hv
      · rw [if_neg e]
        by_cases e2 : i < l.length
        · rw [List.getElem?_append_left e2] at hv
          exact w4 i v hi hv
        · rw [List.getElem?_append_right (by omega), List.getElem?_eq_none (by simp; omega)] at hv
          exact absurd hv (by simp)
    · rw [gI_sI, if_neg (fun q => (hj q.1).1 q.2), gI_sI, if_neg (fun q => ha q.1)]
      exact w5 a j ha hj
    · exact w6 a j
def TRun (hb : Hp) (b : Int32) (k f : Nat) : Prop := ∀ (id x : Int32) (d : Nat) (l : List Int32) (h : Hp) (Q : Int32 → Hp → Prop) (v : Int32) (t : List Int32), rn k b f id x = some (v, t) → WC hb b k l h → d + f ≤ 39 → l.length + t.length ≤ 400 → (∀ h', WC hb b k (l ++ t) h' → Q v h') → (wG1 (2 * f + 1)).2.2 39 id x (nI d) h Q
theorem c_own {hb : Hp} {b : Int32} {k f : Nat} (T : TRun hb b k f) (hk : k < 8) {w : Nat} (hw : w < 4) {x : Int32} {d : Nat} {l : List Int32} {h : Hp} {Q : Int32 → Hp → Prop} {v : Int32} {t : List Int32} (hr : rn k b f (rfT k w) x = some (v, t)) (W : WC hb b k l h) (hd : d + f < 39) (hl : l.length + t.length ≤ 400) (hQ : ∀ h', WC hb b k (l ++ t) h' → Q v h') : (wG1 (2 * f + 2)).1 39 (nI w) x (nI d) h Q := by
  show bX0_own (wG1 (2 * f + 1)) 39 (nI w) x (nI d) h Q
  unfold bX0_own
  rw [W.2.2.1]
  apply c_runFrom hk hw
  rw [nI_1]
  exact T _ _ (d + 1) l h _ v t hr W (by omega) hl hQ
def idOK (id : Int32) : Prop := ∃ m pa : Nat, m < 8 ∧ pa < 8 ∧ id / (10 : Int32) - 1 = nI m ∧ abvL.getD m 0 = nI pa ∧ paT id = pa
theorem c_abv {hb : Hp} {b : Int32} {k f : Nat} (T : TRun hb b k f) {id : Int32} (hid : idOK id) {w : Nat} (hw : w < 4) {x : Int32} {d : Nat} {l : List Int32} {h : Hp} {Q : Int32 → Hp → Prop} {v : Int32} {t : List Int32} (hr : rn k b f (rfT (paT id) w) x = some (v, t)) (W : WC hb b k l h) (hd : d + f < 39) (hl : l.length + t.length ≤ 400) (hQ : ∀ h', WC hb b k (l ++ t) h' → Q v h') : (wG1 (2 * f + 2)).2.1 39 id (nI w) x (nI d) h Q := by
  show bX0_above (wG1 (2 * f + 1)) 39 id (nI w) x (nI d) h Q
  unfold bX0_above jX0_above_27
  obtain ⟨m, pa, hm, hp, e1, e2, e3⟩ := hid
  rw [e3] at hr
  simp only [forall_eq, e1, ↓e_isKind]
  rw [if_neg (show ¬ (nI m < 0 ∨ ¬ nI m < 8) from fun q => q.elim (fun q => nI_pos (by omega) q) (fun q => q (nI_lt (b := 8) hm (by omega)))), if_neg (by decide), nI_clamp (show m < 2 ^ 31 by omega), e2]
  refine ⟨(vp_nI (by omega)).mpr hm, ?_⟩
  apply c_runFrom hp hw
  rw [nI_1]
  exact T _ _ (d + 1) l h _ v t hr W (by omega) hl hQ
theorem bind_some {α β : Type} {o : Option α} {f : α → Option β} {r : β} (h : o.bind f = some r) : ∃ a, o = some a ∧ f a = some r := by
  cases o with
  | none => exact absurd h (by simp)
  | some a => exact ⟨a, rfl, h⟩
set_option maxRecDepth 20000 in
theorem c_run {hb : Hp} {b : Int32} {k : Nat} (hk : k < 8) : ∀ f, TRun hb b k f
  | 0 => by
    intro id x d l h Q v t hr
    exact absurd hr (by simp [rn])
  | f + 1 => by
    have T := c_run (hb := hb) (b := b) hk f
    intro id x d l h Q v t hr W hd hl hQ
    show bX0_run (wG1 (2 * f + 2)) 39 id x (nI d) h Q
    unfold bX0_run
    have lt : l.length < 500 := by omega
    have d40 : nI d ≤ (40 : Int32) := nI_le (b := 40) (by omega) (by omega)
    unfold rn at hr
    by_cases c1 : id = 1
    · rw [if_pos c1] at hr
      rw [if_neg (by rw [c1]; decide), if_pos d40]
      obtain ⟨e1, e2⟩ := Prod.mk.inj (Option.some.inj hr)
      subst e1 e2
      apply c_begin W lt
      intro h' W'
      rw [if_pos c1, W'.2.1]
      exact hQ _ W'
    · rw [if_neg c1] at hr
      by_cases c2 : id = 2
      · rw [if_pos c2] at hr
        rw [if_neg (by rw [c2]; decide), if_pos d40]
        obtain ⟨⟨av, at'⟩, q1, q0⟩ := bind_some hr
        obtain ⟨⟨bv, bt⟩, q3, q2⟩ := bind_some q0
        obtain ⟨e1, e2⟩ := Prod.mk.inj (Option.some.inj q2)
        subst e1 e2
        apply c_begin W lt
        intro h' W'
        rw [if_neg c1, if_pos c2]
        refine c_own T hk (w := 1) (by omega) q1 W' (by omega) (by simp only [List.length_append, List.length_cons, List.length_nil] at hl ⊢; omega) (fun h2 W2 => ?_)
        refine c_own T hk (w := 2) (by omega) q3 W2 (by omega) (by simp only [List.length_append, List.length_cons, List.length_nil] at hl ⊢; omega) (fun h3 W3 => ?_)
        rw [List.append_assoc, List.append_assoc] at W3
        exact hQ _ W3
      · rw [if_neg c2] at hr
        by_cases c10 : id = 10
        · rw [if_pos c10] at hr
          rw [if_neg (by rw [c10]; decide), if_pos d40]
          obtain ⟨⟨av, at'⟩, q1, q2⟩ := bind_some hr
          obtain ⟨e1, e2⟩ := Prod.mk.inj (Option.some.inj q2)
          subst e1 e2
          apply c_begin W lt
          intro h' W'
          rw [if_neg c1, if_neg c2, if_pos c10]
          refine c_own T hk (w := 0) (by omega) q1 W' (by omega) (by simp only [List.length_append, List.length_cons, List.length_nil] at hl ⊢; omega) (fun h'' W'' => ?_)
          rw [List.append_assoc] at W''
          exact hQ _ W''
        · rw [if_neg c10] at hr
          by_cases c11 : id = 11
          · rw [if_pos c11] at hr
            rw [if_neg (by rw [c11]; decide), if_pos d40]
            obtain ⟨e1, e2⟩ := Prod.mk.inj (Option.some.inj hr)
            subst e1 e2
            apply c_begin W lt
            intro h' W'
            rw [if_neg c1, if_neg c2, if_neg c10, if_pos c11, W'.2.1]
            exact hQ _ W'
          · rw [if_neg c11] at hr
            by_cases c20 : id = 20
            · rw [if_pos c20] at hr
              rw [if_neg (by rw [c20]; decide), if_pos d40]
              obtain ⟨⟨av, at'⟩, q1, q2⟩ := bind_some hr
              obtain ⟨e1, e2⟩ := Prod.mk.inj (Option.some.inj q2)
              subst e1 e2
              apply c_begin W lt
              intro h' W'
              rw [if_neg c1, if_neg c2, if_neg c10, if_neg c11, if_pos c20]
              refine c_abv T (by rw [c20]; exact ⟨1, 0, by decide, by decide, by decide, by decide, by decide⟩) (w := 0) (by omega) q1 W' (by omega) (by simp only [List.length_append, List.length_cons, List.length_nil] at hl ⊢; omega) (fun h'' W'' => ?_)
              rw [List.append_assoc] at W''
              exact hQ _ W''
            · rw [if_neg c20] at hr
              by_cases c30 : id = 30
              · rw [if_pos c30] at hr
                rw [if_neg (by rw [c30]; decide), if_pos d40]
                obtain ⟨⟨av, at'⟩, q1, q2⟩ := bind_some hr
                obtain ⟨e1, e2⟩ := Prod.mk.inj (Option.some.inj q2)
                subst e1 e2
                apply c_begin W lt
                intro h' W'
                rw [if_neg c1, if_neg c2, if_neg c10, if_neg c11, if_neg c20, if_pos c30]
                refine c_abv T (by rw [c30]; exact ⟨2, 0, by decide, by decide, by decide, by decide, by decide⟩) (w := 1) (by omega) q1 W' (by omega) (by simp only [List.length_append, List.length_cons, List.length_nil] at hl ⊢; omega) (fun h'' W'' => ?_)
                rw [List.append_assoc] at W''
                exact hQ _ W''
              · rw [if_neg c30] at hr
                by_cases c40 : id = 40
                · rw [if_pos c40] at hr
                  rw [if_neg (by rw [c40]; decide), if_pos d40]
                  obtain ⟨⟨av, at'⟩, q1, q2⟩ := bind_some hr
                  obtain ⟨e1, e2⟩ := Prod.mk.inj (Option.some.inj q2)
                  subst e1 e2
                  apply c_begin W lt
                  intro h' W'
                  rw [if_neg c1, if_neg c2, if_neg c10, if_neg c11, if_neg c20, if_neg c30, if_pos c40]
                  refine c_abv T (by rw [c40]; exact ⟨3, 2, by decide, by decide, by decide, by decide, by decide⟩) (w := 2) (by omega) q1 W' (by omega) (by simp only [List.length_append, List.length_cons, List.length_nil] at hl ⊢; omega) (fun h'' W'' => ?_)
                  rw [List.append_assoc] at W''
                  exact hQ _ W''
                · rw [if_neg c40] at hr
                  by_cases c41 : id = 41
                  · rw [if_pos c41] at hr
                    rw [if_neg (by rw [c41]; decide), if_pos d40]
                    obtain ⟨⟨av, at'⟩, q1, q2⟩ := bind_some hr
                    obtain ⟨e1, e2⟩ := Prod.mk.inj (Option.some.inj q2)
                    subst e1 e2
                    apply c_begin W lt
                    intro h' W'
                    rw [if_neg c1, if_neg c2, if_neg c10, if_neg c11, if_neg c20, if_neg c30, if_neg c40, if_pos c41]
                    refine c_abv T (by rw [c41]; exact ⟨3, 2, by decide, by decide, by decide, by decide, by decide⟩) (w := 1) (by omega) q1 W' (by omega) (by simp only [List.length_append, List.length_cons, List.length_nil] at hl ⊢; omega) (fun h'' W'' => ?_)
                    rw [List.append_assoc] at W''
                    exact hQ _ W''
                  · rw [if_neg c41] at hr
                    by_cases c50 : id = 50
                    · rw [if_pos c50] at hr
                      rw [if_neg (by rw [c50]; decide), if_pos d40]
                      obtain ⟨⟨av, at'⟩, q1, q2⟩ := bind_some hr
                      obtain ⟨e1, e2⟩ := Prod.mk.inj (Option.some.inj q2)
                      subst e1 e2
                      apply c_begin W lt
                      intro h' W'
                      rw [if_neg c1, if_neg c2, if_neg c10, if_neg c11, if_neg c20, if_neg c30, if_neg c40, if_neg c41, if_pos c50]
                      refine c_abv T (by rw [c50]; exact ⟨4, 1, by decide, by decide, by decide, by decide, by decide⟩) (w := 3) (by omega) q1 W' (by omega) (by simp only [List.length_append, List.length_cons, List.length_nil] at hl ⊢; omega) (fun h'' W'' => ?_)
                      rw [List.append_assoc] at W''
                      exact hQ _ W''
                    · rw [if_neg c50] at hr
                      by_cases c60 : id = 60
                      · rw [if_pos c60] at hr
                        rw [if_neg (by rw [c60]; decide), if_pos d40]
                        obtain ⟨⟨av, at'⟩, q1, q0⟩ := bind_some hr
                        obtain ⟨⟨bv, bt⟩, q3, q2⟩ := bind_some q0
                        obtain ⟨e1, e2⟩ := Prod.mk.inj (Option.some.inj q2)
                        subst e1 e2
                        apply c_begin W lt
                        intro h' W'
                        rw [if_neg c1, if_neg c2, if_neg c10, if_neg c11, if_neg c20, if_neg c30, if_neg c40, if_neg c41, if_neg c50, if_pos c60]
                        refine c_abv T (by rw [c60]; exact ⟨5, 3, by decide, by decide, by decide, by decide, by decide⟩) (w := 2) (by omega) q1 W' (by omega) (by simp only [List.length_append, List.length_cons, List.length_nil] at hl ⊢; omega) (fun h2 W2 => ?_)
                        refine c_own T hk (w := 0) (by omega) q3 W2 (by omega) (by simp only [List.length_append, List.length_cons, List.length_nil] at hl ⊢; omega) (fun h3 W3 => ?_)
                        rw [List.append_assoc, List.append_assoc] at W3
                        exact hQ _ W3
                      · rw [if_neg c60] at hr
                        by_cases c61 : id = 61
                        · rw [if_pos c61] at hr
                          rw [if_neg (by rw [c61]; decide), if_pos d40]
                          obtain ⟨⟨av, at'⟩, q1, q2⟩ := bind_some hr
                          obtain ⟨e1, e2⟩ := Prod.mk.inj (Option.some.inj q2)
                          subst e1 e2
                          apply c_begin W lt
                          intro h' W'
                          rw [if_neg c1, if_neg c2, if_neg c10, if_neg c11, if_neg c20, if_neg c30, if_neg c40, if_neg c41, if_neg c50, if_neg c60, if_pos c61]
                          refine c_abv T (by rw [c61]; exact ⟨5, 3, by decide, by decide, by decide, by decide, by decide⟩) (w := 3) (by omega) q1 W' (by omega) (by simp only [List.length_append, List.length_cons, List.length_nil] at hl ⊢; omega) (fun h'' W'' => ?_)
                          rw [List.append_assoc] at W''
                          exact hQ _ W''
                        · rw [if_neg c61] at hr
                          by_cases c70 : id = 70
                          · rw [if_pos c70] at hr
                            rw [if_neg (by rw [c70]; decide), if_pos d40]
                            obtain ⟨⟨av, at'⟩, q1, q2⟩ := bind_some hr
                            obtain ⟨e1, e2⟩ := Prod.mk.inj (Option.some.inj q2)
                            subst e1 e2
                            apply c_begin W lt
                            intro h' W'
                            rw [if_neg c1, if_neg c2, if_neg c10, if_neg c11, if_neg c20, if_neg c30, if_neg c40, if_neg c41, if_neg c50, if_neg c60, if_neg c61, if_pos c70]
                            refine c_abv T (by rw [c70]; exact ⟨6, 0, by decide, by decide, by decide, by decide, by decide⟩) (w := 0) (by omega) q1 W' (by omega) (by simp only [List.length_append, List.length_cons, List.length_nil] at hl ⊢; omega) (fun h'' W'' => ?_)
                            rw [List.append_assoc] at W''
                            exact hQ _ W''
                          · rw [if_neg c70] at hr
                            by_cases c80 : id = 80
                            · rw [if_pos c80] at hr
                              rw [if_neg (by rw [c80]; decide), if_pos d40]
                              obtain ⟨⟨av, at'⟩, q1, q0⟩ := bind_some hr
                              obtain ⟨⟨bv, bt⟩, q3, q2⟩ := bind_some q0
                              obtain ⟨e1, e2⟩ := Prod.mk.inj (Option.some.inj q2)
                              subst e1 e2
                              apply c_begin W lt
                              intro h' W'
                              rw [if_neg c1, if_neg c2, if_neg c10, if_neg c11, if_neg c20, if_neg c30, if_neg c40, if_neg c41, if_neg c50, if_neg c60, if_neg c61, if_neg c70, if_pos c80]
                              refine c_abv T (by rw [c80]; exact ⟨7, 6, by decide, by decide, by decide, by decide, by decide⟩) (w := 1) (by omega) q1 W' (by omega) (by simp only [List.length_append, List.length_cons, List.length_nil] at hl ⊢; omega) (fun h2 W2 => ?_)
                              refine c_own T hk (w := 2) (by omega) q3 W2 (by omega) (by simp only [List.length_append, List.length_cons, List.length_nil] at hl ⊢; omega) (fun h3 W3 => ?_)
                              rw [List.append_assoc, List.append_assoc] at W3
                              exact hQ _ W3
                            · rw [if_neg c80] at hr
                              by_cases c81 : id = 81
                              · rw [if_pos c81] at hr
                                rw [if_neg (by rw [c81]; decide), if_pos d40]
                                obtain ⟨⟨av, at'⟩, q1, q2⟩ := bind_some hr
                                obtain ⟨e1, e2⟩ := Prod.mk.inj (Option.some.inj q2)
                                subst e1 e2
                                apply c_begin W lt
                                intro h' W'
                                rw [if_neg c1, if_neg c2, if_neg c10, if_neg c11, if_neg c20, if_neg c30, if_neg c40, if_neg c41, if_neg c50, if_neg c60, if_neg c61, if_neg c70, if_neg c80, if_pos c81]
                                refine c_abv T (by rw [c81]; exact ⟨7, 6, by decide, by decide, by decide, by decide, by decide⟩) (w := 0) (by omega) q1 W' (by omega) (by simp only [List.length_append, List.length_cons, List.length_nil] at hl ⊢; omega) (fun h'' W'' => ?_)
                                rw [List.append_assoc] at W''
                                exact hQ _ W''
                              · rw [if_neg c81] at hr
                                exact absurd hr (by simp)
