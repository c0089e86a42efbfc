-- books
def rd (ok : Nat → Int32 → Option Int32) : Nat → Nat → Int32 → Int32 × Int32
  | 0, _, w => (-1, w)
  | f + 1, l, w => match ok l w with
    | none => (nI l, w)
    | some w' => rd ok f (l + 1) w'
def okB (g : Nat) (gr : Nat → Int32) (e : Nat → Int64) (z : Nat) (M x3 : Int32) (l : Nat) (w : Int32) : Option Int32 :=
  if 2 * l + 1 < z then
    (let a := (e (2 * l)).toInt32
     let v := if nI l = x3 then -(e (2 * l + 1)).toInt32 else (e (2 * l + 1)).toInt32
     if a < 0 ∨ ¬ a < nI g then none else if ab v = gr a.toNatClampNeg then (if w - v < 0 then none else if w - v ≤ M then some (w - v) else none) else none)
  else none
theorem okB_some {g : Nat} {gr : Nat → Int32} {e : Nat → Int64} {z : Nat} {M x3 : Int32} {l : Nat} {w w' : Int32} (h : okB g gr e z M x3 l w = some w') : ¬ w' < 0 ∧ w' ≤ M := by
  unfold okB at h
  simp only at h
  repeat' split at h
  all_goals first
    | (have h := Option.some.inj h; subst h; exact ⟨by assumption, by assumption⟩)
    | exact absurd h (by simp)
theorem rd_cases {g : Nat} {gr : Nat → Int32} {e : Nat → Int64} {z : Nat} {M x3 : Int32} : ∀ (f l : Nat) (w : Int32), ¬ w < 0 → w ≤ M → f + l ≤ 30 → (∃ k, k < 31 ∧ (rd (okB g gr e z M x3) f l w).1 = nI k) ∨ ((rd (okB g gr e z M x3) f l w).1 = -1 ∧ ¬ (rd (okB g gr e z M x3) f l w).2 < 0)
  | 0, l, w, h1, _, _ => Or.inr ⟨rfl, h1⟩
  | f + 1, l, w, h1, h2, h3 => by
    unfold rd
    cases ho : okB g gr e z M x3 l w with
    | none => exact Or.inl ⟨l, by omega, rfl⟩
    | some w' => exact rd_cases f (l + 1) w' (okB_some ho).1 (okB_some ho).2 (by omega)
theorem rd_s {ok : Nat → Int32 → Option Int32} {l L : Nat} {w w' : Int32} (h : l < L) (e : ok l w = some w') : rd ok (L - l) l w = rd ok (L - (l + 1)) (l + 1) w' := by
  rw [show L - l = (L - (l + 1)) + 1 by omega]
  simp only [rd, e]
theorem rd_n {ok : Nat → Int32 → Option Int32} {l L : Nat} {w : Int32} (h : l < L) (e : ok l w = none) : rd ok (L - l) l w = (nI l, w) := by
  rw [show L - l = (L - (l + 1)) + 1 by omega]
  simp only [rd, e]
theorem rd_0 {ok : Nat → Int32 → Option Int32} {l L : Nat} {w : Int32} (h : L ≤ l) : rd ok (L - l) l w = (-1, w) := by
  rw [show L - l = 0 by omega]
  rfl
def vOf (r : Int32 × Int32) : Int32 := if r.1 = -1 then r.2 else -1 - r.1
theorem c_line {h : Hp} {g l : Nat} (hg : g ≤ 3) (eg : gI h 1 1 = nI g) {a v x M x3 : Int32} {b1 : Nat} {K : Int32 → Int32 → Prop} {Q : Int32 → Prop}
    (hno : (if a < 0 ∨ ¬ a < nI g then none else if ab v = rI h 2 a.toNatClampNeg then (if x - v < 0 then none else if x - v ≤ M then some (x - v) else none) else none) = (none : Option Int32) → Q (-1 - nI l))
    (hye : ∀ w', (if a < 0 ∨ ¬ a < nI g then none else if ab v = rI h 2 a.toNatClampNeg then (if x - v < 0 then none else if x - v ≤ M then some (x - v) else none) else none) = some w' → K w' (nI (2 * l + 2))) :
    jX11_readBook_71 0 b1 M x3 x (nI (2 * l)) (nI l) a v h K Q := by
  unfold jX11_readBook_71
  rw [rf_0_0, e_gHas, eg]
  rcases ix a g (by omega) with c | ⟨i, hi, rfl, c⟩
  · rw [if_pos c, if_pos rfl]
    exact hno (by rw [if_pos c])
  · rw [if_neg c] at hno
    simp only [if_neg c] at hye
    rw [if_neg c, if_neg (by decide)]
    unfold wX4_numberOf
    rw [e_gHas, eg, if_neg c, if_neg (by decide), rf_1_0, ln_2]
    refine ⟨(vp_nI (by omega)).mpr (by omega), ?_⟩
    rw [nI_clamp (by omega)] at hno ⊢
    simp only [nI_clamp (show i < 2 ^ 31 by omega)] at hye
    by_cases d : ab v = gI h 2 i
    · rw [if_pos d]
      have d' : ab v = rI h 2 i := d
      rw [if_pos d'] at hno
      simp only [if_pos d'] at hye
      intro w hw
      subst hw
      by_cases e : x - v < 0
      · rw [if_pos e]
        exact hno (by rw [if_pos e])
      · rw [if_neg e] at hno ⊢
        simp only [if_neg e] at hye
        by_cases f : x - v ≤ M
        · rw [if_pos f]
          simp only [if_pos f] at hye
          intro w2 hw2
          subst hw2
          rw [show nI (2 * l) + 2 = nI (2 * l + 2) from nI_add _ _]
          exact hye _ rfl
        · rw [if_neg f]
          exact hno (by rw [if_neg f])
    · rw [if_neg d]
      exact hno (by rw [if_neg (show ¬ ab v = rI h 2 i from d)])
theorem c_read {h : Hp} {s z g : Nat} (hs : s < 6) (hz : z ≤ 60) (hg : g ≤ 3) (ez : gI h (43 + 2 * s) 3 = nI z) (eg : gI h 1 1 = nI g) (M x3 : Int32) {Q : Int32 → Prop} (hQ : Q (vOf (rd (okB g (rI h 2) (shE h s) z M x3) ((z + 1) / 2) 0 M))) : wX11_readBook 0 (43 + 2 * s) M x3 h Q := by
  unfold wX11_readBook
  refine iX11_readBook_6 (I := fun x y => ∃ l : Nat, y = nI (2 * l) ∧ l ≤ (z + 1) / 2 ∧ rd (okB g (rI h 2) (shE h s) z M x3) ((z + 1) / 2 - l) l x = rd (okB g (rI h 2) (shE h s) z M x3) ((z + 1) / 2) 0 M) (μ := fun _ y => 61 - y.toNatClampNeg) ?_ M 0 ⟨0, rfl, by omega, rfl⟩
  rintro x y ⟨l, rfl, hl, hr⟩ K hK
  unfold fX11_readBook_6
  rw [ez]
  by_cases c : z ≤ 2 * l
  · rw [if_pos (nI_le c (by omega))]
    rw [rd_0 (by omega)] at hr
    rw [← hr] at hQ
    exact hQ
  · rw [if_neg (nI_ge (by omega) (by omega))]
    have e2 : nI (2 * l) / (2 : Int32) = nI l := by
      show nI (2 * l) / nI 2 = nI l
      rw [pk_div (by omega) (by omega) (by omega)]
      congr 1; omega
    simp only [forall_eq, e2, nI_1]
    have hno : okB g (rI h 2) (shE h s) z M x3 l x = none → Q (-1 - nI l) := by
      intro ho
      rw [rd_n (by omega) ho] at hr
      rw [← hr] at hQ
      unfold vOf at hQ
      rw [if_neg (nm1 (by omega))] at hQ
      exact hQ
    have hye : ∀ w', okB g (rI h 2) (shE h s) z M x3 l x = some w' → K w' (nI (2 * l + 2)) := by
      intro w' ho
      rw [rd_s (by omega) ho] at hr
      exact hK w' _ ⟨l + 1, by congr 1, by omega, hr⟩ (by rw [nI_clamp (by omega), nI_clamp (by omega)]; omega)
    by_cases d : 2 * l + 1 < z
    · rw [if_pos (nI_lt d (by omega))]
      rw [e_at (s := s) (z := z) (i := 2 * l) _ _ h _ hs rfl ez hz (by omega) rfl]
      rw [e_at (s := s) (z := z) (i := 2 * l + 1) _ _ h _ hs rfl ez hz (by omega) rfl]
      unfold okB at hno hye
      simp only [if_pos d] at hno hye
      by_cases hx : nI l = x3
      · simp only [if_pos hx] at hno hye ⊢
        exact c_line hg eg hno hye
      · simp only [if_neg hx] at hno hye ⊢
        exact c_line hg eg hno hye
    · rw [if_neg (nI_nlt (by omega) (by omega))]
      exact hno (by unfold okB; rw [if_neg d])
theorem ab_iff {v : Int32} {m : Nat} (h1 : 1 ≤ m) (h2 : m ≤ 6) : ab v = nI m ↔ v = nI m ∨ -v = nI m := by
  have hv := i32b v
  have e0 : (nI m).toInt = m := nI_toInt (by omega)
  unfold ab
  by_cases c : 0 ≤ v
  · rw [if_pos c]
    have c' : 0 ≤ v.toInt := Int32.le_iff_toInt_le.mp c
    constructor
    · exact Or.inl
    · rintro (q | q)
      · exact q
      · exfalso
        have := congrArg Int32.toInt q
        rw [Int32.toInt_neg, e0] at this
        have e2 : (-v.toInt).bmod (2 ^ 32) = -v.toInt := Int.bmod_eq_of_le (by omega) (by omega)
        omega
  · rw [if_neg c, Int32.zero_sub]
    have c' : ¬ 0 ≤ v.toInt := fun q => c (Int32.le_iff_toInt_le.mpr q)
    constructor
    · exact Or.inr
    · rintro (q | q)
      · exfalso
        have := congrArg Int32.toInt q
        omega
      · exact q
theorem m_line {h : Hp} {g l : Nat} {gr : Nat → Int32} (hg : g ≤ 3) (eg : gI h 55 1 = nI g) (hgr : ∀ k, k < g → rI h 56 k = gr k ∧ ∃ n : Nat, gr k = nI n ∧ 1 ≤ n ∧ n ≤ 6) {a v x1 M x3 : Int32} {K Q : Int32 → Hp → Prop}
    (hno : (if a < 0 ∨ ¬ a < nI g then none else if ab v = gr a.toNatClampNeg then (if gI h 55 41 - v < 0 then none else if gI h 55 41 - v ≤ M then some (gI h 55 41 - v) else none) else none) = (none : Option Int32) → Q (nI l) h)
    (hye : ∀ w', (if a < 0 ∨ ¬ a < nI g then none else if ab v = gr a.toNatClampNeg then (if gI h 55 41 - v < 0 then none else if gI h 55 41 - v ≤ M then some (gI h 55 41 - v) else none) else none) = some w' → K (nI (l + 1)) (sI h 55 41 w')) :
    jX12_wrongIn_86 55 x1 M x3 (nI l) a v h K Q := by
  unfold jX12_wrongIn_86
  rw [e_isGate a eg (by omega)]
  rcases ix a g (by omega) with c | ⟨i, hi, rfl, c⟩
  · rw [if_pos c, if_pos rfl]
    exact hno (by rw [if_pos c])
  · rw [if_neg c] at hno
    simp only [if_neg c] at hye
    rw [if_neg c, if_neg (by decide)]
    obtain ⟨y1, n, y2, y3, y4⟩ := hgr i hi
    have y1 : gI h 56 i = gr i := y1
    rw [nI_clamp (by omega)] at hno
    simp only [nI_clamp (show i < 2 ^ 31 by omega)] at hye
    simp only [rf_55_2, ln_56, nI_clamp (show i < 2 ^ 31 by omega), y1, y2] at hno hye ⊢
    have vi : vp_in (nI i) 3 := (vp_nI (by omega)).mpr (by omega)
    have key : ab v = nI n → jX12_wrongIn_120 55 x1 M x3 (nI l) v h K Q := by
      intro d
      rw [if_pos d] at hno
      simp only [if_pos d] at hye
      unfold jX12_wrongIn_120
      rw [e_in]
      by_cases e : gI h 55 41 - v < 0
      · rw [if_pos (Or.inl e), if_pos rfl]
        exact hno (by rw [if_pos e])
      · rw [if_neg e] at hno
        simp only [if_neg e] at hye
        by_cases f : gI h 55 41 - v ≤ M
        · rw [if_neg (show ¬ (gI h 55 41 - v < 0 ∨ M < gI h 55 41 - v) from fun q => q.elim e (fun q => Int32.not_lt.mpr f q)), if_neg (by decide)]
          simp only [if_pos f] at hye
          intro h2 e2 w2 hw2
          subst e2 hw2
          rw [nI_1]
          exact hye _ rfl
        · rw [if_pos (Or.inr (Int32.not_le.mp f)), if_pos rfl]
          exact hno (by rw [if_neg f])
    refine ⟨vi, ?_⟩
    by_cases d1 : v = nI n
    · rw [if_pos d1]
      exact key ((ab_iff y3 y4).mpr (Or.inl d1))
    · rw [if_neg d1]
      refine ⟨vi, ?_⟩
      by_cases d2 : -v = nI n
      · rw [if_pos d2]
        exact key ((ab_iff y3 y4).mpr (Or.inr d2))
      · rw [if_neg d2]
        exact hno (by rw [if_neg (fun q => ((ab_iff y3 y4).mp q).elim d1 d2)])
theorem m_wrong {h : Hp} {s z g : Nat} {gr : Nat → Int32} {e : Nat → Int64} (hs : s < 6) (hz : z ≤ 60) (hg : g ≤ 3) (ez : gI h 84 s = nI z) (he : ∀ k, k < z → gL h 85 (60 * s + k) = e k) (eg : gI h 55 1 = nI g) (hgr : ∀ k, k < g → rI h 56 k = gr k ∧ ∃ n : Nat, gr k = nI n ∧ 1 ≤ n ∧ n ≤ 6) (M x3 : Int32) {Q : Int32 → Hp → Prop}
    (hQ : ∀ h2 : Hp, (∀ a k, (a = 55 → k ≠ 41) → gI h2 a k = gI h a k) → (∀ a k, gL h2 a k = gL h a k) → gI h2 55 41 = (rd (okB g gr e z M x3) ((z + 1) / 2) 0 M).2 → Q (rd (okB g gr e z M x3) ((z + 1) / 2) 0 M).1 h2) : wX12_wrongIn 55 (nI s) M x3 h Q := by
  unfold wX12_wrongIn
  intro h0 e0
  subst e0
  refine iX12_wrongIn_8 (I := fun x h2 => ∃ l : Nat, x = nI l ∧ l ≤ (z + 1) / 2 ∧ (∀ a k, (a = 55 → k ≠ 41) → gI h2 a k = gI h a k) ∧ (∀ a k, gL h2 a k = gL h a k) ∧ rd (okB g gr e z M x3) ((z + 1) / 2 - l) l (gI h2 55 41) = rd (okB g gr e z M x3) ((z + 1) / 2) 0 M) (μ := fun x _ => 31 - x.toNatClampNeg) ?_ 0 _ ⟨0, rfl, by omega, fun a k q => by rw [gI_sI, if_neg (fun w => q w.1 w.2)], fun _ _ => rfl, by rw [gI_sI, if_pos ⟨rfl, rfl⟩]; rfl⟩
  rintro x h2 ⟨l, rfl, hl, f1, f2, hr⟩ K hK
  unfold fX12_wrongIn_8
  have z2 : gI h2 84 s = nI z := (f1 84 s (fun q => absurd q (by decide))).trans ez
  have vs : vp_in (nI s) 6 := (vp_nI (by omega)).mpr hs
  have e2 : (2 : Int32) * nI l = nI (2 * l) := by simp (disch := omega) only [lit, nI_ltI, nI_leI, nI_eq, nI_clamp, nI_add, vp_nI, nI_ne_neg, neg_ne_nI, pk_sub, pk_mul, pk_div, Nat.reduceAdd, Nat.reduceMul, Nat.reducePow, e_mn, e_mx, e_rm, lt_t, lt_f, le_t, le_f, eq_f, eq_t, ↓reduceIte, true_and, and_true, and_false, false_and, and_self, or_true, or_false, true_or, false_or, not_true, not_false_iff]
  have e60 : (60 : Int32) * nI s = nI (60 * s) := by simp (disch := omega) only [lit, nI_ltI, nI_leI, nI_eq, nI_clamp, nI_add, vp_nI, nI_ne_neg, neg_ne_nI, pk_sub, pk_mul, pk_div, Nat.reduceAdd, Nat.reduceMul, Nat.reducePow, e_mn, e_mx, e_rm, lt_t, lt_f, le_t, le_f, eq_f, eq_t, ↓reduceIte, true_and, and_true, and_false, false_and, and_self, or_true, or_false, true_or, false_or, not_true, not_false_iff]
  simp only [rf_55_53, rf_55_54, ln_84, ln_85, nI_clamp (show s < 2 ^ 31 by omega), z2, e2, e60, nI_add, nI_1]
  refine ⟨vs, ?_⟩
  have hno : okB g gr e z M x3 l (gI h2 55 41) = none → l < (z + 1) / 2 → Q (nI l) h2 := by
    intro ho hlt
    rw [rd_n hlt ho] at hr
    rw [← hr] at hQ
    exact hQ h2 f1 f2 rfl
  by_cases c : z ≤ 2 * l
  · rw [if_pos (nI_le c (by omega))]
    rw [rd_0 (by omega)] at hr
    rw [← hr] at hQ
    exact hQ h2 f1 f2 rfl
  · rw [if_neg (nI_ge (by omega) (by omega))]
    refine ⟨vs, ?_⟩
    have hye : ∀ w', okB g gr e z M x3 l (gI h2 55 41) = some w' → K (nI (l + 1)) (sI h2 55 41 w') := by
      intro w' ho
      rw [rd_s (by omega) ho] at hr
      refine hK _ _ ⟨l + 1, rfl, by omega, fun a k q => by rw [gI_sI, if_neg (fun w => q w.1 w.2)]; exact f1 a k q, f2, ?_⟩ (by rw [nI_clamp (by omega), nI_clamp (by omega)]; omega)
      rw [gI_sI, if_pos ⟨rfl, rfl⟩]
      exact hr
    have hno := fun ho => hno ho (by omega)
    by_cases d : 2 * l + 1 < z
    · rw [if_pos (nI_lt d (by omega))]
      simp only [nI_clamp (show 60 * s + 2 * l < 2 ^ 31 by omega), nI_clamp (show 60 * s + 2 * l + 1 < 2 ^ 31 by omega), forall_eq, f2, he (2 * l) (by omega), show gL h 85 (60 * s + 2 * l + 1) = e (2 * l + 1) from he (2 * l + 1) d]
      refine ⟨(vp_nI (by omega)).mpr (by omega), (vp_nI (by omega)).mpr (by omega), ?_⟩
      unfold okB at hno hye
      simp only [if_pos d] at hno hye
      have hgr2 : ∀ k, k < g → rI h2 56 k = gr k ∧ ∃ n : Nat, gr k = nI n ∧ 1 ≤ n ∧ n ≤ 6 := fun k hk => by
        rw [show rI h2 56 k = rI h 56 k from f1 56 k (fun q => absurd q (by decide))]
        exact hgr k hk
      have eg2 : gI h2 55 1 = nI g := (f1 55 1 (by decide)).trans eg
      by_cases hx : nI l = x3
      · simp only [if_pos hx] at hno hye ⊢
        exact m_line hg eg2 hgr2 hno hye
      · simp only [if_neg hx] at hno hye ⊢
        exact m_line hg eg2 hgr2 hno hye
    · rw [if_neg (nI_nlt (by omega) (by omega))]
      exact hno (by unfold okB; rw [if_neg d])
theorem book_ok {h : Hp} (I : Inv h) {s : Nat} (m1 : s < 6) : ∃ w : Int32, (∀ Q : Int32 → Prop, Q w → wX12_bookFault 55 (nI s) h Q) ∧ (∀ (M : Nat) (Q : Int32 → Prop), M ≤ 40 → Q w → wX11_refusalOfBook 0 (nI s) (nI M) h Q) ∧
    ((w = 0 ∧ ∃ z : Nat, z ≤ 60 ∧ shV h 3 s = nI z ∧ gI h 84 s = nI z ∧ ∀ k, k < z → gL h 85 (60 * s + k) = shE h s k) ∨ (w = -11 ∨ w = -12)) := by
  obtain ⟨iG, iP, iD, iT, iI, iC, iB, iS, iL0, iL1⟩ := id I
  obtain ⟨n, hn, e1, hs⟩ := id iS
  have c : ¬ (nI s < 0 ∨ ¬ nI s < 6) := fun q => q.elim (fun q => nI_pos (by omega) q) (fun q => q (nI_lt (b := 6) m1 (by omega)))
  have vs : vp_in (nI s) 6 := (vp_nI (by omega)).mpr m1
  have open_c : ∀ (M : Nat) (Q : Int32 → Prop), M ≤ 40 → Q (if shV h 2 s = 0 then 0 else if shV h 2 s = -1 ∧ shV h 1 s = -1 then -11 else -12) → wX11_refusalOfBook 0 (nI s) (nI M) h Q := by
    intro M Q hM hQ
    unfold wX11_refusalOfBook
    simp only [↓e_isShelf, if_neg c, ne10, ↓reduceIte, rf_0_13, nI_clamp (show s < 2 ^ 31 by omega), sh_id1 m1, ↓e_isBook, shV_at m1, ↓e_isEmpty]
    rw [if_neg (nI_pos (show M < 2 ^ 31 by omega)), if_pos (show nI M ≤ 40 from nI_le (b := 40) hM (by omega))]
    refine ⟨vs, ?_⟩
    by_cases d : shV h 2 s = 0
    · rw [if_pos d] at hQ ⊢
      simp only [ne10, ↓reduceIte]
      exact hQ
    · rw [if_neg d] at hQ ⊢
      simp only [↓reduceIte]
      refine ⟨vs, ?_⟩
      by_cases d1 : shV h 2 s = -1
      · by_cases d2 : shV h 1 s = -1
        · simp only [d1, d2, and_self, ne10, ↓reduceIte] at hQ ⊢
          exact hQ
        · simp only [d1, d2, and_false, ne10, ↓reduceIte] at hQ ⊢
          exact hQ
      · simp only [d1, false_and, ne10, ↓reduceIte] at hQ ⊢
        exact hQ
  have open_m : ∀ Q : Int32 → Prop, Q (if gI h 83 s = -1 then -11 else if gI h 83 s = -2 then 0 else -12) → wX12_bookFault 55 (nI s) h Q := by
    intro Q hQ
    unfold wX12_bookFault
    simp only [rf_55_52, ln_83, nI_clamp (show s < 2 ^ 31 by omega)]
    refine ⟨vs, ?_⟩
    by_cases d : gI h 83 s = -1
    · rw [if_pos d] at hQ ⊢
      exact hQ
    · rw [if_neg d] at hQ ⊢
      refine ⟨vs, ?_⟩
      by_cases d2 : gI h 83 s = -2
      · rw [if_pos d2] at hQ ⊢
        exact hQ
      · rw [if_neg d2] at hQ ⊢
        exact hQ
  rcases hs s m1 with ⟨z1, z2, z3⟩ | ⟨z1, i, z2, z3, z4⟩ | ⟨z1, q, z, z2, z3, z4, z5, z6, z7, z8, z9⟩
  · have z3 : gI h 83 s = -1 := z3
    refine ⟨-11, fun Q hQ => open_m Q ?_, fun M Q hM hQ => open_c M Q hM ?_, Or.inr (Or.inl rfl)⟩
    · rw [if_pos z3]; exact hQ
    · rw [z1, z2, if_neg (by decide), if_pos ⟨rfl, rfl⟩]; exact hQ
  · have z4 : gI h 83 s = nI i := z4
    refine ⟨-12, fun Q hQ => open_m Q ?_, fun M Q hM hQ => open_c M Q hM ?_, Or.inr (Or.inr rfl)⟩
    · rw [z4, if_neg (nm1 (by omega)), if_neg (show ¬ nI i = -2 from fun w => (nI_ne_neg (n := i) (m := 2) (by omega) (by omega) (by omega)).mp w)]; exact hQ
    · rw [z1, z3, if_neg (by decide), if_neg (fun w => nm1 (show i < 2 ^ 31 by omega) w.2)]; exact hQ
  · have z5 : gI h 83 s = -nI (q + 2) := z5
    have z7 : gI h 84 s = nI z := z7
    by_cases q0 : q = 0
    · subst q0
      have z5 : gI h 83 s = -2 := z5
      refine ⟨0, fun Q hQ => open_m Q ?_, fun M Q hM hQ => open_c M Q hM ?_, Or.inl ⟨rfl, z, z3, z6, z7, z8⟩⟩
      · rw [z5, if_neg (by decide), if_pos rfl]; exact hQ
      · rw [z4, if_pos (show nI 0 = 0 from rfl)]; exact hQ
    · refine ⟨-12, fun Q hQ => open_m Q ?_, fun M Q hM hQ => open_c M Q hM ?_, Or.inr (Or.inr rfl)⟩
      · rw [z5, if_neg (show ¬ -nI (q + 2) = -1 from ngne (n := q + 2) (m := 1) (by omega) (by omega) (by omega)), if_neg (show ¬ -nI (q + 2) = -2 from ngne (n := q + 2) (m := 2) (by omega) (by omega) (by omega))]; exact hQ
      · rw [z4, if_neg (nI_ne0 (by omega) (by omega)), if_neg (fun w => nm1 (show q < 2 ^ 31 by omega) w.1)]; exact hQ
theorem c_refB {h : Hp} {x1 x2 : Int32} (h0 : (x1 < 0 ∨ ¬ x1 < 6) ∨ x2 < 0 ∨ 40 < x2) (Q : Int32 → Prop) (hQ : Q (-1)) : wX11_refusalOfBook 0 x1 x2 h Q := by
  unfold wX11_refusalOfBook
  rw [e_isShelf]
  by_cases c : x1 < 0 ∨ ¬ x1 < 6
  · rw [if_pos c, if_pos rfl]; exact hQ
  · rw [if_neg c, if_neg (by decide)]
    by_cases d : x2 < 0
    · rw [if_pos d]; exact hQ
    · have e : 40 < x2 := (h0.resolve_left c).resolve_left d
      rw [if_neg d, if_neg (Int32.not_le.mpr e)]; exact hQ
theorem neg1_sub {k : Nat} (h : k < 31) : (-1 : Int32) - nI k < 0 ∧ (-1 : Int32) - (-1 - nI k) = nI k := by
  have : ∀ k, k < 31 → (-1 : Int32) - nI k < 0 ∧ (-1 : Int32) - (-1 - nI k) = nI k := by decide
  exact this k h
theorem fault_neg {w : Int32} (h : w = -11 ∨ w = -12) : w ≠ 0 ∧ ¬ 0 ≤ w := by
  rcases h with rfl | rfl <;> decide
/-- what both sides read in a book -/
theorem both_read {h : Hp} (I : Inv h) {s z : Nat} (m1 : s < 6) (hz : z ≤ 60) (e3 : shV h 3 s = nI z) (e4 : gI h 84 s = nI z) (he : ∀ k, k < z → gL h 85 (60 * s + k) = shE h s k) (M : Nat) (hM : M ≤ 40) (x3 : Int32) : ∃ v w : Int32, ((∃ k, k < 31 ∧ v = nI k) ∨ (v = -1 ∧ ¬ w < 0)) ∧ (∀ Q : Int32 → Prop, Q (vOf (v, w)) → wX11_readBook 0 (43 + 2 * s) (nI M) x3 h Q) ∧
    (∀ h' : Hp, (∀ a k, (a = 55 → k ≠ 41) → gI h' a k = gI h a k) → (∀ a k, gL h' a k = gL h a k) → ∀ Q : Int32 → Hp → Prop, (∀ h2 : Hp, (∀ a k, (a = 55 → k ≠ 41) → gI h2 a k = gI h a k) → (∀ a k, gL h2 a k = gL h a k) → gI h2 55 41 = w → Q v h2) → wX12_wrongIn 55 (nI s) (nI M) x3 h' Q) := by
  obtain ⟨g, hg, g1, g2, hr⟩ := I.1
  refine ⟨(rd (okB g (rI h 2) (shE h s) z (nI M) x3) ((z + 1) / 2) 0 (nI M)).1, (rd (okB g (rI h 2) (shE h s) z (nI M) x3) ((z + 1) / 2) 0 (nI M)).2, rd_cases _ _ _ (nI_pos (by omega)) Int32.le_rfl (by omega), fun Q hQ => c_read m1 hz hg (by rw [shV_at m1]; exact e3) g1 _ _ hQ, fun h' f1 f2 Q hQ => m_wrong (g := g) (gr := rI h 2) (e := shE h s) m1 hz hg ((f1 84 s (fun q => absurd q (by decide))).trans e4) (fun k hk => (f2 85 _).trans (he k hk)) ((f1 55 1 (by decide)).trans g2) (fun k hk => ?_) _ _ (fun h2 k1 k2 k3 => hQ h2 (fun a k q => (k1 a k q).trans (f1 a k q)) (fun a k => (k2 a k).trans (f2 a k)) k3)⟩
  rw [show rI h' 56 k = rI h 56 k from f1 56 k (fun q => absurd q (by decide))]
  exact hr k hk
theorem Inv.f41 {h h2 : Hp} (I : Inv h) (f1 : ∀ a k, (a = 55 → k ≠ 41) → gI h2 a k = gI h a k) (f2 : ∀ a k, gL h2 a k = gL h a k) : Inv h2 :=
  I.same (fun a k q => f1 a k (by rintro rfl rfl; exact absurd q (by decide))) (fun a k _ => f2 a k)
theorem m_judge0 {h : Hp} {x1 x2 : Int32} (h0 : (x1 < 0 ∨ ¬ x1 < 6) ∨ (x2 < 0 ∨ 40 < x2)) (Q : Int32 → Hp → Prop) (hQ : Q (-1) h) : wX12_judge 55 x1 x2 h Q ∧ wX12_within 55 x1 x2 h Q := by
  unfold wX12_judge wX12_within
  simp only [↓e_mShelf, ↓e_in]
  by_cases c : x1 < 0 ∨ ¬ x1 < 6
  · simp only [if_pos c, ↓reduceIte]
    exact ⟨hQ, hQ⟩
  · simp only [if_neg c, ne10, ↓reduceIte, if_pos (h0.resolve_left c)]
    exact ⟨hQ, hQ⟩
set_option maxRecDepth 20000 in
set_option maxHeartbeats 1000000 in
theorem ok_judge {h : Hp} (I : Inv h) (x1 : Int32) (x2 : Int32) {A1 : Prop} (b1 : A1) {A2 : Prop} (b2 : A2) {R : Hp → Prop} {Q0 : Prop} (hR : ∀ h', Inv h' → R h') : wX11_judge 0 x1 x2 h (fun v => A1 ∧ (A2 ∧ (wX12_judge 55 x1 x2 h (fun v' h2 => if v = v' then R h2 else Q0)))) := by
  unfold wX11_judge
  rcases ix x1 6 (by omega) with c | ⟨s, m1, rfl, c⟩
  · have c : x1 < 0 ∨ ¬ x1 < 6 := c
    apply c_refB (Or.inl c)
    rw [if_neg (by decide)]
    exact ⟨b1, b2, (m_judge0 (Or.inl c) _ (fin rfl (hR h I))).1⟩
  · have c : ¬ (nI s < 0 ∨ ¬ nI s < 6) := c
    rcases bd x2 0 40 (l := 0) (u := 40) rfl rfl (by omega) (by omega) with d | ⟨M, d1, d2, rfl, d⟩
    · apply c_refB (Or.inr d)
      rw [if_neg (by decide)]
      exact ⟨b1, b2, (m_judge0 (Or.inr d) _ (fin rfl (hR h I))).1⟩
    · obtain ⟨w, hm, hc, hw⟩ := book_ok I m1
      apply hc M _ d2
      have open_m : ∀ Q : Int32 → Hp → Prop, (if 0 ≤ w then wX12_wrongIn 55 (nI s) (nI M) (-1) h (fun v4 h5 => if 0 ≤ v4 then Q v4 h5 else Q (-2) h5) else Q w h) → wX12_judge 55 (nI s) (nI M) h Q := by
        intro Q hQ
        unfold wX12_judge
        simp only [↓e_mShelf, ↓e_in, if_neg c, if_neg d, ne10, ↓reduceIte]
        apply hm
        by_cases w0 : 0 ≤ w
        · rw [if_pos w0] at hQ ⊢
          exact hQ
        · rw [if_neg w0] at hQ ⊢
          exact hm _ hQ
      rcases hw with ⟨rfl, z, hz, e3, e4, he⟩ | hw
      · rw [if_pos rfl]
        obtain ⟨v, w, hv, rc, rm⟩ := both_read I m1 hz e3 e4 he M d2 (-1)
        simp only [rf_0_13, nI_clamp (show s < 2 ^ 31 by omega), sh_id1 m1]
        refine ⟨(vp_nI (by omega)).mpr m1, rc _ ?_⟩
        rcases hv with ⟨k, hk, rfl⟩ | ⟨rfl, hw⟩
        · rw [show vOf (nI k, w) = -1 - nI k from if_neg (nm1 (by omega)), if_pos (neg1_sub hk).1, (neg1_sub hk).2]
          refine ⟨b1, b2, open_m _ ?_⟩
          rw [if_pos (by decide)]
          apply rm h (fun _ _ _ => rfl) (fun _ _ => rfl)
          intro h2 f1 f2 f3
          rw [if_pos (nl (nI_pos (show k < 2 ^ 31 by omega)))]
          exact fin rfl (hR h2 (I.f41 f1 f2))
        · rw [show vOf (-1, w) = w from if_pos rfl, if_neg hw]
          refine ⟨b1, b2, open_m _ ?_⟩
          rw [if_pos (by decide)]
          apply rm h (fun _ _ _ => rfl) (fun _ _ => rfl)
          intro h2 f1 f2 f3
          rw [if_neg (by decide)]
          exact fin rfl (hR h2 (I.f41 f1 f2))
      · obtain ⟨w1, w2⟩ := fault_neg hw
        rw [if_neg w1]
        refine ⟨b1, b2, open_m _ ?_⟩
        rw [if_neg w2]
        exact fin rfl (hR h I)
set_option maxRecDepth 20000 in
set_option maxHeartbeats 1000000 in
theorem ok_within {h : Hp} (I : Inv h) (x1 : Int32) (x2 : Int32) {A1 : Prop} (b1 : A1) {A2 : Prop} (b2 : A2) {R : Hp → Prop} {Q0 : Prop} (hR : ∀ h', Inv h' → R h') : wX11_within 0 x1 x2 h (fun v => A1 ∧ (A2 ∧ (wX12_within 55 x1 x2 h (fun v' h2 => if v = v' then R h2 else Q0)))) := by
  unfold wX11_within
  rcases ix x1 6 (by omega) with c | ⟨s, m1, rfl, c⟩
  · have c : x1 < 0 ∨ ¬ x1 < 6 := c
    apply c_refB (Or.inl c)
    rw [if_neg (by decide)]
    exact ⟨b1, b2, (m_judge0 (Or.inl c) _ (fin rfl (hR h I))).2⟩
  · have c : ¬ (nI s < 0 ∨ ¬ nI s < 6) := c
    rcases bd x2 0 40 (l := 0) (u := 40) rfl rfl (by omega) (by omega) with d | ⟨M, d1, d2, rfl, d⟩
    · apply c_refB (Or.inr d)
      rw [if_neg (by decide)]
      exact ⟨b1, b2, (m_judge0 (Or.inr d) _ (fin rfl (hR h I))).2⟩
    · obtain ⟨w, hm, hc, hw⟩ := book_ok I m1
      apply hc M _ d2
      have open_m : ∀ Q : Int32 → Hp → Prop, (if 0 ≤ w then wX12_wrongIn 55 (nI s) (nI M) (-1) h (fun v4 h5 => if 0 ≤ v4 then Q (-5) h5 else Q (gI h5 55 41) h5) else Q w h) → wX12_within 55 (nI s) (nI M) h Q := by
        intro Q hQ
        unfold wX12_within
        simp only [↓e_mShelf, ↓e_in, if_neg c, if_neg d, ne10, ↓reduceIte]
        apply hm
        by_cases w0 : 0 ≤ w
        · rw [if_pos w0] at hQ ⊢
          exact hQ
        · rw [if_neg w0] at hQ ⊢
          exact hm _ hQ
      rcases hw with ⟨rfl, z, hz, e3, e4, he⟩ | hw
      · rw [if_pos rfl]
        obtain ⟨v, w, hv, rc, rm⟩ := both_read I m1 hz e3 e4 he M d2 (-1)
        simp only [rf_0_13, nI_clamp (show s < 2 ^ 31 by omega), sh_id1 m1]
        refine ⟨(vp_nI (by omega)).mpr m1, rc _ ?_⟩
        rcases hv with ⟨k, hk, rfl⟩ | ⟨rfl, hw⟩
        · rw [show vOf (nI k, w) = -1 - nI k from if_neg (nm1 (by omega)), if_pos (neg1_sub hk).1]
          refine ⟨b1, b2, open_m _ ?_⟩
          rw [if_pos (by decide)]
          apply rm h (fun _ _ _ => rfl) (fun _ _ => rfl)
          intro h2 f1 f2 f3
          rw [if_pos (nl (nI_pos (show k < 2 ^ 31 by omega)))]
          exact fin rfl (hR h2 (I.f41 f1 f2))
        · rw [show vOf (-1, w) = w from if_pos rfl, if_neg hw]
          refine ⟨b1, b2, open_m _ ?_⟩
          rw [if_pos (by decide)]
          apply rm h (fun _ _ _ => rfl) (fun _ _ => rfl)
          intro h2 f1 f2 f3
          rw [if_neg (by decide)]
          exact fin f3.symm (hR h2 (I.f41 f1 f2))
      · obtain ⟨w1, w2⟩ := fault_neg hw
        rw [if_neg w1]
        refine ⟨b1, b2, open_m _ ?_⟩
        rw [if_neg w2]
        exact fin rfl (hR h I)
-- turned
theorem within_eq (x : Int32) (h : Hp) (Q : Int32 → Prop) : wX11_isWithinOf x h Q = wX12_isCounts 55 x h Q := rfl
theorem counts {x : Int32} (h : Hp) : (∀ Q : Int32 → Prop, Q 0 → wX12_isCounts 55 x h Q) ∨ ∃ a b : Nat, a ≤ b ∧ b ≤ 40 ∧ x = nI (100 * a + b) ∧ ∀ Q : Int32 → Prop, Q 1 → wX12_isCounts 55 x h Q := by
  unfold wX12_isCounts
  by_cases c : x < 0
  · exact Or.inl (fun Q hQ => by rw [if_pos c]; exact hQ)
  · obtain ⟨n, hn, rfl⟩ := nI_of c
    have e1 : rm (nI n) (100 : Int32) = nI (n % 100) := e_rm (d := 100) hn (by omega) (by omega)
    have e2 : nI n / (100 : Int32) = nI (n / 100) := pk_div (d := 100) hn (by omega) (by omega)
    rw [e1, e2]
    by_cases d : 40 < n % 100
    · exact Or.inl (fun Q hQ => by rw [if_neg c, if_pos (show (40 : Int32) < nI (n % 100) from nI_lt (a := 40) d (by omega))]; exact hQ)
    · by_cases e : n % 100 < n / 100
      · exact Or.inl (fun Q hQ => by rw [if_neg c, if_neg (show ¬ (40 : Int32) < nI (n % 100) from nI_nlt (a := 40) (by omega) (by omega)), if_pos (nI_lt e (by omega))]; exact hQ)
      · exact Or.inr ⟨n / 100, n % 100, by omega, by omega, by congr 1; omega, fun Q hQ => by rw [if_neg c, if_neg (show ¬ (40 : Int32) < nI (n % 100) from nI_nlt (a := 40) (by omega) (by omega)), if_neg (nI_nlt (by omega) (by omega))]; exact hQ⟩
def tcnt (f : Nat → Bool) : Nat → Int32 → Int32 → Int32 × Int32
  | 0, c, l => (c, l)
  | k + 1, c, l => if f k then tcnt f k (c + 1) (nI k) else tcnt f k c l
theorem tcnt_s (f : Nat → Bool) (k : Nat) (c l : Int32) : tcnt f (k + 1) c l = if f k then tcnt f k (c + 1) (nI k) else tcnt f k c l := rfl
def pm1 (k : Nat) : Int32 := nI k - 1
theorem pm1_s {k : Nat} : pm1 (k + 1) = nI k := by
  unfold pm1
  rw [← nI_1, Int32.add_sub_cancel]
theorem pm1_0 : pm1 0 = -1 := by decide
theorem pm1_d {k : Nat} : nI k + (-1) = pm1 k := by
  unfold pm1
  rw [Int32.sub_eq_add_neg]
theorem c_turns {h : Hp} {s z a b : Nat} {x3 : Int32} (m1 : s < 6) (hz : z ≤ 60) (hab : a ≤ b) (hb : b ≤ 40) {f : Nat → Bool}
    (hf : ∀ k, k < 31 → ∃ v w : Int32, ((∃ k, k < 31 ∧ v = nI k) ∨ (v = -1 ∧ ¬ w < 0)) ∧ (∀ Q : Int32 → Prop, Q (vOf (v, w)) → wX11_readBook 0 (43 + 2 * s) (nI b) (nI k) h Q) ∧ f k = (decide (v = -1) && decide (w = nI a))) {Q : Int32 → Prop}
    (hQ : Q (if x3 = 0 then (tcnt f (z / 2) 0 (-2)).1 else (tcnt f (z / 2) 0 (-2)).2)) : eX11_turned_63 0 (nI (100 * a + b)) x3 (43 + 2 * s) h Q 0 (-2) (pm1 (z / 2)) := by
  refine iX11_turned_63 (I := fun x y v => ∃ k : Nat, v = pm1 k ∧ k ≤ z / 2 ∧ tcnt f k x y = tcnt f (z / 2) 0 (-2)) (μ := fun _ _ v => (v + 1).toNatClampNeg) ?_ 0 (-2) _ ⟨z / 2, rfl, by omega, rfl⟩
  rintro x y v ⟨k, rfl, hk, ht⟩ K hK
  unfold fX11_turned_63
  cases k with
  | zero =>
    rw [pm1_0, if_pos (by decide)]
    rw [← ht] at hQ
    by_cases c : x3 = 0
    · rw [if_pos c] at hQ ⊢
      exact hQ
    · rw [if_neg c] at hQ ⊢
      exact hQ
  | succ k =>
    rw [pm1_s, if_neg (nI_pos (by omega))]
    obtain ⟨v, w, hv, hr, hfk⟩ := hf k (by omega)
    have e1 : rm (nI (100 * a + b)) (100 : Int32) = nI b := by
      show rm (nI (100 * a + b)) (nI 100) = nI b
      rw [e_rm (by omega) (by omega) (by omega)]
      congr 1; omega
    have e2 : nI (100 * a + b) / (100 : Int32) = nI a := by
      show nI (100 * a + b) / nI 100 = nI a
      rw [pk_div (by omega) (by omega) (by omega)]
      congr 1; omega
    rw [e1, e2]
    apply hr
    have mu : (pm1 k + 1).toNatClampNeg < (pm1 (k + 1) + 1).toNatClampNeg := by
      rw [pm1_s]
      unfold pm1
      rw [Int32.sub_add_cancel, nI_1, nI_clamp (by omega), nI_clamp (by omega)]
      omega
    simp only [forall_eq, pm1_d]
    rw [tcnt_s] at ht
    rcases hv with ⟨j, hj, rfl⟩ | ⟨rfl, hw⟩
    · rw [show vOf (nI j, w) = -1 - nI j from if_neg (nm1 (by omega))]
      have n0 : ¬ -1 - nI j = nI a := fun q => by
        have := (neg1_sub hj).1
        rw [q] at this
        exact nI_pos (by omega) this
      rw [if_neg n0]
      rw [decide_eq_false (nm1 (by omega)), Bool.false_and] at hfk
      rw [hfk] at ht
      exact hK x y _ ⟨k, rfl, by omega, by simpa using ht⟩ mu
    · rw [show vOf (-1, w) = w from if_pos rfl]
      rw [decide_eq_true rfl, Bool.true_and] at hfk
      by_cases c : w = nI a
      · rw [if_pos c]
        rw [decide_eq_true c] at hfk
        rw [hfk] at ht
        exact hK _ _ _ ⟨k, rfl, by omega, by simpa using ht⟩ mu
      · rw [if_neg c]
        rw [decide_eq_false c] at hfk
        rw [hfk] at ht
        exact hK x y _ ⟨k, rfl, by omega, by simpa using ht⟩ mu
theorem m_turns {h : Hp} {s z a b : Nat} {x3 : Int32} (m1 : s < 6) (hz : z ≤ 60) (hab : a ≤ b) (hb : b ≤ 40) {f : Nat → Bool}
    (hf : ∀ k, k < 31 → ∃ v w : Int32, ((∃ k, k < 31 ∧ v = nI k) ∨ (v = -1 ∧ ¬ w < 0)) ∧ (∀ h' : Hp, (∀ a k, (a = 55 → k ≠ 41) → gI h' a k = gI h a k) → (∀ a k, gL h' a k = gL h a k) → ∀ Q : Int32 → Hp → Prop, (∀ h2 : Hp, (∀ a k, (a = 55 → k ≠ 41) → gI h2 a k = gI h a k) → (∀ a k, gL h2 a k = gL h a k) → gI h2 55 41 = w → Q v h2) → wX12_wrongIn 55 (nI s) (nI b) (nI k) h' Q) ∧ f k = (decide (v = -1) && decide (w = nI a))) {Q : Int32 → Hp → Prop}
    (hQ : ∀ h2 : Hp, (∀ a k, (a = 55 → k ≠ 41) → gI h2 a k = gI h a k) → (∀ a k, gL h2 a k = gL h a k) → Q (if x3 = 0 then (tcnt f (z / 2) 0 (-2)).1 else (tcnt f (z / 2) 0 (-2)).2) h2) : eX12_turned_59 55 (nI s) (nI (100 * a + b)) x3 Q 0 (-2) (pm1 (z / 2)) h := by
  refine iX12_turned_59 (I := fun x y v h' => (∀ a k, (a = 55 → k ≠ 41) → gI h' a k = gI h a k) ∧ (∀ a k, gL h' a k = gL h a k) ∧ ∃ k : Nat, v = pm1 k ∧ k ≤ z / 2 ∧ tcnt f k x y = tcnt f (z / 2) 0 (-2)) (μ := fun _ _ v _ => (v + 1).toNatClampNeg) ?_ 0 (-2) _ h ⟨fun _ _ _ => rfl, fun _ _ => rfl, z / 2, rfl, by omega, rfl⟩
  rintro x y v h' ⟨f1, f2, k, rfl, hk, ht⟩ K hK
  unfold fX12_turned_59
  cases k with
  | zero =>
    rw [pm1_0, if_pos (by decide)]
    have hQ := hQ h' f1 f2
    rw [← ht] at hQ
    by_cases c : x3 = 0
    · rw [if_pos c] at hQ ⊢
      exact hQ
    · rw [if_neg c] at hQ ⊢
      exact hQ
  | succ k =>
    rw [pm1_s, if_neg (nI_pos (by omega))]
    obtain ⟨v, w, hv, hr, hfk⟩ := hf k (by omega)
    have e1 : rm (nI (100 * a + b)) (100 : Int32) = nI b := by
      show rm (nI (100 * a + b)) (nI 100) = nI b
      rw [e_rm (by omega) (by omega) (by omega)]
      congr 1; omega
    have e2 : nI (100 * a + b) / (100 : Int32) = nI a := by
      show nI (100 * a + b) / nI 100 = nI a
      rw [pk_div (by omega) (by omega) (by omega)]
      congr 1; omega
    rw [e1, e2]
    apply hr h' f1 f2
    intro h2 k1 k2 k3
    have mu : (pm1 k + 1).toNatClampNeg < (pm1 (k + 1) + 1).toNatClampNeg := by
      rw [pm1_s]
      unfold pm1
      rw [Int32.sub_add_cancel, nI_1, nI_clamp (by omega), nI_clamp (by omega)]
      omega
    simp only [forall_eq, pm1_d]
    rw [tcnt_s] at ht
    rcases hv with ⟨j, hj, rfl⟩ | ⟨rfl, hw⟩
    · rw [if_pos (nl (nI_pos (show j < 2 ^ 31 by omega)))]
      rw [decide_eq_false (nm1 (by omega)), Bool.false_and] at hfk
      rw [hfk] at ht
      exact hK x y _ h2 ⟨k1, k2, k, rfl, by omega, by simpa using ht⟩ mu
    · rw [if_neg (by decide), k3]
      rw [decide_eq_true rfl, Bool.true_and] at hfk
      by_cases c : w = nI a
      · rw [if_pos c]
        rw [decide_eq_true c] at hfk
        rw [hfk] at ht
        exact hK _ _ _ h2 ⟨k1, k2, k, rfl, by omega, by simpa using ht⟩ mu
      · rw [if_neg c]
        rw [decide_eq_false c] at hfk
        rw [hfk] at ht
        exact hK x y _ h2 ⟨k1, k2, k, rfl, by omega, by simpa using ht⟩ mu
set_option maxRecDepth 20000 in
set_option maxHeartbeats 1000000 in
theorem ok_turned {h : Hp} (I : Inv h) (x1 : Int32) (x2 : Int32) (x3 : Int32) {A1 : Prop} (b1 : A1) {A2 : Prop} (b2 : A2) {A3 : Prop} (b3 : A3) {R : Hp → Prop} {Q0 : Prop} (hR : ∀ h', Inv h' → R h') : wX11_turned 0 x1 x2 x3 h (fun v => A1 ∧ (A2 ∧ (A3 ∧ (wX12_turned 55 x1 x2 x3 h (fun v' h2 => if v = v' then R h2 else Q0))))) := by
  unfold wX11_turned
  rw [within_eq]
  rcases counts (x := x2) h with hc0 | ⟨a, b, hab, hb, rfl, hc0⟩
  · apply hc0
    rw [if_pos rfl]
    refine ⟨b1, b2, b3, ?_⟩
    unfold wX12_turned
    rw [e_mShelf]
    by_cases c : x1 < 0 ∨ ¬ x1 < 6
    · rw [if_pos c, if_pos rfl]
      exact fin rfl (hR h I)
    · rw [if_neg c, if_neg (by decide)]
      apply hc0
      rw [if_pos rfl]
      exact fin rfl (hR h I)
  · apply hc0
    rw [if_neg (by decide)]
    have e1 : rm (nI (100 * a + b)) (100 : Int32) = nI b := by
      show rm (nI (100 * a + b)) (nI 100) = nI b
      rw [e_rm (by omega) (by omega) (by omega)]
      congr 1; omega
    have key : (x1 < 0 ∨ ¬ x1 < 6) ∨ (x3 < 0 ∨ 1 < x3) → ∀ Q : Int32 → Hp → Prop, Q (-1) h → wX12_turned 55 x1 (nI (100 * a + b)) x3 h Q := by
      intro q Q hQ
      unfold wX12_turned
      rw [e_mShelf]
      by_cases c : x1 < 0 ∨ ¬ x1 < 6
      · rw [if_pos c, if_pos rfl]
        exact hQ
      · rw [if_neg c, if_neg (by decide)]
        apply hc0
        rw [if_neg (by decide), e_in, if_pos (q.resolve_left c), if_pos rfl]
        exact hQ
    rw [e1]
    rcases bd x3 0 1 (l := 0) (u := 1) rfl rfl (by omega) (by omega) with d | ⟨y, d1, d2, rfl, d⟩
    · by_cases d0 : x3 < 0
      · rw [if_pos d0]
        exact ⟨b1, b2, b3, key (Or.inr d) _ (fin rfl (hR h I))⟩
      · rw [if_neg d0, if_neg (Int32.not_le.mpr (d.resolve_left d0))]
        exact ⟨b1, b2, b3, key (Or.inr d) _ (fin rfl (hR h I))⟩
    · rw [if_neg (show ¬ nI y < 0 from fun q => d (Or.inl q)), if_pos (nl (show ¬ (1 : Int32) < nI y from fun q => d (Or.inr q)))]
      rcases ix x1 6 (by omega) with c | ⟨s, m1, rfl, c⟩
      · have c : x1 < 0 ∨ ¬ x1 < 6 := c
        apply c_refB (Or.inl c)
        rw [if_neg (by decide)]
        exact ⟨b1, b2, b3, key (Or.inl c) _ (fin rfl (hR h I))⟩
      · have c : ¬ (nI s < 0 ∨ ¬ nI s < 6) := c
        obtain ⟨w, hm, hc, hw⟩ := book_ok I m1
        apply hc b _ hb
        have vs : vp_in (nI s) 6 := (vp_nI (by omega)).mpr m1
        have open_m : ∀ Q : Int32 → Hp → Prop, (if 0 ≤ w then (eX12_turned_59 55 (nI s) (nI (100 * a + b)) (nI y) Q 0 (-2) (gI h 84 s / 2 - 1) h) else Q w h) → wX12_turned 55 (nI s) (nI (100 * a + b)) (nI y) h Q := by
          intro Q hQ
          unfold wX12_turned
          rw [e_mShelf, if_neg c, if_neg (by decide)]
          apply hc0
          rw [if_neg (by decide), e_in, if_neg d, if_neg (by decide)]
          apply hm
          by_cases w0 : 0 ≤ w
          · rw [if_pos w0] at hQ ⊢
            simp only [rf_55_53, ln_84, nI_clamp (show s < 2 ^ 31 by omega), forall_eq]
            exact ⟨vs, hQ⟩
          · rw [if_neg w0] at hQ ⊢
            exact hm _ hQ
        rcases hw with ⟨rfl, z, hz, e3, e4, he⟩ | hw
        · rw [if_pos rfl]
          simp only [rf_0_13, ln_42, nI_clamp (show s < 2 ^ 31 by omega), sh_id1 m1, forall_eq, shV_at m1, e3]
          refine ⟨vs, ?_⟩
          have ez : nI z / (2 : Int32) - 1 = pm1 (z / 2) := by
            unfold pm1
            congr 1
            exact pk_div (d := 2) (by omega) (by omega) (by omega)
          rw [ez]
          have hex : ∃ f : Nat → Bool, ∀ k, k < 31 → ∃ v w : Int32, ((∃ k, k < 31 ∧ v = nI k) ∨ (v = -1 ∧ ¬ w < 0)) ∧ (∀ Q : Int32 → Prop, Q (vOf (v, w)) → wX11_readBook 0 (43 + 2 * s) (nI b) (nI k) h Q) ∧ (∀ h' : Hp, (∀ a k, (a = 55 → k ≠ 41) → gI h' a k = gI h a k) → (∀ a k, gL h' a k = gL h a k) → ∀ Q : Int32 → Hp → Prop, (∀ h2 : Hp, (∀ a k, (a = 55 → k ≠ 41) → gI h2 a k = gI h a k) → (∀ a k, gL h2 a k = gL h a k) → gI h2 55 41 = w → Q v h2) → wX12_wrongIn 55 (nI s) (nI b) (nI k) h' Q) ∧ f k = (decide (v = -1) && decide (w = nI a)) := by
            have pick := fun k => both_read I m1 hz e3 e4 he b hb (nI k)
            refine ⟨fun k => decide ((pick k).choose = -1) && decide ((pick k).choose_spec.choose = nI a), fun k _ => ?_⟩
            obtain ⟨q1, q2, q3⟩ := (pick k).choose_spec.choose_spec
            exact ⟨(pick k).choose, (pick k).choose_spec.choose, q1, q2, q3, rfl⟩
          obtain ⟨f, hf⟩ := hex
          apply c_turns (f := f) m1 hz hab hb (fun k hk => by obtain ⟨v, w, q1, q2, q3, q4⟩ := hf k hk; exact ⟨v, w, q1, q2, q4⟩)
          refine ⟨b1, b2, b3, open_m _ ?_⟩
          rw [if_pos (by decide), e4, ez]
          apply m_turns (f := f) m1 hz hab hb (fun k hk => by obtain ⟨v, w, q1, q2, q3, q4⟩ := hf k hk; exact ⟨v, w, q1, q3, q4⟩)
          intro h2 f1 f2
          exact fin rfl (hR h2 (I.f41 f1 f2))
        · obtain ⟨w1, w2⟩ := fault_neg hw
          rw [if_neg w1]
          refine ⟨b1, b2, b3, open_m _ ?_⟩
          rw [if_neg w2]
          exact fin rfl (hR h I)
