/-! the reference's least -/
def LT2 (E : EV) (h : Hp) (v : Nat → Nat → Nat) : Prop := ∀ o w, vOK E o w → gI h 77 (32 * o + w) = nI (v o w)
theorem m_wc {h : Hp} {E : EV} {t o w : Nat} (X : EW h E) (ht : t < 60) (v : vOK E o w) {Q : Int32 → Prop} (hQ : Q (nI (wcN E t o w))) : wX12_waitingCost 55 (nI t) (nI o) (nI w) h Q := by
  have hN := X.1.1
  have h12 := p12 hN
  have wl := v.1
  have ol := sbt_lt v.2 v.1
  unfold wX12_waitingCost
  refine iX12_waitingCost_6 (I := fun x4 x5 => ∃ j : Nat, x5 = nI j ∧ j ≤ eN E ∧ x4 = nI (smT (fun p => if wts (eL E) (eR E) t o w p then eC E p else 0) j)) (μ := fun _ x5 => eN E - x5.toNatClampNeg) ?_ 0 0 ⟨0, rfl, by omega, rfl⟩
  rintro x4 x5 ⟨j, rfl, hj, rfl⟩ K hK
  unfold fX12_waitingCost_6
  rw [X.1.2.2.1]
  by_cases c : eN E ≤ j
  · rw [if_pos (nI_le c (by omega)), show j = eN E by omega]
    exact hQ
  · rw [if_neg (nI_ge (by omega) (by omega))]
    have mu : eN E - (nI (j + 1)).toNatClampNeg < eN E - (nI j).toNatClampNeg := by rw [nI_clamp (by omega), nI_clamp (by omega)]; omega
    obtain ⟨y1, y2, y3, y4, y5, y6, y7⟩ := X.1.2.2.2 j (by omega)
    apply m_waitsIn X.1 (by omega) (by omega) (by omega) (show j < eN E by omega)
    rw [X.2.2.2.1, X.2.2.2.2.1]
    simp only [forall_eq, nI_1, rf_55_6, ln_59, nI_clamp (show j < 2 ^ 31 by omega)]
    cases ew : wts (eL E) (eR E) t o w j
    · rw [if_pos (by decide)]
      refine hK _ _ ⟨j + 1, rfl, by omega, ?_⟩ mu
      rw [smT, ew]
      rfl
    · rw [if_neg (by decide), y6, show tn (rI h 6) j = eC E j from congrFun X.2.2.2.2.2.1 j, nI_add]
      refine ⟨(vp_nI (by omega)).mpr (by omega), hK _ _ ⟨j + 1, rfl, by omega, ?_⟩ mu⟩
      rw [smT, ew]
      rfl
def MY (E : EV) (s t : Nat) : Nat := setB (fun p => mayV (eP E) (eC E) t 0 p s) (eN E)
theorem m_mayOf {h0 : Hp} {E : EV} {s t : Nat} (X : EW h0 E) {Q : Int32 → Hp → Prop} (hQ : ∀ h', Fs h0 h' → Q (nI (MY E s t)) h') : wX12_mayOf 55 (nI s) (nI t) h0 Q := by
  have hN := X.1.1
  unfold wX12_mayOf
  refine iX12_mayOf_5 (I := fun x3 x4 h => ∃ j : Nat, x4 = nI j ∧ j ≤ eN E ∧ x3 = nI (setB (fun p => mayV (eP E) (eC E) t 0 p s) j) ∧ Fs h0 h) (μ := fun _ x4 _ => eN E - x4.toNatClampNeg) ?_ 0 0 h0 ⟨0, rfl, by omega, rfl, Fs.refl h0⟩
  rintro x3 x4 h ⟨j, rfl, hj, rfl, F⟩ K hK
  have Xh := X.fw F.fw
  unfold fX12_mayOf_5
  rw [Xh.1.2.2.1]
  by_cases c : eN E ≤ j
  · rw [if_pos (nI_le c (by omega)), show j = eN E by omega]
    exact hQ h F
  · rw [if_neg (nI_ge (by omega) (by omega))]
    have mu : eN E - (nI (j + 1)).toNatClampNeg < eN E - (nI j).toNatClampNeg := by rw [nI_clamp (by omega), nI_clamp (by omega)]; omega
    apply m_mayGo (g := 0) Xh.1 (show j < eN E by omega) Xh.2.2.1
    intro h2 F2
    rw [Xh.2.2.2.2.2.1]
    simp only [forall_eq, nI_1]
    cases em : mayV (eP E) (eC E) t 0 j s
    · rw [if_pos (by decide)]
      refine hK _ _ _ ⟨j + 1, rfl, by omega, ?_, F.trans F2⟩ mu
      rw [setB, if_neg (by rw [em]; decide)]
    · rw [if_neg (by decide), shl1 j (by omega), nI_or]
      refine hK _ _ _ ⟨j + 1, rfl, by omega, ?_, F.trans F2⟩ mu
      rw [setB, if_pos em]
theorem m_wfor {h : Hp} {E : EV} {s t o w : Nat} (X : EW h E) (hs : s ≤ 1) (ht : t < 60) (v : vOK E o w) {Q : Int32 → Prop} (hQ : Q (nI (setB (fun p => (o.testBit p == decide (s = 1)) && wts (eL E) (eR E) t o w p) (eN E)))) : wX12_waitingFor 55 (nI s) (nI t) (nI o) (nI w) h Q := by
  have hN := X.1.1
  have h12 := p12 hN
  have wl := v.1
  have ol := sbt_lt v.2 v.1
  unfold wX12_waitingFor
  refine iX12_waitingFor_6 (I := fun x5 x6 => ∃ j : Nat, x6 = nI j ∧ j ≤ eN E ∧ x5 = nI (setB (fun p => (o.testBit p == decide (s = 1)) && wts (eL E) (eR E) t o w p) j)) (μ := fun _ x6 => eN E - x6.toNatClampNeg) ?_ 0 0 ⟨0, rfl, by omega, rfl⟩
  rintro x5 x6 ⟨j, rfl, hj, rfl⟩ K hK
  unfold fX12_waitingFor_6
  rw [X.1.2.2.1]
  by_cases c : eN E ≤ j
  · rw [if_pos (nI_le c (by omega)), show j = eN E by omega]
    exact hQ
  · rw [if_neg (nI_ge (by omega) (by omega)), bit_nI (show o < 2 ^ 31 by omega) (by omega)]
    simp only [forall_eq, nI_1]
    have mu : eN E - (nI (j + 1)).toNatClampNeg < eN E - (nI j).toNatClampNeg := by rw [nI_clamp (by omega), nI_clamp (by omega)]; omega
    by_cases eb : o.testBit j = decide (s = 1)
    · have : (if o.testBit j = true then (1 : Int32) else 0) = nI s := by
        rw [eb]
        rcases (show s = 0 ∨ s = 1 by omega) with rfl | rfl <;> rfl
      rw [if_pos this]
      apply m_waitsIn X.1 (by omega) (by omega) (by omega) (show j < eN E by omega)
      rw [X.2.2.2.1, X.2.2.2.2.1]
      cases ewt : wts (eL E) (eR E) t o w j
      · rw [if_pos (by decide)]
        refine hK _ _ ⟨j + 1, rfl, by omega, ?_⟩ mu
        rw [setB, if_neg (by rw [ewt]; simp)]
      · rw [if_neg (by decide), shl1 j (by omega), nI_or]
        refine hK _ _ ⟨j + 1, rfl, by omega, ?_⟩ mu
        rw [setB, if_pos (by rw [ewt, eb]; simp)]
    · have : ¬ (if o.testBit j = true then (1 : Int32) else 0) = nI s := by
        intro q
        apply eb
        rcases (show s = 0 ∨ s = 1 by omega) with rfl | rfl
        · cases hh : o.testBit j
          · rfl
          · rw [hh] at q; exact absurd q (by decide)
        · cases hh : o.testBit j
          · rw [hh] at q; exact absurd q (by decide)
          · rfl
      rw [if_neg this]
      refine hK _ _ ⟨j + 1, rfl, by omega, ?_⟩ mu
      rw [setB, if_neg (by rw [beq_eq_false_iff_ne.mpr eb]; simp)]
theorem wfor_and {E : EV} {s t o w : Nat} : setB (fun p => (o.testBit p == decide (s = 1)) && wts (eL E) (eR E) t o w p) (eN E) &&& MY E s t = mset E s t 0 o w := by
  apply nat_ext
  intro i
  unfold MY mset msB
  rw [Nat.testBit_and, setB_bit, setB_bit, setB_bit]
  by_cases hi : i < eN E
  · simp [hi]
  · simp [hi]
theorem min_ite {a b : Nat} (ha : a < 2 ^ 31) (hb : b < 2 ^ 31) {α : Type} (f : Int32 → α) : (if nI a ≤ nI b then f (nI a) else f (nI b)) = f (nI (min a b)) := by
  by_cases c : a ≤ b
  · rw [if_pos (nI_le c hb), Nat.min_eq_left c]
  · rw [if_neg (nI_ge (by omega) ha), Nat.min_eq_right (by omega)]
theorem m_bestIn {h : Hp} {E : EV} {t o w b : Nat} {v : Nat → Nat → Nat} (X : EW h E) (hN : eN E ≤ 5) (hg : 0 < eG E) (ht : t < 60) (vo : vOK E o w) (L : LT2 E h v) (hv : ∀ o w, v o w ≤ b) (hb : b < 900000) {Q : Int32 → Prop} (hQ : Q (nI (inF E (eNum E 0) t o w v))) : wX12_bestIn 55 (nI t) (nI o) (nI w) (nI (MY E 1 t)) h Q := by
  have h32 := p5 hN
  have wl := vo.1
  have ol := sbt_lt vo.2 vo.1
  obtain ⟨y1, y2, m1, m6⟩ := X.2.1.2.2.2 0 hg
  have hc : ∀ p, p < eN E → eC E p ≤ 9 := by
    intro p hp
    rw [← X.2.2.2.2.2.1]
    exact (X.1.2.2.2 p hp).2.2.2.2.2.2.2.2.2
  unfold wX12_bestIn
  apply m_wfor (s := 1) X (by omega) ht vo
  rw [nI_and, wfor_and]
  simp only [forall_eq]
  have sl := mset_lt E 1 t 0 o w
  unfold inF at hQ
  refine iX12_bestIn_21 (I := fun x6 x7 => ∃ j : Nat, x7 = nI j ∧ j ≤ mset E 1 t 0 o w + 1 ∧ x6 = nI (mnF (okb E (eNum E 0) 1 t o w) (fun B => wcN E t (o ^^^ B) w + v (o ^^^ B) w) j)) (μ := fun _ x7 => mset E 1 t 0 o w + 1 - x7.toNatClampNeg) ?_ 1000000 0 ⟨0, rfl, by omega, rfl⟩
  rintro x6 x7 ⟨j, rfl, hj, rfl⟩ K hK
  unfold fX12_bestIn_21
  by_cases c : mset E 1 t 0 o w < j
  · rw [if_pos (nI_lt c (by omega)), show j = mset E 1 t 0 o w + 1 by omega]
    exact hQ
  · rw [if_neg (nI_nlt (by omega) (by omega)), anot_nI (by omega)]
    have mu : mset E 1 t 0 o w + 1 - (nI (j + 1)).toNatClampNeg < mset E 1 t 0 o w + 1 - (nI j).toNatClampNeg := by rw [nI_clamp (by omega), nI_clamp (by omega)]; omega
    simp only [forall_eq, nI_1]
    have skip : okb E (eNum E 0) 1 t o w j = false → K (nI (mnF (okb E (eNum E 0) 1 t o w) (fun B => wcN E t (o ^^^ B) w + v (o ^^^ B) w) j)) (nI (j + 1)) := by
      intro f
      refine hK _ _ ⟨j + 1, rfl, by omega, ?_⟩ mu
      rw [mnF, if_neg (by rw [f]; decide)]
    have al : anot j (mset E 1 t 0 o w) ≤ j := anot_le
    by_cases z : anot j (mset E 1 t 0 o w) = 0
    · rw [if_pos (by rw [z]; rfl)]
      have pl := pop_le j (by omega)
      apply m_bitsOf (by omega)
      rw [rf_55_2, ln_56, cl0, y2]
      refine ⟨(vp_nI (a := 0) (by omega)).mpr (by omega), nI_ne0 (by omega) (by omega), ?_⟩
      rw [e_rm (by omega) (by omega) (by omega)]
      have ml := Nat.mod_le (pop j) (eNum E 0)
      by_cases e : pop j % eNum E 0 = 0
      · rw [if_pos (by rw [e]; rfl)]
        have ok : okb E (eNum E 0) 1 t o w j = true := by unfold okb; rw [decide_eq_true z, decide_eq_true e]; rfl
        have sb := (sbt_anot (by omega)).mp z
        have v2 := vo.inn sb
        have o2 : o ^^^ j < 32 := Nat.xor_lt_two_pow (n := 5) (by omega) (by omega)
        rw [nI_xor]
        apply m_wc X ht v2
        rw [show (32 : Int32) * nI (o ^^^ j) + nI w = nI (32 * (o ^^^ j) + w) by simp (disch := omega) only [lit, nI_ltI, nI_leI, nI_eq, nI_clamp, nI_add, vp_nI, nI_ne_neg, neg_ne_nI, pk_sub, pk_mul, pk_div, Nat.reduceAdd, Nat.reduceMul, Nat.reducePow, e_mn, e_mx, e_rm, lt_t, lt_f, le_t, le_f, eq_f, eq_t, ↓reduceIte, true_and, and_true, and_false, false_and, and_self, or_true, or_false, true_or, false_or, not_true, not_false_iff], rf_55_38, ln_77, nI_clamp (show 32 * (o ^^^ j) + w < 2 ^ 31 by omega), L _ _ v2, nI_add]
        refine ⟨(vp_nI (by omega)).mpr (by omega), ?_⟩
        have wc := wcN_le hN hc t (o ^^^ j) w
        have vl := hv (o ^^^ j) w
        have mt := mnF_top (ok := okb E (eNum E 0) 1 t o w) (v := fun B => wcN E t (o ^^^ B) w + v (o ^^^ B) w) j
        rw [min_ite (by omega) (by omega) (fun y => K y (nI (j + 1)))]
        refine hK _ _ ⟨j + 1, rfl, by omega, ?_⟩ mu
        rw [mnF, if_pos ok]
      · rw [if_neg (nI_ne0 (by omega) (by omega))]
        exact skip (by unfold okb; rw [decide_eq_false e]; simp)
    · rw [if_neg (nI_ne0 (by omega) (by omega))]
      exact skip (by unfold okb; rw [decide_eq_false z]; simp)
theorem m_bestOut {h : Hp} {E : EV} {t o w b : Nat} {v : Nat → Nat → Nat} (X : EW h E) (hN : eN E ≤ 5) (hg : 0 < eG E) (ht : t < 60) (vo : vOK E o w) (L : LT2 E h v) (hv : ∀ o w, v o w ≤ b) (hb : b < 800000) {Q : Int32 → Prop} (hQ : Q (nI (ouF E (eNum E 0) t o w v))) : wX12_bestOut 55 (nI t) (nI o) (nI w) (nI (MY E 0 t)) (nI (MY E 1 t)) h Q := by
  have h32 := p5 hN
  have wl := vo.1
  have ol := sbt_lt vo.2 vo.1
  obtain ⟨y1, y2, m1, m6⟩ := X.2.1.2.2.2 0 hg
  have hc : ∀ p, p < eN E → eC E p ≤ 9 := by
    intro p hp
    rw [← X.2.2.2.2.2.1]
    exact (X.1.2.2.2 p hp).2.2.2.2.2.2.2.2.2
  unfold wX12_bestOut
  apply m_wfor (s := 0) X (by omega) ht vo
  rw [nI_and, wfor_and]
  simp only [forall_eq]
  have sl := mset_lt E 0 t 0 o w
  unfold ouF at hQ
  refine iX12_bestOut_21 (I := fun x7 x8 => ∃ j : Nat, x8 = nI j ∧ j ≤ mset E 0 t 0 o w + 1 ∧ x7 = nI (mnF (okb E (eNum E 0) 0 t o w) (fun A => inF E (eNum E 0) t (o ||| A) (w ||| A) v) j)) (μ := fun _ x8 => mset E 0 t 0 o w + 1 - x8.toNatClampNeg) ?_ 1000000 0 ⟨0, rfl, by omega, rfl⟩
  rintro x7 x8 ⟨j, rfl, hj, rfl⟩ K hK
  unfold fX12_bestOut_21
  by_cases c : mset E 0 t 0 o w < j
  · rw [if_pos (nI_lt c (by omega)), show j = mset E 0 t 0 o w + 1 by omega]
    exact hQ
  · rw [if_neg (nI_nlt (by omega) (by omega)), anot_nI (by omega)]
    have mu : mset E 0 t 0 o w + 1 - (nI (j + 1)).toNatClampNeg < mset E 0 t 0 o w + 1 - (nI j).toNatClampNeg := by rw [nI_clamp (by omega), nI_clamp (by omega)]; omega
    simp only [forall_eq, nI_1]
    have skip : okb E (eNum E 0) 0 t o w j = false → K (nI (mnF (okb E (eNum E 0) 0 t o w) (fun A => inF E (eNum E 0) t (o ||| A) (w ||| A) v) j)) (nI (j + 1)) := by
      intro f
      refine hK _ _ ⟨j + 1, rfl, by omega, ?_⟩ mu
      rw [mnF, if_neg (by rw [f]; decide)]
    have al : anot j (mset E 0 t 0 o w) ≤ j := anot_le
    by_cases z : anot j (mset E 0 t 0 o w) = 0
    · rw [if_pos (by rw [z]; rfl)]
      have pl := pop_le j (by omega)
      apply m_bitsOf (by omega)
      rw [rf_55_2, ln_56, cl0, y2]
      refine ⟨(vp_nI (a := 0) (by omega)).mpr (by omega), nI_ne0 (by omega) (by omega), ?_⟩
      rw [e_rm (by omega) (by omega) (by omega)]
      have ml := Nat.mod_le (pop j) (eNum E 0)
      by_cases e : pop j % eNum E 0 = 0
      · rw [if_pos (by rw [e]; rfl)]
        have ok : okb E (eNum E 0) 0 t o w j = true := by unfold okb; rw [decide_eq_true z, decide_eq_true e]; rfl
        have sb := (sbt_anot (by omega)).mp z
        have v2 := vo.out sb
        rw [nI_or, nI_or]
        apply m_bestIn X hN hg ht v2 L hv (by omega)
        have il := inF_le (m := eNum E 0) (t := t) hN hc hv (o ||| j) (w ||| j)
        have mt := mnF_top (ok := okb E (eNum E 0) 0 t o w) (v := fun A => inF E (eNum E 0) t (o ||| A) (w ||| A) v) j
        rw [min_ite (by omega) (by omega) (fun y => K y (nI (j + 1)))]
        refine hK _ _ ⟨j + 1, rfl, by omega, ?_⟩ mu
        rw [mnF, if_pos ok]
      · rw [if_neg (nI_ne0 (by omega) (by omega))]
        exact skip (by unfold okb; rw [decide_eq_false e]; simp)
    · rw [if_neg (nI_ne0 (by omega) (by omega))]
      exact skip (by unfold okb; rw [decide_eq_false z]; simp)
