/-! the reference's day -/
def DM (h0 : Hp) (d : DS) (h : Hp) : Prop :=
  gI h 55 33 = nI d.1 ∧ gI h 55 34 = nI d.2.1 ∧ gI h 55 35 = nI d.2.2.2.2.1 ∧ gI h 55 36 = nI d.2.2.2.2.2 ∧ (∀ p, p < 12 → gI h 74 p = d.2.2.1 p ∧ gI h 75 p = d.2.2.2.1 p) ∧ Fdy h0 h
theorem DM.fs {h0 h h' : Hp} {d : DS} (D : DM h0 d h) (F : Fs h h') : DM h0 d h' := by
  obtain ⟨d1, d2, d3, d4, d5, d6⟩ := D
  refine ⟨(F.at 55 33 (by decide)).trans d1, (F.at 55 34 (by decide)).trans d2, (F.at 55 35 (by decide)).trans d3, (F.at 55 36 (by decide)).trans d4, fun p hp => ?_, d6.trans F.fd⟩
  rw [F.at 74 p (by decide), F.at 75 p (by decide)]
  exact d5 p hp
def msB (E : EV) (s t g o w : Nat) (p : Nat) : Bool := (o.testBit p == decide (s = 1)) && wts (eL E) (eR E) t o w p && mayV (eP E) (eC E) t g p s
def mset (E : EV) (s t g o w : Nat) : Nat := setB (msB E s t g o w) (eN E)
theorem mset_0 {E : EV} {t g : Nat} {d : DS} (hN : eN E ≤ 12) (ok : dOK (eN E) d) : letB (eP E) (eC E) (eN E) t g 0 (W0 E t d) = mset E 0 t g d.1 d.2.1 := by
  apply nat_ext
  intro i
  have h12 := p12 hN
  have := setB_lt (fun k => decide (eL E k ≤ t)) (eN E)
  unfold letB mset msB
  rw [setB_bit, setB_bit]
  unfold W0 wts
  rw [anot_bit (by omega), setB_bit]
  by_cases hi : i < eN E
  · cases e : d.1.testBit i
    · cases d.2.1.testBit i <;> simp [hi]
    · rw [ok.2.2 i e]; simp [hi]
  · simp [hi]
theorem mset_1 {E : EV} {t g : Nat} {d : DS} : letB (eP E) (eC E) (eN E) t g 1 (W1 E t d) = mset E 1 t g d.1 d.2.1 := by
  apply nat_ext
  intro i
  unfold letB mset msB
  rw [setB_bit, setB_bit]
  unfold W1 wts
  rw [Nat.testBit_and, setB_bit]
  by_cases hi : i < eN E
  · cases e : d.1.testBit i <;> simp [hi]
  · simp [hi]
theorem mset_lt (E : EV) (s t g o w : Nat) : mset E s t g o w < 2 ^ eN E := setB_lt _ _
theorem mset_side {E : EV} {s t g o w : Nat} : ∀ i, (mset E s t g o w).testBit i = true → o.testBit i = decide (s = 1) := by
  intro i hi
  unfold mset msB at hi
  rw [setB_bit] at hi
  simp only [Bool.and_eq_true, beq_iff_eq] at hi
  exact hi.2.1.1
theorem mset_mv {E : EV} {s t g T : Nat} {d : DS} (hN : eN E ≤ 12) (hs : s ≤ 1) (hT : ∀ i, T.testBit i = true → (mset E s t g d.1 d.2.1).testBit i = true) : mset E s t g (mvS s t d T).1 (mvS s t d T).2.1 = anot (mset E s t g d.1 d.2.1) T := by
  have h12 := p12 hN
  have hl := mset_lt E s t g d.1 d.2.1
  apply nat_ext
  intro i
  rw [anot_bit (by omega)]
  show (mset E s t g (d.1 ^^^ T) (if s = 0 then d.2.1 ||| T else d.2.1)).testBit i = _
  cases e : T.testBit i
  · unfold mset
    rw [setB_bit, setB_bit]
    have w1 : (if s = 0 then d.2.1 ||| T else d.2.1).testBit i = d.2.1.testBit i := by
      by_cases c : s = 0
      · rw [if_pos c, Nat.testBit_or, e, Bool.or_false]
      · rw [if_neg c]
    unfold msB wts
    rw [Nat.testBit_xor, e, Bool.xor_false, w1]
    simp
  · have := mset_side i (hT i e)
    unfold mset
    rw [setB_bit]
    unfold msB
    rw [Nat.testBit_xor, e, this]
    rcases (show s = 0 ∨ s = 1 by omega) with rfl | rfl <;> simp
theorem m_isFirst {h : Hp} {N p o s way : Nat} (PP : PN h N) (hp : p < N) (ho : o < p) (hs : s ≤ 1) (hw : way ≤ 2) {Q : Int32 → Prop} (hQ : Q (if keyf (hL h) (hRt h) (hC h) way s p < keyf (hL h) (hRt h) (hC h) way s o then 1 else 0)) : wX12_isFirst 55 (nI p) (nI o) (nI s) (nI way) h Q := by
  obtain ⟨hN, e1, e2, hq⟩ := PP
  obtain ⟨y1, y2, y3, y4, y5, y6, y7⟩ := hq p hp
  obtain ⟨z1, z2, z3, z4, z5, z6, z7⟩ := hq o (by omega)
  have vp : vp_in (nI p) 12 := (vp_nI (by omega)).mpr (by omega)
  have vo : vp_in (nI o) 12 := (vp_nI (by omega)).mpr (by omega)
  have last : ∀ a b : Int32, Q (if a < b then 1 else 0) → jX12_isFirst_72 (nI p) (nI o) a b h Q := by
    intro a b q
    unfold jX12_isFirst_72
    by_cases c : a < b
    · rw [if_pos c] at q ⊢; exact q
    · rw [if_neg c] at q ⊢
      by_cases d : a = b
      · rw [if_pos d, if_pos (nI_le (by omega) (by omega))]; exact q
      · rw [if_neg d]; exact q
  unfold wX12_isFirst jX12_isFirst_35
  simp only [rf_55_4, rf_55_5, rf_55_6, ln_57, ln_58, ln_59, nI_clamp (show p < 2 ^ 31 by omega), nI_clamp (show o < 2 ^ 31 by omega), y4, y5, y6, z4, z5, z6]
  unfold keyf at hQ
  by_cases c : way = 1
  · rw [if_pos c, if_pos c] at hQ
    rw [if_pos (show nI way = 1 by rw [c]; rfl), if_pos (show nI way = 1 by rw [c]; rfl)]
    exact ⟨vp, vo, last _ _ hQ⟩
  · rw [if_neg c, if_neg c] at hQ
    have cn : ¬ nI way = 1 := fun q => c ((nI_eq (b := 1) (by omega) (by omega)).mp q)
    rw [if_neg cn]
    by_cases d : s = 0
    · rw [if_pos d, if_pos d] at hQ
      rw [if_pos (show nI s = 0 by rw [d]; rfl), if_neg cn, if_pos (show nI s = 0 by rw [d]; rfl)]
      exact ⟨vp, vo, last _ _ hQ⟩
    · rw [if_neg d, if_neg d] at hQ
      have dn : ¬ nI s = 0 := nI_ne0 (by omega) (by omega)
      rw [if_neg dn, if_neg cn, if_neg dn]
      exact ⟨vp, vo, last _ _ hQ⟩
theorem m_pick {h : Hp} {E : EV} {s S T b : Nat} {x1 x7 : Int32} {K95 : Int32 → Int32 → Prop} {Q : Int32 → Hp → Prop} (X : EW h E) (hs : s ≤ 1) (hS : S < 2 ^ eN E) (hT : T < 2 ^ eN E) (hb : pick (eK E s) (anot S T) (eN E) = some b) (hK0 : K95 (nI (T ||| 2 ^ b)) (x7 + 1)) : eX12_firstOnes_112 55 x1 (nI s) (nI (eWay E)) (nI S) (nI T) x7 h K95 Q (-1) 0 := by
  have hN := X.1.1
  have h12 := p12 hN
  have hw := X.2.2.2.2.2.2
  have pb : ∀ b, pick (eK E s) (anot S T) (eN E) = some b → b < eN E := by
    intro b hb
    rcases pick_spec (eK E s) (anot S T) (eN E) with ⟨q, _⟩ | ⟨b', q1, q2, _⟩
    · rw [hb] at q; exact absurd q (by simp)
    · rw [hb] at q2; rw [Option.some.inj q2]; exact q1
  refine iX12_firstOnes_112 (I := fun x8 x9 => ∃ j : Nat, x9 = nI j ∧ j ≤ eN E ∧ ((pick (eK E s) (anot S T) j = none ∧ x8 = -1) ∨ ∃ b, b < j ∧ pick (eK E s) (anot S T) j = some b ∧ x8 = nI b)) (μ := fun _ x9 => eN E - x9.toNatClampNeg) ?_ (-1) 0 ⟨0, rfl, by omega, Or.inl ⟨rfl, rfl⟩⟩
  rintro x8 x9 ⟨j, rfl, hj, hor⟩ K hK
  unfold fX12_firstOnes_112
  rw [X.1.2.2.1]
  by_cases c : eN E ≤ j
  · rw [if_pos (nI_le c (by omega))]
    have : j = eN E := by omega
    subst this
    simp only [forall_eq]
    rcases hor with ⟨q, _⟩ | ⟨b', q1, q2, q3⟩
    · rw [hb] at q; exact absurd q (by simp)
    · rw [hb] at q2
      rw [q3, ← Option.some.inj q2, shl1 b (by have := pb b hb; omega), nI_or]
      exact hK0
  · rw [if_neg (nI_ge (by omega) (by omega)), bit_nI (show S < 2 ^ 31 by omega) (by omega), bit_nI (show T < 2 ^ 31 by omega) (by omega)]
    simp only [forall_eq, nI_1]
    have mu : eN E - (nI (j + 1)).toNatClampNeg < eN E - (nI j).toNatClampNeg := by rw [nI_clamp (by omega), nI_clamp (by omega)]; omega
    have ab : (anot S T).testBit j = (S.testBit j && !T.testBit j) := anot_bit (by omega)
    have skip : (anot S T).testBit j = false → K x8 (nI (j + 1)) := by
      intro f
      refine hK _ _ ⟨j + 1, rfl, by omega, ?_⟩ mu
      rw [pick, f, if_neg (by decide)]
      rcases hor with q | ⟨b', q1, q2⟩
      · exact Or.inl q
      · exact Or.inr ⟨b', by omega, q2⟩
    cases e1 : S.testBit j
    · rw [if_neg (by decide)]
      exact skip (by rw [ab, e1]; rfl)
    · rw [if_pos (by decide)]
      cases e2 : T.testBit j
      · rw [if_pos (by decide)]
        have f : (anot S T).testBit j = true := by rw [ab, e1, e2]; rfl
        rcases hor with ⟨q1, q2⟩ | ⟨b', q1, q2, q3⟩
        · rw [q2, if_pos (by decide)]
          refine hK _ _ ⟨j + 1, rfl, by omega, Or.inr ⟨j, by omega, ?_, rfl⟩⟩ mu
          rw [pick, f, if_pos rfl, q1]
        · rw [q3, if_neg (nI_pos (by omega))]
          apply m_isFirst X.1 (show j < eN E by omega) q1 hs hw
          rw [X.2.2.2.1, X.2.2.2.2.1, X.2.2.2.2.2.1]
          by_cases d : keyf (eL E) (eR E) (eC E) (eWay E) s j < keyf (eL E) (eR E) (eC E) (eWay E) s b'
          · rw [if_pos d, if_neg (by decide)]
            refine hK _ _ ⟨j + 1, rfl, by omega, Or.inr ⟨j, by omega, ?_, rfl⟩⟩ mu
            rw [pick, f, if_pos rfl, q2]
            exact if_pos d
          · rw [if_neg d, if_pos (by decide)]
            refine hK _ _ ⟨j + 1, rfl, by omega, Or.inr ⟨b', by omega, ?_, rfl⟩⟩ mu
            rw [pick, f, if_pos rfl, q2]
            exact if_neg d
      · rw [if_neg (by decide)]
        exact skip (by rw [ab, e1, e2]; rfl)
theorem m_ones {h1 : Hp} {E : EV} {s t g o w : Nat} {Q : Int32 → Hp → Prop} (X : EW h1 E) (hg : g < eG E) (hs : s ≤ 1) (ht : t < 60) (ho : o < 2 ^ eN E) (hw : w < 2 ^ eN E) (eo : gI h1 55 33 = nI o) (ew : gI h1 55 34 = nI w)
    (h1' : eNum E g ≤ pop (mset E s t g o w) → ∀ h', Fs h1 h' → Q (nI (tkT (eK E s) (eN E) (mset E s t g o w) (eNum E g))) h') (h2' : pop (mset E s t g o w) < eNum E g → ∀ h', Fs h1 h' → Q 0 h') : wX12_firstOnes 55 (nI g) (nI s) (nI t) (nI (eWay E)) h1 Q := by
  have hN := X.1.1
  have h12 := p12 hN
  have hgn := X.2.1.1
  obtain ⟨y1, y2, y3, y4⟩ := X.2.1.2.2.2 g hg
  have hSl := mset_lt E s t g o w
  have pl := pop_le (mset E s t g o w) (by omega)
  unfold wX12_firstOnes
  refine iX12_firstOnes_6 (I := fun x5 x6 h => ∃ j : Nat, x6 = nI j ∧ j ≤ eN E ∧ x5 = nI (setB (msB E s t g o w) j) ∧ Fs h1 h) (μ := fun _ x6 _ => eN E - x6.toNatClampNeg) ?_ 0 0 h1 ⟨0, rfl, by omega, rfl, Fs.refl h1⟩
  rintro x5 x6 h ⟨j, rfl, hj, rfl, F⟩ K hK
  have Xh := X.fw F.fw
  unfold fX12_firstOnes_6
  rw [Xh.1.2.2.1, F.at 55 33 (by decide), F.at 55 34 (by decide), eo, ew]
  by_cases c : eN E ≤ j
  · rw [if_pos (nI_le c (by omega))]
    have : j = eN E := by omega
    subst this
    show wX12_bitsOf (nI (mset E s t g o w)) h _
    apply m_bitsOf (by omega)
    rw [rf_55_2, ln_56, nI_clamp (by omega), (Xh.2.1.2.2.2 g hg).2.1]
    have vg : vp_in (nI g) 3 := (vp_nI (by omega)).mpr (by omega)
    refine ⟨vg, ?_⟩
    by_cases e : eNum E g ≤ pop (mset E s t g o w)
    · rw [if_pos (nI_le e (by omega))]
      refine iX12_firstOnes_95 (I := fun x6 x7 => ∃ k : Nat, x7 = nI k ∧ k ≤ eNum E g ∧ x6 = nI (tkT (eK E s) (eN E) (mset E s t g o w) k)) (μ := fun _ x7 => eNum E g - x7.toNatClampNeg) ?_ 0 0 ⟨0, rfl, by omega, rfl⟩
      rintro x6 x7 ⟨k, rfl, hk, rfl⟩ K2 hK2
      unfold fX12_firstOnes_95
      rw [rf_55_2, ln_56, nI_clamp (show g < 2 ^ 31 by omega), (Xh.2.1.2.2.2 g hg).2.1]
      refine ⟨vg, ?_⟩
      by_cases z : eNum E g ≤ k
      · rw [if_pos (nI_le z (by omega)), show k = eNum E g by omega]
        exact h1' e h F
      · rw [if_neg (nI_ge (by omega) (by omega))]
        obtain ⟨s1, s2, s3⟩ := tk_spec (key := eK E s) hN hSl k (by omega)
        obtain ⟨b, b1, b2, b3, b4, b5⟩ := tk_next (key := eK E s) hN hSl (show k < pop (mset E s t g o w) by omega) s3
        apply m_pick Xh hs hSl (tk_lt hN hSl (by omega)) b2
        rw [← b5, nI_1]
        exact hK2 _ _ ⟨k + 1, rfl, by omega, rfl⟩ (by rw [nI_clamp (by omega), nI_clamp (by omega)]; omega)
    · rw [if_neg (nI_ge (by omega) (by omega))]
      exact h2' (by omega) h F
  · rw [if_neg (nI_ge (by omega) (by omega)), bit_nI (show o < 2 ^ 31 by omega) (by omega)]
    simp only [forall_eq, nI_1]
    have mu : eN E - (nI (j + 1)).toNatClampNeg < eN E - (nI j).toNatClampNeg := by rw [nI_clamp (by omega), nI_clamp (by omega)]; omega
    have skip : msB E s t g o w j = false → ∀ h', Fs h1 h' → K (nI (setB (msB E s t g o w) j)) (nI (j + 1)) h' := by
      intro f h' F'
      refine hK _ _ _ ⟨j + 1, rfl, by omega, ?_, F'⟩ mu
      rw [setB, if_neg (by rw [f]; decide)]
    by_cases eb : o.testBit j = decide (s = 1)
    · have : (if o.testBit j = true then (1 : Int32) else 0) = nI s := by
        rw [eb]
        rcases (show s = 0 ∨ s = 1 by omega) with rfl | rfl <;> rfl
      rw [if_pos this]
      apply m_waitsIn Xh.1 (by omega) (by omega) (by omega) (show j < eN E by omega)
      rw [Xh.2.2.2.1, Xh.2.2.2.2.1]
      cases ewt : wts (eL E) (eR E) t o w j
      · rw [if_pos (by decide)]
        exact skip (by unfold msB; rw [ewt]; simp) h F
      · rw [if_neg (by decide)]
        apply m_mayGo Xh.1 (show j < eN E by omega) Xh.2.2.1
        intro h2 F2
        rw [Xh.2.2.2.2.2.1]
        cases em : mayV (eP E) (eC E) t g j s
        · rw [if_pos (by decide)]
          exact skip (by unfold msB; rw [em]; simp) h2 (F.trans F2)
        · rw [if_neg (by decide), shl1 j (by omega), nI_or]
          refine hK _ _ _ ⟨j + 1, rfl, by omega, ?_, F.trans F2⟩ mu
          rw [setB, if_pos (by unfold msB; rw [ewt, em, eb]; simp)]
    · have : ¬ (if o.testBit j = true then (1 : Int32) else 0) = nI s := by
        intro q
        apply eb
        rcases (show s = 0 ∨ s = 1 by omega) with rfl | rfl
        · cases hh : o.testBit j
          · rfl
          · rw [hh] at q; exact absurd q (by decide)
        · cases hh : o.testBit j
          · rw [hh] at q; exact absurd q (by decide)
          · rfl
      rw [if_neg this]
      exact skip (by unfold msB; rw [beq_eq_false_iff_ne.mpr eb]; simp) h F
