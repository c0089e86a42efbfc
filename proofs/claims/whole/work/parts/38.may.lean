/-! a gate and a way -/
theorem gw_cases (x : Int32) (g : Nat) (hg : g ≤ 3) : (∀ h num, GN h g num → ∀ Q : Int32 → Prop, Q 0 → wX11_isGateAndWay 0 x h Q ∧ wX12_isGateWay 55 x h Q) ∨
    ∃ k s, k < g ∧ s ≤ 1 ∧ x / 10 = nI k ∧ rm x 10 = nI s ∧ ∀ h num, GN h g num → ∀ Q : Int32 → Prop, (Q 1 → wX11_isGateAndWay 0 x h Q) ∧ (Q 1 → wX12_isGateWay 55 x h Q) := by
  unfold wX11_isGateAndWay wX12_isGateWay
  by_cases c : x < 0
  · refine Or.inl (fun h num G Q q => ?_)
    rw [if_pos c, if_pos c]
    exact ⟨q, q⟩
  · obtain ⟨j, hj, rfl⟩ := nI_of c
    have e1 : nI j / 10 = nI (j / 10) := pk_div hj (d := 10) (by omega) (by omega)
    have e2 : rm (nI j) 10 = nI (j % 10) := pk_rem hj (d := 10) (by omega) (by omega)
    by_cases d : j / 10 < g
    · have cc : ¬ (nI (j / 10) < 0 ∨ ¬ nI (j / 10) < nI g) := fun q => q.elim (fun q => nI_pos (by omega) q) (fun q => q (nI_lt d (by omega)))
      by_cases e : j % 10 ≤ 1
      · refine Or.inr ⟨j / 10, j % 10, d, e, e1, e2, fun h num G Q => ?_⟩
        rw [if_neg c, if_neg c, e1, e2, rf_0_0, e_gHas, G.2.1, e_isGate _ G.2.2.1 (by omega), if_neg cc, if_neg (by decide), if_neg (show ¬ (1 : Int32) < nI (j % 10) from nI_nlt (a := 1) e (by omega))]
        exact ⟨id, id⟩
      · refine Or.inl (fun h num G Q q => ?_)
        rw [if_neg c, if_neg c, e1, e2, rf_0_0, e_gHas, G.2.1, e_isGate _ G.2.2.1 (by omega), if_neg cc, if_neg (by decide), if_pos (show (1 : Int32) < nI (j % 10) from nI_lt (a := 1) (by omega) (by omega))]
        exact ⟨q, q⟩
    · refine Or.inl (fun h num G Q q => ?_)
      have cc : nI (j / 10) < 0 ∨ ¬ nI (j / 10) < nI g := Or.inr (nI_nlt (by omega) (by omega))
      rw [if_neg c, if_neg c, e1, rf_0_0, e_gHas, G.2.1, e_isGate _ G.2.2.1 (by omega), if_pos cc, if_pos rfl]
      exact ⟨q, q⟩
theorem b2i {b : Bool} {Q : Int32 → Prop} (h : Q (if b then 1 else 0)) : (if (if b = true then (1 : Int32) else 0) = 0 then Q 0 else Q 1) := by
  cases b
  · exact h
  · exact h
-- may
set_option maxRecDepth 20000 in
set_option maxHeartbeats 1000000 in
theorem ok_may {h : Hp} (I : Inv h) (x1 : Int32) (x2 : Int32) (x3 : Int32) {A1 : Prop} (b1 : A1) {A2 : Prop} (b2 : A2) {A3 : Prop} (b3 : A3) {R : Hp → Prop} {Q0 : Prop} (hR : ∀ h', Inv h' → R h') : wX11_may 0 x1 x2 x3 h (fun v h1 => A1 ∧ (A2 ∧ (A3 ∧ (wX12_may 55 x1 x2 x3 h1 (fun v' h2 => if v = v' then R h2 else Q0))))) := by
  obtain ⟨N, PP⟩ := I.people
  obtain ⟨g, num, G⟩ := I.gates
  obtain ⟨P0, P1, L0, L1⟩ := I.laws
  have hN := PP.1
  unfold wX11_may
  rw [rf_0_1, rf_0_4, e_pHas, PP.2.1]
  rcases ix x1 N (by omega) with c | ⟨p, hp, rfl, c⟩
  · rw [if_pos c, if_pos rfl]
    refine ⟨b1, b2, b3, ?_⟩
    unfold wX12_may
    rw [e_isPerson x1 PP.2.2.1 (by omega), if_pos c, if_pos rfl]
    exact fin rfl (hR h I)
  · rw [if_neg c, if_neg (by decide)]
    have op : ∀ h1, Fs h h1 → ∀ Q : Int32 → Hp → Prop, (wX12_isGateWay 55 x2 h1 (fun v2 => if v2 = 0 then (Q (-1 : Int32) h1) else (wX12_isTime x3 h1 (fun v3 => if v3 = 0 then (Q (-1 : Int32) h1) else (wX12_mayGo 55 (nI p) (x2 / (10 : Int32)) (rm x2 (10 : Int32)) x3 h1 (fun v4 h5 => if v4 = 0 then (Q (0 : Int32) h5) else (Q (1 : Int32) h5))))))) → wX12_may 55 (nI p) x2 x3 h1 Q := by
      intro h1 F Q q
      unfold wX12_may
      rw [e_isPerson (nI p) (PP.fs F).2.2.1 (by omega), if_neg c, if_neg (by decide)]
      exact q
    rcases gw_cases x2 g G.1 with gw | ⟨k, s, hk, hs, e1, e2, gw⟩
    · refine (gw h num G _ ?_).1
      rw [if_pos rfl]
      refine ⟨b1, b2, b3, op h (Fs.refl h) _ ?_⟩
      refine (gw h num G _ ?_).2
      rw [if_pos rfl]
      exact fin rfl (hR h I)
    · refine (gw h num G _).1 ?_
      rw [if_neg (by decide), e_isTime]
      rcases ix x3 60 (by omega) with d | ⟨t, ht, rfl, d⟩
      · have d : x3 < 0 ∨ ¬ x3 < 60 := d
        rw [if_pos d, if_pos rfl]
        refine ⟨b1, b2, b3, op h (Fs.refl h) _ ?_⟩
        refine (gw h num G _).2 ?_
        rw [if_neg (by decide), e_mTime, if_pos d, if_pos rfl]
        exact fin rfl (hR h I)
      · have d : ¬ (nI t < 0 ∨ ¬ nI t < 60) := d
        rw [if_neg d, if_neg (by decide), e1, e2]
        apply c_lets PP hp L0
        intro h1 F1
        have fin2 : ∀ v : Int32, v = (if mayV P0 (hC h) t k p s = true then 1 else 0) → wX12_may 55 (nI p) x2 (nI t) h1 (fun v' h2 => if v = v' then R h2 else Q0) := by
          intro v hv
          apply op h1 F1
          refine (gw h1 num (G.fs F1) _).2 ?_
          rw [if_neg (by decide), e_mTime, if_neg d, if_neg (by decide), e1, e2]
          apply m_mayGo (PP.fs F1) hp (L0.fs0 F1)
          intro h2 F2
          rw [hC_fs F1]
          apply b2i (Q := fun v' => if v = v' then R h2 else Q0)
          exact fin hv (hR h2 (I.fs (F1.trans F2)))
        apply b2i (Q := fun v => A1 ∧ A2 ∧ A3 ∧ wX12_may 55 (nI p) x2 (nI t) h1 (fun v' h2 => if v = v' then R h2 else Q0))
        exact ⟨b1, b2, b3, fin2 _ rfl⟩
-- comes
set_option maxRecDepth 20000 in
set_option maxHeartbeats 1000000 in
theorem ok_comes {h : Hp} (I : Inv h) (x1 : Int32) (x2 : Int32) {A1 : Prop} (b1 : A1) {A2 : Prop} (b2 : A2) {R : Hp → Prop} {Q0 : Prop} (hR : ∀ h', Inv h' → R h') : wX11_comes 0 x1 x2 h (fun v h1 => A1 ∧ (A2 ∧ (wX12_comes 55 x1 x2 h1 (fun v' h2 => if v = v' then R h2 else Q0)))) := by
  obtain ⟨g, num, G⟩ := I.gates
  obtain ⟨P0, P1, L0, L1⟩ := I.laws
  have hg := G.1
  unfold wX11_comes
  by_cases c : x1 < 0
  · rw [if_pos c]
    refine ⟨b1, b2, ?_⟩
    unfold wX12_comes
    rw [if_pos c]
    exact fin rfl (hR h I)
  · rw [if_neg c]
    obtain ⟨j, hj, rfl⟩ := nI_of c
    have e1 : nI j / 10 = nI (j / 10) := pk_div hj (d := 10) (by omega) (by omega)
    have e2 : rm (nI j) 10 = nI (j % 10) := pk_rem hj (d := 10) (by omega) (by omega)
    have op : ∀ h1, Fs h h1 → ∀ Q : Int32 → Hp → Prop, (wX12_isGate 55 (nI (j / 10)) h1 (fun v1 => if v1 = 0 then (Q (-1 : Int32) h1) else (wX12_isTime x2 h1 (fun v2 => if v2 = 0 then (Q (-1 : Int32) h1) else (wX12_comesTo 55 (nI (j / 10)) (nI (j % 10)) x2 h1 (fun v3 h4 => Q v3 h4)))))) → wX12_comes 55 (nI j) x2 h1 Q := by
      intro h1 F Q q
      unfold wX12_comes
      rw [if_neg c, e1, e2]
      exact q
    rw [e1, e2, rf_0_0, rf_0_4, e_gHas, G.2.1]
    rcases ix (nI (j / 10)) g (by omega) with d | ⟨k, hk, ek, d⟩
    · rw [if_pos d, if_pos rfl]
      refine ⟨b1, b2, op h (Fs.refl h) _ ?_⟩
      rw [e_isGate _ G.2.2.1 (by omega), if_pos d, if_pos rfl]
      exact fin rfl (hR h I)
    · rw [← ek] at d
      rw [if_neg d, if_neg (by decide), e_isTime]
      rcases ix x2 60 (by omega) with e | ⟨t, ht, rfl, e⟩
      · have e : x2 < 0 ∨ ¬ x2 < 60 := e
        rw [if_pos e, if_pos rfl]
        refine ⟨b1, b2, op h (Fs.refl h) _ ?_⟩
        rw [e_isGate _ G.2.2.1 (by omega), if_neg d, if_neg (by decide), e_mTime, if_pos e, if_pos rfl]
        exact fin rfl (hR h I)
      · have e : ¬ (nI t < 0 ∨ ¬ nI t < 60) := e
        rw [if_neg e, if_neg (by decide)]
        apply c_chance L1
        intro h1 F1
        refine ⟨b1, b2, op h1 F1 _ ?_⟩
        rw [e_isGate _ (G.fs F1).2.2.1 (by omega), if_neg d, if_neg (by decide), e_mTime, if_neg e, if_neg (by decide)]
        apply m_comesTo (L1.fs1 F1)
        intro h2 F2
        exact fin rfl (hR h2 (I.fs (F1.trans F2)))
/-! those of a set who may -/
def letB (P : Option Lns) (c : Nat → Nat) (N t g s W : Nat) : Nat := setB (fun p => W.testBit p && mayV P c t g p s) N
theorem bit_hi {W N i : Nat} (h : W < 2 ^ N) (hi : N ≤ i) : W.testBit i = false := Nat.testBit_lt_two_pow (Nat.lt_of_lt_of_le h (Nat.pow_le_pow_right (by omega) hi))
theorem c_letting {h0 : Hp} {N g s t W : Nat} {P : Option Lns} (PP : PN h0 N) (hW : W < 2 ^ N) (L : LT h0 10 11 12 0 P) {Q : Int32 → Hp → Prop} (hQ : ∀ h', Fs h0 h' → Q (nI (letB P (hC h0) N t g s W)) h') : wX6_lettingOf 8 3 (nI W) (nI g) (nI s) (nI t) h0 Q := by
  unfold wX6_lettingOf
  have hN := PP.1
  have h12 := p12 hN
  refine iX6_lettingOf_6 (I := fun x6 x7 h => ∃ X j : Nat, x6 = nI X ∧ x7 = nI j ∧ j ≤ N ∧ X < 2 ^ N ∧ (∀ i, X.testBit i = (W.testBit i && (decide (j ≤ i) || mayV P (hC h0) t g i s))) ∧ Fs h0 h) (μ := fun _ x7 _ => N - x7.toNatClampNeg) ?_ (nI W) 0 h0 ⟨W, 0, rfl, rfl, by omega, hW, fun i => by simp, Fs.refl h0⟩
  rintro x6 x7 h ⟨X, j, rfl, rfl, hj, hX, hb, F⟩ K hK
  unfold fX6_lettingOf_6
  have PP1 := PP.fs F
  have L1 := L.fs0 F
  rw [PP1.2.1, rf_8_1]
  by_cases c : N ≤ j
  · rw [if_pos (nI_le c (by omega))]
    have : X = letB P (hC h0) N t g s W := by
      apply nat_ext
      intro i
      unfold letB
      rw [hb, setB_bit]
      by_cases hi : i < N
      · simp [hi, show ¬ j ≤ i by omega]
      · simp [bit_hi hW (show N ≤ i by omega)]
    rw [this]
    exact hQ h F
  · rw [if_neg (nI_ge (by omega) (by omega))]
    by_cases c0 : gI h 10 4 = 0
    · rw [if_pos c0]
      have : X = letB P (hC h0) N t g s W := by
        cases P with
        | some P => exact absurd (L1.1.symm.trans c0) (by decide)
        | none =>
          apply nat_ext
          intro i
          unfold letB
          rw [hb, setB_bit]
          by_cases hi : i < N
          · simp [hi, mayV]
          · simp [bit_hi hW (show N ≤ i by omega)]
      rw [this]
      exact hQ h F
    · rw [if_neg c0]
      unfold wX11_bit
      rw [bit_nI (show W < 2 ^ 31 by omega) (show j < 32 by omega)]
      simp only [forall_eq, nI_1]
      cases hw : W.testBit j
      · rw [if_pos (by decide)]
        refine hK _ _ _ ⟨X, j + 1, rfl, rfl, by omega, hX, fun i => ?_, F⟩ (by rw [nI_clamp (by omega), nI_clamp (by omega)]; omega)
        rw [hb]
        by_cases e : i = j
        · subst e; simp [hw]
        · by_cases e2 : j ≤ i
          · simp [e2, show j + 1 ≤ i by omega]
          · simp [e2, show ¬ j + 1 ≤ i by omega]
      · rw [if_pos rfl, if_neg (by decide)]
        apply c_lets PP1 (show j < N by omega) L1
        intro h2 F2
        rw [hC_fs F]
        cases hm : mayV P (hC h0) t g j s
        · rw [if_pos (by decide), shl1 j (by omega), anot_nI (by omega)]
          refine hK _ _ _ ⟨anot X (2 ^ j), j + 1, rfl, rfl, by omega, Nat.lt_of_le_of_lt anot_le hX, fun i => ?_, F.trans F2⟩ (by rw [nI_clamp (by omega), nI_clamp (by omega)]; omega)
          rw [anot_bit (by omega), hb, Nat.testBit_two_pow]
          by_cases e : i = j
          · subst e; simp [hm]
          · by_cases e2 : j ≤ i
            · simp [e2, show j + 1 ≤ i by omega, show ¬ j = i by omega]
            · simp [e2, show ¬ j + 1 ≤ i by omega, show ¬ j = i by omega]
        · rw [if_pos rfl, if_neg (by decide)]
          refine hK _ _ _ ⟨X, j + 1, rfl, rfl, by omega, hX, fun i => ?_, F.trans F2⟩ (by rw [nI_clamp (by omega), nI_clamp (by omega)]; omega)
          rw [hb]
          by_cases e : i = j
          · subst e; simp [hm]
          · by_cases e2 : j ≤ i
            · simp [e2, show j + 1 ≤ i by omega]
            · simp [e2, show ¬ j + 1 ≤ i by omega]
theorem letB_eq {P : Option Lns} {c : Nat → Nat} {N t g s W : Nat} (hW : W < 2 ^ N) : letB P c N t g s W = W ↔ ∀ p, p < N → W.testBit p = true → mayV P c t g p s = true := by
  constructor
  · intro h p hp hb
    have : (letB P c N t g s W).testBit p = true := by rw [h]; exact hb
    unfold letB at this
    rw [setB_bit] at this
    simp only [Bool.and_eq_true] at this
    exact this.2.2
  · intro h
    apply nat_ext
    intro i
    unfold letB
    rw [setB_bit]
    by_cases hi : i < N
    · cases hb : W.testBit i
      · simp
      · simp [hi, h i hi hb]
    · simp [bit_hi hW (show N ≤ i by omega)]
theorem letB_lt (P : Option Lns) (c : Nat → Nat) (N t g s W : Nat) : letB P c N t g s W < 2 ^ N := setB_lt _ _
/-- canPass, of the reference: those who go are all on that side, and may -/
theorem m_canPass {h0 : Hp} {N g gn s t o W : Nat} {num : Nat → Nat} {P : Option Lns} (PP : PN h0 N) (G : GN h0 gn num) (hg : g < gn) (hs : s ≤ 1) (hW : W < 2 ^ N) (ho : o < 2 ^ N) (e1 : gI h0 55 7 = nI t) (e2 : gI h0 55 8 = nI o) (L : LT h0 10 11 12 0 P) {Q : Int32 → Hp → Prop}
    (h1 : pop W = num g → (∀ p, p < N → W.testBit p = true → o.testBit p = decide (s = 1) ∧ mayV P (hC h0) t g p s = true) → ∀ h', Fs h0 h' → Q 1 h')
    (h2 : ¬ (pop W = num g ∧ ∀ p, p < N → W.testBit p = true → o.testBit p = decide (s = 1) ∧ mayV P (hC h0) t g p s = true) → ∀ h', Fs h0 h' → Q 0 h') : wX12_canPass 55 (nI g) (nI s) (nI W) h0 Q := by
  have hN := PP.1
  have h12 := p12 hN
  obtain ⟨y1, y2, y3, y4⟩ := G.2.2.2 g hg
  have hgn := G.1
  unfold wX12_canPass
  apply m_bitsOf (by omega)
  rw [rf_55_2, ln_56, nI_clamp (by omega), y2]
  refine ⟨(vp_nI (by omega)).mpr (by omega), ?_⟩
  have := pop_le W (by omega)
  by_cases cp : pop W = num g
  · rw [if_pos (by rw [cp])]
    refine iX12_canPass_18 (I := fun x4 h => ∃ j : Nat, x4 = nI j ∧ j ≤ N ∧ Fs h0 h ∧ ∀ p, p < j → W.testBit p = true → o.testBit p = decide (s = 1) ∧ mayV P (hC h0) t g p s = true) (μ := fun x4 _ => N - x4.toNatClampNeg) ?_ 0 h0 ⟨0, rfl, by omega, Fs.refl h0, fun p hp => by omega⟩
    rintro x4 h ⟨j, rfl, hj, F, hall⟩ K hK
    unfold fX12_canPass_18
    have PP1 := PP.fs F
    rw [PP1.2.2.1, F.at 55 8 (by decide), F.at 55 7 (by decide), e1, e2]
    by_cases c : N ≤ j
    · rw [if_pos (nI_le c (by omega))]
      exact h1 cp (fun p hp => hall p (by omega)) h F
    · rw [if_neg (nI_ge (by omega) (by omega)), bit_nI (show W < 2 ^ 31 by omega) (by omega), bit_nI (show o < 2 ^ 31 by omega) (by omega)]
      simp only [forall_eq, nI_1]
      cases hw : W.testBit j
      · rw [if_pos (by decide)]
        refine hK _ _ ⟨j + 1, rfl, by omega, F, fun p hp hb => ?_⟩ (by rw [nI_clamp (by omega), nI_clamp (by omega)]; omega)
        by_cases e : p = j
        · subst e; rw [hw] at hb; exact absurd hb (by decide)
        · exact hall p (by omega) hb
      · rw [if_pos rfl, if_neg (by decide)]
        by_cases eo : o.testBit j = decide (s = 1)
        · have : (if o.testBit j = true then (1 : Int32) else 0) = nI s := by
            rw [eo]
            rcases (show s = 0 ∨ s = 1 by omega) with rfl | rfl <;> rfl
          rw [if_pos this]
          apply m_mayGo PP1 (show j < N by omega) (L.fs0 F)
          intro h3 F3
          rw [hC_fs F]
          cases hm : mayV P (hC h0) t g j s
          · rw [if_pos (by decide)]
            refine h2 (fun q => ?_) h3 (F.trans F3)
            have := (q.2 j (by omega) hw).2
            rw [hm] at this
            exact absurd this (by decide)
          · rw [if_pos rfl, if_neg (by decide)]
            refine hK _ _ ⟨j + 1, rfl, by omega, F.trans F3, fun p hp hb => ?_⟩ (by rw [nI_clamp (by omega), nI_clamp (by omega)]; omega)
            by_cases e : p = j
            · subst e; exact ⟨eo, hm⟩
            · exact hall p (by omega) hb
        · have : ¬ (if o.testBit j = true then (1 : Int32) else 0) = nI s := by
            intro q
            apply eo
            rcases (show s = 0 ∨ s = 1 by omega) with rfl | rfl
            · cases hh : o.testBit j
              · rfl
              · rw [hh] at q; exact absurd q (by decide)
            · cases hh : o.testBit j
              · rw [hh] at q; exact absurd q (by decide)
              · rfl
          rw [if_neg this]
          exact h2 (fun q => eo (q.2 j (by omega) hw).1) h F
  · rw [if_neg (fun q => cp ((nI_eq (by omega) (by omega)).mp q))]
    exact h2 (fun q => cp q.1) h0 (Fs.refl h0)
theorem nn32 (x : Int32) : (x ^^^ (-1)) ^^^ (-1) = x := by
  rw [Int32.xor_assoc, Int32.xor_self, Int32.xor_zero]
theorem e_numberOf {h : Hp} {g k : Nat} {num : Nat → Nat} (G : GN h g num) (hk : k < g) (Q : Int32 → Prop) : wX4_numberOf 1 (nI k) h Q = Q (nI (num k)) := by
  obtain ⟨hg, e1, e2, hn⟩ := G
  obtain ⟨y1, y2, y3, y4⟩ := hn k hk
  unfold wX4_numberOf
  have cc : ¬ (nI k < 0 ∨ ¬ nI k < nI g) := fun q => q.elim (fun q => nI_pos (by omega) q) (fun q => q (nI_lt hk (by omega)))
  rw [e_gHas, e1, if_neg cc, if_neg (by decide), rf_1_0, ln_2, nI_clamp (by omega), y1]
  exact propext ⟨fun q => q.2, fun q => ⟨(vp_nI (by omega)).mpr (by omega), q⟩⟩
