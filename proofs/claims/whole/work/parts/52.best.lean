def cmI (h0 : Hp) (m F : Nat) (v : Int32) (w o : Nat) : Prop := v = 2147483647 ∨ ∃ o0 B, o0 < 32 ∧ tb h0 w o0 = v ∧ o = anot o0 B ∧ sbt B o0 ∧ sbt B F ∧ pop B % m = 0
def inI (h0 : Hp) (m F : Nat) (h : Hp) : Prop := (∀ w o, w < 32 → o < 32 → tb h w o ≤ tb h0 w o) ∧ (∀ w o, w < 32 → o < 32 → cmI h0 m F (tb h w o) w o) ∧ gI h 30 5 = gI h0 30 5 ∧ gI h 30 6 = gI h0 30 6 ∧ (∀ k, gI h 32 k = gI h0 32 k) ∧ Fb h0 h
theorem anot_lt {o G : Nat} (ho : o < 4096) (h1 : 1 ≤ G) (hs : sbt G o) : anot o G < o := by
  rcases Nat.lt_or_ge (anot o G) o with q | q
  · exact q
  · exfalso
    have e : anot o G = o := Nat.le_antisymm anot_le q
    have z : G = 0 := by
      apply nat_ext
      intro i
      rw [Nat.zero_testBit]
      cases c : G.testBit i
      · rfl
      · have h2 := hs i c
        rw [← e, anot_bit ho, c, Bool.not_true, Bool.and_false] at h2
        exact absurd h2 (by decide)
    omega
theorem inI.lower {h0 h : Hp} {m F w o G : Nat} (I : inI h0 m F h) (hw : w < 32) (ho : o < 32) (hd : sbt G o) (hF : sbt G F) (hm : pop G = m) (hn : tb h w o ≠ 2147483647) : inI h0 m F (sI h 31 (w * 32 + anot o G) (mn (tb h w (anot o G)) (tb h w o))) := by
  obtain ⟨i1, i2, i3, i4, i5, i6⟩ := I
  have g2 : anot o G < 32 := Nat.lt_of_le_of_lt anot_le ho
  refine ⟨fun a b ha hb => ?_, fun a b ha hb => ?_, by simp only [forall_eq, gI_sI, gI_sL, gL_sI, gL_sL, gI_cpI, gL_cpI, gI_cpL, gL_cpL, Nat.reduceEqDiff, Nat.reduceAdd, Nat.reduceSub, cl0, cl1, cl12, cl39, and_false, false_and, and_true, true_and, and_self, ↓reduceIte]; exact i3, by simp only [forall_eq, gI_sI, gI_sL, gL_sI, gL_sL, gI_cpI, gL_cpI, gI_cpL, gL_cpL, Nat.reduceEqDiff, Nat.reduceAdd, Nat.reduceSub, cl0, cl1, cl12, cl39, and_false, false_and, and_true, true_and, and_self, ↓reduceIte]; exact i4, fun k => by simp only [forall_eq, gI_sI, gI_sL, gL_sI, gL_sL, gI_cpI, gL_cpI, gI_cpL, gL_cpL, Nat.reduceEqDiff, Nat.reduceAdd, Nat.reduceSub, cl0, cl1, cl12, cl39, and_false, false_and, and_true, true_and, and_self, ↓reduceIte]; exact i5 k, i6.set 31 _ _ rfl⟩
  · show gI (sI h 31 (w * 32 + anot o G) (mn (tb h w (anot o G)) (tb h w o))) 31 (a * 32 + b) ≤ _
    rw [gI_sI]
    by_cases e : a * 32 + b = w * 32 + anot o G
    · rw [if_pos ⟨rfl, e⟩]
      have e1 : a = w := by omega
      have e2 : b = anot o G := by omega
      rw [e1, e2]
      exact Int32.le_trans (mn_le1 _ _) (i1 _ _ hw g2)
    · rw [if_neg (fun q => e q.2)]
      exact i1 a b ha hb
  · show cmI h0 m F (gI (sI h 31 (w * 32 + anot o G) (mn (tb h w (anot o G)) (tb h w o))) 31 (a * 32 + b)) a b
    rw [gI_sI]
    by_cases e : a * 32 + b = w * 32 + anot o G
    · rw [if_pos ⟨rfl, e⟩]
      have e1 : a = w := by omega
      have e2 : b = anot o G := by omega
      rw [e1, e2]
      rcases mn_or (tb h w (anot o G)) (tb h w o) with q | q
      · rw [q]; exact i2 _ _ hw g2
      · rw [q]
        rcases i2 w o hw ho with z | ⟨o0, B, z2, z3, z5, z6, z7, z8⟩
        · exact absurd z hn
        · have dis : ∀ i, B.testBit i = true → G.testBit i = false := by
            intro i hi
            cases q : G.testBit i
            · rfl
            · have := hd i q
              rw [z5, anot_bit (by omega), hi] at this
              simp at this
          refine Or.inr ⟨o0, B ||| G, z2, z3, ?_, fun i hi => ?_, fun i hi => ?_, ?_⟩
          · rw [z5]
            apply nat_ext
            intro i
            rw [anot_bit (Nat.lt_of_le_of_lt anot_le (by omega)), anot_bit (by omega), anot_bit (by omega), Nat.testBit_or]
            cases o0.testBit i <;> cases B.testBit i <;> cases G.testBit i <;> rfl
          · rw [Nat.testBit_or] at hi
            cases q : B.testBit i
            · rw [q, Bool.false_or] at hi
              have := hd i hi
              rw [z5, anot_bit (by omega)] at this
              simp only [Bool.and_eq_true] at this
              exact this.1
            · exact z6 i q
          · rw [Nat.testBit_or] at hi
            cases q : B.testBit i
            · rw [q, Bool.false_or] at hi
              exact hF i hi
            · exact z7 i q
          · rw [pop_or dis, hm, Nat.add_mod_right]
            exact z8
    · rw [if_neg (fun q => e q.2)]
      exact i2 a b ha hb
theorem anot_0 {o : Nat} (ho : o < 4096) : anot o 0 = o := by
  apply nat_ext
  intro i
  rw [anot_bit ho, Nat.zero_testBit]
  simp
/-- the class lets groups in -/
theorem c_in {h0 : Hp} {E : EV} {F : Nat} (hN : eN E ≤ 5) (e6 : gI h0 30 6 = nI (2 ^ eN E)) (GR : GRP E (eNum E 0) F h0) {Q : Hp → Prop}
    (hQ : ∀ h', inI h0 (eNum E 0) F h' → (∀ w o G, w < 2 ^ eN E → o ≤ w → 1 ≤ G → G < 2 ^ eN E → sbt G F → pop G = eNum E 0 → sbt G o → tb h' w (anot o G) ≤ tb h' w o) → Q h') : wX7_comeIn 30 h0 Q := by
  have h32 := p5 hN
  obtain ⟨gc, gc1, gc2, gc3, gc4⟩ := GR
  unfold wX7_comeIn
  refine iX7_comeIn_2 (I := fun x1 h => ∃ w, x1 = nI w ∧ w ≤ 2 ^ eN E ∧ inI h0 (eNum E 0) F h ∧ ∀ a b G, a < w → b ≤ a → 1 ≤ G → G < 2 ^ eN E → sbt G F → pop G = eNum E 0 → sbt G b → tb h a (anot b G) ≤ tb h a b) (μ := fun x1 _ => 2 ^ eN E - x1.toNatClampNeg) ?_ 0 h0 ⟨0, rfl, Nat.zero_le _, ⟨fun _ _ _ _ => Int32.le_refl _, fun w o hw ho => Or.inr ⟨o, 0, ho, rfl, (anot_0 (by omega)).symm, sbt_0 _, sbt_0 F, by rw [show pop 0 = 0 by decide]; exact Nat.zero_mod _⟩, rfl, rfl, fun _ => rfl, Fb.refl h0⟩, fun a b G h => by omega⟩
  rintro x1 h ⟨w, rfl, hw, O, hr⟩ K hK
  unfold fX7_comeIn_2
  rw [O.2.2.2.1, e6]
  by_cases c : 2 ^ eN E ≤ w
  · rw [if_pos (nI_le c (by omega))]
    exact hQ h O (fun a b G z1 => hr a b G (by omega))
  · rw [if_neg (nI_ge (by omega) (by omega))]
    refine iX7_comeIn_12 (I := fun x2 h => ∃ o, x2 = nI o ∧ o ≤ w ∧ inI h0 (eNum E 0) F h ∧ ∀ a b G, (a < w ∨ (a = w ∧ o < b)) → b ≤ a → 1 ≤ G → G < 2 ^ eN E → sbt G F → pop G = eNum E 0 → sbt G b → tb h a (anot b G) ≤ tb h a b) (μ := fun x2 _ => x2.toNatClampNeg) ?_ (nI w) h ⟨w, rfl, by omega, O, fun a b G z z2 => hr a b G (by omega) z2⟩
    rintro x2 h ⟨o, rfl, ho, O, hr⟩ K2 hK2
    unfold fX7_comeIn_12
    cases o with
    | zero =>
      rw [if_pos (show nI 0 ≤ 0 by decide)]
      simp only [forall_eq, nI_1]
      refine hK _ _ ⟨w + 1, rfl, by omega, O, fun a b G z1 z2 z3 z4 z5 z6 z7 => ?_⟩ (by rw [nI_clamp (by omega), nI_clamp (by omega)]; omega)
      by_cases q : b = 0
      · subst q
        have := sbt_le z7
        omega
      · exact hr a b G (by omega) z2 z3 z4 z5 z6 z7
    | succ o' =>
      obtain ⟨o, hoe⟩ : ∃ o, o = o' + 1 := ⟨_, rfl⟩
      rw [← hoe] at ho hr ⊢
      have pm : nI o + -1 = nI o' := by rw [hoe]; exact pk_m1 o'
      rw [if_neg (show ¬ nI o ≤ 0 from nI_nle (by omega) (by omega)), show nI w * 32 + nI o = nI (w * 32 + o) by simp (disch := omega) only [lit, nI_ltI, nI_leI, nI_eq, nI_clamp, nI_add, vp_nI, nI_ne_neg, neg_ne_nI, pk_sub, pk_mul, pk_div, Nat.reduceAdd, Nat.reduceMul, Nat.reducePow, e_mn, e_mx, e_rm, lt_t, lt_f, le_t, le_f, eq_f, eq_t, ↓reduceIte, true_and, and_true, and_false, false_and, and_self, or_true, or_false, true_or, false_or, not_true, not_false_iff], rf_30_3, ln_31, nI_clamp (show w * 32 + o < 2 ^ 31 by omega)]
      refine ⟨(vp_nI (by omega)).mpr (by omega), fun v3 hv3 => ?_⟩
      refine iX7_comeIn_31 (I := fun x4 h => ∃ j, x4 = nI j ∧ j ≤ gc ∧ inI h0 (eNum E 0) F h ∧ v3 = tb h w o ∧ (∀ a b G, (a < w ∨ (a = w ∧ o < b)) → b ≤ a → 1 ≤ G → G < 2 ^ eN E → sbt G F → pop G = eNum E 0 → sbt G b → tb h a (anot b G) ≤ tb h a b) ∧ ∀ i G, i < j → gI h0 32 i = nI G → G < 2 ^ eN E → sbt G o → tb h w (anot o G) ≤ tb h w o) (μ := fun x4 _ => gc - x4.toNatClampNeg) ?_ 0 h ⟨0, rfl, by omega, O, hv3, hr, fun i G hi => by omega⟩
      rintro x4 h ⟨j, rfl, hj, O, hv, hr, hg⟩ K3 hK3
      unfold fX7_comeIn_31
      rw [O.2.2.1, gc2]
      have mu3 : (nI o').toNatClampNeg < (nI o).toNatClampNeg := by rw [nI_clamp (by omega), nI_clamp (by omega)]; omega
      have done : (∀ G, 1 ≤ G → G < 2 ^ eN E → sbt G F → pop G = eNum E 0 → sbt G o → tb h w (anot o G) ≤ tb h w o) → K2 (nI o') h := by
        intro all
        refine hK2 _ _ ⟨o', rfl, by omega, O, fun a b G z1 z2 z3 z4 z5 z6 z7 => ?_⟩ (by rw [← hoe]; exact mu3)
        by_cases q : a = w ∧ b = o
        · obtain ⟨rfl, rfl⟩ := q
          exact all G z3 z4 z5 z6 z7
        · exact hr a b G (by omega) z2 z3 z4 z5 z6 z7
      by_cases e : gc ≤ j
      · rw [if_pos (nI_le e (by omega))]
        simp only [forall_eq, pm]
        apply done
        intro G z1 z2 z3 z4 z5
        obtain ⟨i, i1, i2⟩ := gc4 G z1 z2 z3 z4
        exact hg i G (by omega) i2 z2 z5
      · rw [if_neg (nI_ge (by omega) (by omega))]
        by_cases n : v3 = 2147483647
        · rw [if_pos n]
          simp only [forall_eq, pm]
          apply done
          intro G z1 z2 z3 z4 z5
          rw [← hv, n]
          exact le_max _
        · rw [if_neg n, rf_30_4, ln_32, nI_clamp (show j < 2 ^ 31 by omega), O.2.2.2.2.1 j]
          obtain ⟨G, f1, f2, f3, f4, f5⟩ := gc3 j (by omega)
          have vj : vp_in (nI j) 32 := (vp_nI (by omega)).mpr (by omega)
          have mu4 : gc - (nI (j + 1)).toNatClampNeg < gc - (nI j).toNatClampNeg := by rw [nI_clamp (by omega), nI_clamp (by omega)]; omega
          rw [f1, anot_nI (by omega)]
          simp only [forall_eq, nI_1]
          refine ⟨vj, ?_⟩
          have same : ∀ i G', gI h0 32 i = nI G' → G' < 2 ^ eN E → i = j → G' = G := by
            intro i G' q1 q2 q3
            rw [q3, f1] at q1
            exact ((nI_eq (by omega) (by omega)).mp q1).symm
          by_cases y : anot G o = 0
          · rw [if_pos (by rw [y]; rfl)]
            refine ⟨vj, ?_⟩
            have hd := (sbt_anot (by omega)).mp y
            have og := anot_lt (show o < 4096 by omega) f2 hd
            unfold wX7_lower
            rw [anot_nI (by omega), show nI w * 32 + nI (anot o G) = nI (w * 32 + anot o G) by simp (disch := omega) only [lit, nI_ltI, nI_leI, nI_eq, nI_clamp, nI_add, vp_nI, nI_ne_neg, neg_ne_nI, pk_sub, pk_mul, pk_div, Nat.reduceAdd, Nat.reduceMul, Nat.reducePow, e_mn, e_mx, e_rm, lt_t, lt_f, le_t, le_f, eq_f, eq_t, ↓reduceIte, true_and, and_true, and_false, false_and, and_self, or_true, or_false, true_or, false_or, not_true, not_false_iff], rf_30_3, ln_31, nI_clamp (show w * 32 + anot o G < 2 ^ 31 by omega)]
            have vt : vp_in (nI (w * 32 + anot o G)) 1024 := (vp_nI (by omega)).mpr (by omega)
            simp only [forall_eq]
            refine ⟨vt, vt, ?_⟩
            rw [hv]
            have O2 := O.lower (show w < 32 by omega) (show o < 32 by omega) hd f4 f5 (by rw [← hv]; exact n)
            have keep : ∀ a b, a < 32 → b < 32 → (a < w ∨ (a = w ∧ o ≤ b)) → tb (sI h 31 (w * 32 + anot o G) (mn (tb h w (anot o G)) (tb h w o))) a b = tb h a b := by
              intro a b ha hb hab
              show gI (sI h 31 _ _) 31 (a * 32 + b) = _
              rw [gI_sI, if_neg (by omega)]
            have less : ∀ a b, a < 32 → b < 32 → tb (sI h 31 (w * 32 + anot o G) (mn (tb h w (anot o G)) (tb h w o))) a b ≤ tb h a b := by
              intro a b ha hb
              show gI (sI h 31 _ _) 31 (a * 32 + b) ≤ _
              rw [gI_sI]
              by_cases q : a * 32 + b = w * 32 + anot o G
              · rw [if_pos ⟨rfl, q⟩, show a = w by omega, show b = anot o G by omega]
                exact mn_le1 _ _
              · rw [if_neg (fun z => q z.2)]
                exact Int32.le_refl _
            have al : ∀ b G', anot b G' ≤ b := fun _ _ => anot_le
            refine hK3 _ _ ⟨j + 1, rfl, by omega, O2, by rw [keep w o (by omega) (by omega) (by omega)]; exact hv, fun a b G' z1 z2 z3 z4 z5 z6 z7 => ?_, fun i G' z1 z2 z3 z4 => ?_⟩ mu4
            · rw [keep a b (by omega) (by omega) (by omega)]
              exact Int32.le_trans (less _ _ (by omega) (by have := al b G'; omega)) (hr a b G' z1 z2 z3 z4 z5 z6 z7)
            · rw [keep w o (by omega) (by omega) (by omega)]
              by_cases q : i = j
              · rw [same i G' z2 z3 q]
                show gI (sI h 31 _ _) 31 (w * 32 + anot o G) ≤ _
                rw [gI_sI, if_pos ⟨rfl, rfl⟩]
                exact mn_le2 _ _
              · exact Int32.le_trans (less _ _ (by omega) (by have := al o G'; omega)) (hg i G' (by omega) z2 z3 z4)
          · have : anot G o ≤ G := anot_le
            rw [if_neg (nI_ne0 (by omega) (by omega))]
            refine hK3 _ _ ⟨j + 1, rfl, by omega, O, hv, hr, fun i G' z1 z2 z3 z4 => ?_⟩ mu4
            by_cases q : i = j
            · rw [same i G' z2 z3 q] at z4
              exact absurd ((sbt_anot (by omega)).mpr z4) y
            · exact hg i G' (by omega) z2 z3 z4
/-- all pay -/
def pyS (E : EV) (t w o : Nat) : Nat := anot (anot (setB (fun k => decide (eL E k ≤ t)) (eN E)) 0) w ||| ((setB (fun k => decide (eR E k ≤ t)) (eN E) &&& (2 ^ eN E - 1)) &&& o)
def pyV (E : EV) (t w o : Nat) : Nat := smT (fun p => if (pyS E t w o).testBit p then eC E p else 0) (eN E)
theorem c_pay_all {h0 : Hp} {E : EV} {t : Nat} (X : EW h0 E) (hN : eN E ≤ 5) (ht : t ≤ 60) (e6 : gI h0 30 6 = nI (2 ^ eN E)) {Q : Hp → Prop}
    (hQ : ∀ h', (∀ a b, a < 32 → b < 32 → tb h' a b = if a < 2 ^ eN E ∧ b ≤ a ∧ tb h0 a b ≠ 2147483647 then tb h0 a b + nI (pyV E t a b) else tb h0 a b) → gI h' 30 6 = nI (2 ^ eN E) → Fb h0 h' → Q h') : wX7_payAll 30 (nI t) h0 Q := by
  have h32 := p5 hN
  have n0 : 1 ≤ 2 ^ eN E := Nat.one_le_two_pow
  unfold wX7_payAll
  rw [rf_30_1]
  apply c_wOut (w := 0) X.1 ht
  rw [e6, show nI (2 ^ eN E) - 1 = nI (2 ^ eN E - 1) by
    obtain ⟨k, hk⟩ : ∃ k, 2 ^ eN E = k + 1 := ⟨2 ^ eN E - 1, by omega⟩
    rw [hk, nI_pred, Nat.add_sub_cancel]]
  apply c_wIn X.1 ht (by omega)
  rw [X.2.2.2.1, X.2.2.2.2.1]
  have hb1 := setB_lt (fun k => decide (eL E k ≤ t)) (eN E)
  have hb2 := setB_lt (fun k => decide (eR E k ≤ t)) (eN E)
  have an0 := @anot_le (setB (fun k => decide (eL E k ≤ t)) (eN E)) 0
  refine iX7_payAll_28 (I := fun x4 h => ∃ w, x4 = nI w ∧ w ≤ 2 ^ eN E ∧ (∀ a b, a < 32 → b < 32 → tb h a b = if a < w ∧ b ≤ a ∧ tb h0 a b ≠ 2147483647 then tb h0 a b + nI (pyV E t a b) else tb h0 a b) ∧ gI h 30 6 = nI (2 ^ eN E) ∧ Fb h0 h) (μ := fun x4 _ => 2 ^ eN E - x4.toNatClampNeg) ?_ 0 h0 ⟨0, rfl, Nat.zero_le _, fun a b _ _ => by rw [if_neg (by omega)], e6, Fb.refl h0⟩
  rintro x4 h ⟨w, rfl, hw, hr, k6, F⟩ K hK
  unfold fX7_payAll_28
  rw [k6]
  by_cases c : 2 ^ eN E ≤ w
  · rw [if_pos (nI_le c (by omega))]
    have : w = 2 ^ eN E := by omega
    rw [this] at hr
    exact hQ h hr k6 F
  · rw [if_neg (nI_ge (by omega) (by omega))]
    refine iX7_payAll_40 (I := fun x5 h => ∃ o, x5 = nI o ∧ o ≤ w + 1 ∧ (∀ a b, a < 32 → b < 32 → tb h a b = if (a < w ∨ (a = w ∧ b < o)) ∧ b ≤ a ∧ tb h0 a b ≠ 2147483647 then tb h0 a b + nI (pyV E t a b) else tb h0 a b) ∧ gI h 30 6 = nI (2 ^ eN E) ∧ Fb h0 h) (μ := fun x5 _ => w + 1 - x5.toNatClampNeg) ?_ 0 h ⟨0, rfl, by omega, fun a b ha hb => ?_, k6, F⟩
    · rintro x5 h ⟨o, rfl, ho, hr, k6, F⟩ K2 hK2
      unfold fX7_payAll_40
      by_cases d : w < o
      · rw [if_pos (nI_lt d (by omega))]
        simp only [forall_eq, nI_1]
        refine hK _ _ ⟨w + 1, rfl, by omega, fun a b ha hb => ?_, k6, F⟩ (by rw [nI_clamp (by omega), nI_clamp (by omega)]; omega)
        rw [hr a b ha hb]
        by_cases q : a < w + 1 ∧ b ≤ a ∧ tb h0 a b ≠ 2147483647
        · rw [if_pos q, if_pos ⟨by omega, q.2⟩]
        · rw [if_neg q, if_neg (fun z => q ⟨by omega, z.2⟩)]
      · have Xh := X.fw F.fw
        rw [if_neg (nI_nlt (by omega) (by omega)), show nI w * 32 + nI o = nI (w * 32 + o) by simp (disch := omega) only [lit, nI_ltI, nI_leI, nI_eq, nI_clamp, nI_add, vp_nI, nI_ne_neg, neg_ne_nI, pk_sub, pk_mul, pk_div, Nat.reduceAdd, Nat.reduceMul, Nat.reducePow, e_mn, e_mx, e_rm, lt_t, lt_f, le_t, le_f, eq_f, eq_t, ↓reduceIte, true_and, and_true, and_false, false_and, and_self, or_true, or_false, true_or, false_or, not_true, not_false_iff], rf_30_3, ln_31, nI_clamp (show w * 32 + o < 2 ^ 31 by omega)]
        have vt : vp_in (nI (w * 32 + o)) 1024 := (vp_nI (by omega)).mpr (by omega)
        simp only [forall_eq, nI_1]
        refine ⟨vt, ?_⟩
        have mu : w + 1 - (nI (o + 1)).toNatClampNeg < w + 1 - (nI o).toNatClampNeg := by rw [nI_clamp (by omega), nI_clamp (by omega)]; omega
        have hwo : tb h w o = tb h0 w o := by rw [hr w o (by omega) (by omega), if_neg (by omega)]
        by_cases n : gI h 31 (w * 32 + o) = 2147483647
        · rw [if_pos n]
          refine hK2 _ _ ⟨o + 1, rfl, by omega, fun a b ha hb => ?_, k6, F⟩ mu
          rw [hr a b ha hb]
          have n0 : tb h0 w o = 2147483647 := hwo.symm.trans n
          by_cases q : (a < w ∨ (a = w ∧ b < o + 1)) ∧ b ≤ a ∧ tb h0 a b ≠ 2147483647
          · rw [if_pos q]
            by_cases z : a = w ∧ b = o
            · obtain ⟨rfl, rfl⟩ := z
              exact absurd n0 q.2.2
            · rw [if_pos ⟨by omega, q.2⟩]
          · rw [if_neg q, if_neg (fun z => q ⟨by omega, z.2⟩)]
        · rw [if_neg n, anot_nI (by omega), nI_and, nI_or]
          refine ⟨vt, ?_⟩
          rw [rf_30_1]
          apply c_costOf Xh.1 (S := pyS E t w o) (Nat.or_lt_two_pow (Nat.lt_of_le_of_lt anot_le (by omega)) (Nat.lt_of_le_of_lt Nat.and_le_left (Nat.lt_of_le_of_lt Nat.and_le_left hb2)))
          rw [Xh.2.2.2.2.2.1]
          refine ⟨vt, hK2 _ _ ⟨o + 1, rfl, by omega, fun a b ha hb => ?_, by simp only [forall_eq, gI_sI, gI_sL, gL_sI, gL_sL, gI_cpI, gL_cpI, gI_cpL, gL_cpL, Nat.reduceEqDiff, Nat.reduceAdd, Nat.reduceSub, cl0, cl1, cl12, cl39, and_false, false_and, and_true, true_and, and_self, ↓reduceIte]; exact k6, F.set 31 _ _ rfl⟩ mu⟩
          show gI (sI h 31 _ _) 31 (a * 32 + b) = _
          rw [gI_sI]
          by_cases z : a = w ∧ b = o
          · obtain ⟨rfl, rfl⟩ := z
            rw [if_pos ⟨rfl, rfl⟩, if_pos ⟨by omega, by omega, by rw [← hwo]; exact n⟩]
            show tb h a b + nI (pyV E t a b) = _
            rw [hwo]
          · rw [if_neg (by omega)]
            show tb h a b = _
            rw [hr a b ha hb]
            by_cases q : (a < w ∨ (a = w ∧ b < o + 1)) ∧ b ≤ a ∧ tb h0 a b ≠ 2147483647
            · rw [if_pos q, if_pos ⟨by omega, q.2⟩]
            · rw [if_neg q, if_neg (fun z => q ⟨by omega, z.2⟩)]
    · rw [hr a b ha hb]
      by_cases q : a < w ∧ b ≤ a ∧ tb h0 a b ≠ 2147483647
      · rw [if_pos q, if_pos ⟨by omega, q.2⟩]
      · rw [if_neg q, if_neg (fun z => q ⟨by omega, z.2⟩)]
