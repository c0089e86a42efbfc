/-! what best changes -/
def bsc (a : Nat) : Bool := decide (a ∈ ([9, 13, 17, 71, 72, 30, 31, 32, 76, 77] : List Nat))
def Fb (h h' : Hp) : Prop := (∀ a k, bsc a = false → gI h' a k = gI h a k) ∧ ∀ a k, gL h' a k = gL h a k
theorem Fb.refl (h : Hp) : Fb h h := ⟨fun _ _ _ => rfl, fun _ _ => rfl⟩
theorem Fb.trans {h0 h1 h2 : Hp} (F : Fb h0 h1) (F2 : Fb h1 h2) : Fb h0 h2 := ⟨fun a k q => (F2.1 a k q).trans (F.1 a k q), fun a k => (F2.2 a k).trans (F.2 a k)⟩
theorem Fb.set {h0 h : Hp} (F : Fb h0 h) (a k : Nat) (v : Int32) (hd : bsc a = true) : Fb h0 (sI h a k v) := by
  refine ⟨fun b j q => ?_, F.2⟩
  rw [gI_sI, if_neg (fun e => by rw [e.1, hd] at q; exact absurd q (by decide))]
  exact F.1 b j q
theorem Fs.fb {h h' : Hp} (F : Fs h h') : Fb h h' := by
  refine ⟨fun a k q => ?_, F.2⟩
  refine F.1 a k ?_ ?_ ?_ ?_ ?_ <;> (rintro rfl; simp [bsc] at q)
theorem Fb.fw {h h' : Hp} (F : Fb h h') : Fw h h' := by
  intro a k q
  refine F.1 a k ?_
  unfold kpt at q
  simp only [Bool.or_eq_true, decide_eq_true_eq, List.mem_cons, List.not_mem_nil, or_false, Prod.mk.injEq] at q
  unfold bsc
  simp only [decide_eq_false_iff_not, List.mem_cons, List.not_mem_nil, or_false]
  omega
theorem Inv.fb {h h' : Hp} (I : Inv h) (F : Fb h h') : Inv h' := by
  refine I.same (fun a k q => F.1 a k ?_) (fun a k _ => F.2 a k)
  unfold usd usD at q
  simp only [Bool.or_eq_true, decide_eq_true_eq, List.mem_cons, List.not_mem_nil, or_false, Prod.mk.injEq] at q
  unfold bsc
  simp only [decide_eq_false_iff_not, List.mem_cons, List.not_mem_nil, or_false]
  omega
theorem Fs.row31 {h h' : Hp} (F : Fs h h') (k : Nat) : gI h' 31 k = gI h 31 k := F.at 31 k (by decide)
/-- the groups of a gate's number out of a set -/
def GRP (E : EV) (m F : Nat) (h : Hp) : Prop := ∃ gc, gc ≤ 31 ∧ gI h 30 5 = nI gc ∧ (∀ j, j < gc → ∃ G, gI h 32 j = nI G ∧ 1 ≤ G ∧ G < 2 ^ eN E ∧ sbt G F ∧ pop G = m) ∧ ∀ G, 1 ≤ G → G < 2 ^ eN E → sbt G F → pop G = m → ∃ j, j < gc ∧ gI h 32 j = nI G
theorem p5 {n : Nat} (h : n ≤ 5) : 2 ^ n ≤ 32 := Nat.pow_le_pow_right (n := 2) (by omega) h
theorem c_groups {h0 : Hp} {E : EV} {s t D : Nat} (X : EW h0 E) (hN : eN E ≤ 5) (hg : 0 < eG E) (hD : D < 2 ^ eN E) (e6 : gI h0 30 6 = nI (2 ^ eN E)) {Q : Hp → Prop}
    (hQ : ∀ h', GRP E (eNum E 0) (letB (eP E) (eC E) (eN E) t 0 s D) h' → gI h' 30 6 = nI (2 ^ eN E) → (∀ k, gI h' 31 k = gI h0 31 k) → Fb h0 h' → Q h') : wX7_findGroups 30 (nI D) (nI s) (nI t) h0 Q := by
  have h32 := p5 hN
  unfold wX7_findGroups
  rw [rf_30_1, rf_30_2]
  apply c_letting (g := 0) X.1 hD X.2.2.1
  intro h1 F1
  rw [X.2.2.2.2.2.1]
  obtain ⟨F, hF⟩ : ∃ F, letB (eP E) (eC E) (eN E) t 0 s D = F := ⟨_, rfl⟩
  have hFl : F < 2 ^ eN E := by rw [← hF]; exact letB_lt _ _ _ _ _ _ _
  rw [hF] at hQ ⊢
  simp only [forall_eq]
  have n0 : 1 ≤ 2 ^ eN E := Nat.one_le_two_pow
  refine iX7_findGroups_25 (I := fun x5 h => ∃ g gc : Nat, x5 = nI g ∧ 1 ≤ g ∧ g ≤ 2 ^ eN E ∧ gc < g ∧ gI h 30 5 = nI gc ∧ (∀ j, j < gc → ∃ G, gI h 32 j = nI G ∧ 1 ≤ G ∧ G < 2 ^ eN E ∧ sbt G F ∧ pop G = eNum E 0) ∧ (∀ G, 1 ≤ G → G < g → sbt G F → pop G = eNum E 0 → ∃ j, j < gc ∧ gI h 32 j = nI G) ∧ gI h 30 6 = nI (2 ^ eN E) ∧ (∀ k, gI h 31 k = gI h0 31 k) ∧ Fb h0 h) (μ := fun x5 _ => 2 ^ eN E - x5.toNatClampNeg) ?_ 1 _ ⟨1, 0, rfl, by omega, n0, by omega, by simp only [forall_eq, gI_sI, gI_sL, gL_sI, gL_sL, gI_cpI, gL_cpI, gI_cpL, gL_cpL, Nat.reduceEqDiff, Nat.reduceAdd, Nat.reduceSub, cl0, cl1, cl12, cl39, and_false, false_and, and_true, true_and, and_self, ↓reduceIte]; rfl, fun j hj => by omega, fun G h1 h2 => by omega, by simp only [forall_eq, gI_sI, gI_sL, gL_sI, gL_sL, gI_cpI, gL_cpI, gI_cpL, gL_cpL, Nat.reduceEqDiff, Nat.reduceAdd, Nat.reduceSub, cl0, cl1, cl12, cl39, and_false, false_and, and_true, true_and, and_self, ↓reduceIte]; rw [F1.at 30 6 (by decide)]; exact e6, fun k => by simp only [forall_eq, gI_sI, gI_sL, gL_sI, gL_sL, gI_cpI, gL_cpI, gI_cpL, gL_cpL, Nat.reduceEqDiff, Nat.reduceAdd, Nat.reduceSub, cl0, cl1, cl12, cl39, and_false, false_and, and_true, true_and, and_self, ↓reduceIte]; exact F1.row31 k, F1.fb.set 30 5 _ rfl⟩
  rintro x5 h ⟨g, gc, rfl, g1, g2, gl, k1, k2, k3, k4, k5, k6⟩ K hK
  have Xh := X.fw k6.fw
  unfold fX7_findGroups_25
  rw [k4]
  by_cases c : 2 ^ eN E ≤ g
  · rw [if_pos (nI_le c (by omega))]
    exact hQ h ⟨gc, by omega, k1, k2, fun G z1 z2 => k3 G z1 (by omega)⟩ k4 k5 k6
  · rw [if_neg (nI_ge (by omega) (by omega)), anot_nI (by omega)]
    simp only [forall_eq, nI_1]
    have mu : 2 ^ eN E - (nI (g + 1)).toNatClampNeg < 2 ^ eN E - (nI g).toNatClampNeg := by rw [nI_clamp (by omega), nI_clamp (by omega)]; omega
    have skip : ¬ (sbt g F ∧ pop g = eNum E 0) → K (nI (g + 1)) h := by
      intro ns
      refine hK _ _ ⟨g + 1, gc, rfl, by omega, by omega, by omega, k1, k2, fun G z1 z2 z3 z4 => ?_, k4, k5, k6⟩ mu
      by_cases e : G = g
      · subst e; exact absurd ⟨z3, z4⟩ ns
      · exact k3 G z1 (by omega) z3 z4
    have al : anot g F ≤ g := anot_le
    by_cases z : anot g F = 0
    · rw [if_pos (by rw [z]; rfl)]
      have sg := (sbt_anot (by omega)).mp z
      rw [e_bitCount h (by omega), rf_30_0, show wX4_numberOf 1 0 h = wX4_numberOf 1 (nI 0) h from rfl, e_numberOf Xh.2.1 hg]
      have pl := pop_le g (by omega)
      have nl6 := (Xh.2.1.2.2.2 0 hg).2.2.2
      by_cases e : pop g = eNum E 0
      · rw [if_pos (by rw [e]), rf_30_4, ln_32, k1, nI_clamp (by omega)]
        refine ⟨(vp_nI (by omega)).mpr (by omega), hK _ _ ⟨g + 1, gc + 1, rfl, by omega, by omega, by omega, by simp only [forall_eq, gI_sI, gI_sL, gL_sI, gL_sL, gI_cpI, gL_cpI, gI_cpL, gL_cpL, Nat.reduceEqDiff, Nat.reduceAdd, Nat.reduceSub, cl0, cl1, cl12, cl39, and_false, false_and, and_true, true_and, and_self, ↓reduceIte, k1]; exact nI_1 _, fun j hj => ?_, fun G z1 z2 z3 z4 => ?_, by simp only [forall_eq, gI_sI, gI_sL, gL_sI, gL_sL, gI_cpI, gL_cpI, gI_cpL, gL_cpL, Nat.reduceEqDiff, Nat.reduceAdd, Nat.reduceSub, cl0, cl1, cl12, cl39, and_false, false_and, and_true, true_and, and_self, ↓reduceIte]; exact k4, fun k => by simp only [forall_eq, gI_sI, gI_sL, gL_sI, gL_sL, gI_cpI, gL_cpI, gI_cpL, gL_cpL, Nat.reduceEqDiff, Nat.reduceAdd, Nat.reduceSub, cl0, cl1, cl12, cl39, and_false, false_and, and_true, true_and, and_self, ↓reduceIte]; exact k5 k, (k6.set 32 gc _ rfl).set 30 5 _ rfl⟩ mu⟩
        · simp only [forall_eq, gI_sI, gI_sL, gL_sI, gL_sL, gI_cpI, gL_cpI, gI_cpL, gL_cpL, Nat.reduceEqDiff, Nat.reduceAdd, Nat.reduceSub, cl0, cl1, cl12, cl39, and_false, false_and, and_true, true_and, and_self, ↓reduceIte]
          by_cases q : j = gc
          · rw [if_pos q]; exact ⟨g, rfl, by omega, by omega, sg, e⟩
          · rw [if_neg q]; exact k2 j (by omega)
        · simp only [forall_eq, gI_sI, gI_sL, gL_sI, gL_sL, gI_cpI, gL_cpI, gI_cpL, gL_cpL, Nat.reduceEqDiff, Nat.reduceAdd, Nat.reduceSub, cl0, cl1, cl12, cl39, and_false, false_and, and_true, true_and, and_self, ↓reduceIte]
          by_cases q : G = g
          · exact ⟨gc, by omega, by rw [if_pos rfl, q]⟩
          · obtain ⟨j, j1, j2⟩ := k3 G z1 (by omega) z3 z4
            exact ⟨j, by omega, by rw [if_neg (by omega)]; exact j2⟩
      · rw [if_neg (fun q => e ((nI_eq (by omega) (by omega)).mp q))]
        exact skip (fun q => e q.2)
    · rw [if_neg (nI_ne0 (by omega) (by omega))]
      exact skip (fun q => z ((sbt_anot (by omega)).mpr q.1))
theorem mn_le1 (x y : Int32) : mn x y ≤ x := by
  unfold mn
  by_cases c : y < x
  · rw [if_pos c]; exact Int32.le_of_lt c
  · rw [if_neg c]; exact Int32.le_refl x
theorem mn_le2 (x y : Int32) : mn x y ≤ y := by
  unfold mn
  by_cases c : y < x
  · rw [if_pos c]; exact Int32.le_refl y
  · rw [if_neg c]; exact nl c
theorem mn_or (x y : Int32) : mn x y = x ∨ mn x y = y := by
  unfold mn
  by_cases c : y < x
  · rw [if_pos c]; exact Or.inr rfl
  · rw [if_neg c]; exact Or.inl rfl
theorem le_max (x : Int32) : x ≤ 2147483647 := by
  rw [Int32.le_iff_toInt_le]
  have := i32b x
  show x.toInt ≤ 2147483647
  omega
abbrev tb (h : Hp) (w o : Nat) : Int32 := gI h 31 (w * 32 + o)
def dsj (A B : Nat) : Prop := ∀ i, A.testBit i = true → B.testBit i = false
/-- a value comes of one ahead, by a set that passed out -/
def cmO (h0 : Hp) (E : EV) (m F : Nat) (v : Int32) (w o : Nat) : Prop := v = 2147483647 ∨ ∃ w0 o0 A, w0 < 32 ∧ o0 < 32 ∧ tb h0 w0 o0 = v ∧ w = w0 ||| A ∧ o = o0 ||| A ∧ dsj A w0 ∧ sbt A F ∧ pop A % m = 0
def outI (h0 : Hp) (E : EV) (m F : Nat) (h : Hp) : Prop := (∀ w o, w < 32 → o < 32 → tb h w o ≤ tb h0 w o) ∧ (∀ w o, w < 32 → o < 32 → cmO h0 E m F (tb h w o) w o) ∧ gI h 30 5 = gI h0 30 5 ∧ gI h 30 6 = gI h0 30 6 ∧ (∀ k, gI h 32 k = gI h0 32 k) ∧ Fb h0 h
theorem or32 {a b : Nat} (ha : a < 32) (hb : b < 32) : a ||| b < 32 := Nat.or_lt_two_pow (n := 5) ha hb
theorem dsj_anot {A B : Nat} (h : A &&& B = 0) : dsj A B := by
  intro i hi
  have : (A &&& B).testBit i = false := by rw [h]; exact Nat.zero_testBit i
  rw [Nat.testBit_and, hi] at this
  simpa using this
theorem dsj_and {A B : Nat} (h : dsj A B) : A &&& B = 0 := by
  apply nat_ext
  intro i
  rw [Nat.testBit_and, Nat.zero_testBit]
  cases c : A.testBit i
  · rfl
  · rw [h i c]; rfl
theorem or_gt {w G : Nat} (h1 : 1 ≤ G) (hd : dsj G w) : w < w ||| G := by
  rcases Nat.lt_or_ge w (w ||| G) with q | q
  · exact q
  · exfalso
    have e : w ||| G = w := Nat.le_antisymm q Nat.left_le_or
    have z : G = 0 := by
      apply nat_ext
      intro i
      rw [Nat.zero_testBit]
      cases c : G.testBit i
      · rfl
      · have h2 := hd i c
        have h3 : (w ||| G).testBit i = true := by rw [Nat.testBit_or, c, Bool.or_true]
        rw [e, h2] at h3
        exact absurd h3 (by decide)
    omega
theorem outI.lower {h0 h : Hp} {E : EV} {m F w o G : Nat} (I : outI h0 E m F h) (hw : w < 32) (ho : o < 32) (hG : G < 32) (hG1 : 1 ≤ G) (hd : dsj G w) (hF : sbt G F) (hm : pop G = m) (hn : tb h w o ≠ 2147483647) : outI h0 E m F (sI h 31 ((w ||| G) * 32 + (o ||| G)) (mn (tb h (w ||| G) (o ||| G)) (tb h w o))) := by
  obtain ⟨i1, i2, i3, i4, i5, i6⟩ := I
  have g1 := or32 hw hG
  have g2 := or32 ho hG
  refine ⟨fun a b ha hb => ?_, fun a b ha hb => ?_, by simp only [forall_eq, gI_sI, gI_sL, gL_sI, gL_sL, gI_cpI, gL_cpI, gI_cpL, gL_cpL, Nat.reduceEqDiff, Nat.reduceAdd, Nat.reduceSub, cl0, cl1, cl12, cl39, and_false, false_and, and_true, true_and, and_self, ↓reduceIte]; exact i3, by simp only [forall_eq, gI_sI, gI_sL, gL_sI, gL_sL, gI_cpI, gL_cpI, gI_cpL, gL_cpL, Nat.reduceEqDiff, Nat.reduceAdd, Nat.reduceSub, cl0, cl1, cl12, cl39, and_false, false_and, and_true, true_and, and_self, ↓reduceIte]; exact i4, fun k => by simp only [forall_eq, gI_sI, gI_sL, gL_sI, gL_sL, gI_cpI, gL_cpI, gI_cpL, gL_cpL, Nat.reduceEqDiff, Nat.reduceAdd, Nat.reduceSub, cl0, cl1, cl12, cl39, and_false, false_and, and_true, true_and, and_self, ↓reduceIte]; exact i5 k, i6.set 31 _ _ rfl⟩
  · show gI (sI h 31 ((w ||| G) * 32 + (o ||| G)) (mn (tb h (w ||| G) (o ||| G)) (tb h w o))) 31 (a * 32 + b) ≤ _
    rw [gI_sI]
    by_cases e : a * 32 + b = (w ||| G) * 32 + (o ||| G)
    · rw [if_pos ⟨rfl, e⟩]
      have e1 : a = w ||| G := by omega
      have e2 : b = o ||| G := by omega
      rw [e1, e2]
      exact Int32.le_trans (mn_le1 _ _) (i1 _ _ g1 g2)
    · rw [if_neg (fun q => e q.2)]
      exact i1 a b ha hb
  · show cmO h0 E m F (gI (sI h 31 ((w ||| G) * 32 + (o ||| G)) (mn (tb h (w ||| G) (o ||| G)) (tb h w o))) 31 (a * 32 + b)) a b
    rw [gI_sI]
    by_cases e : a * 32 + b = (w ||| G) * 32 + (o ||| G)
    · rw [if_pos ⟨rfl, e⟩]
      have e1 : a = w ||| G := by omega
      have e2 : b = o ||| G := by omega
      rw [e1, e2]
      rcases mn_or (tb h (w ||| G) (o ||| G)) (tb h w o) with q | q
      · rw [q]; exact i2 _ _ g1 g2
      · rw [q]
        rcases i2 w o hw ho with z | ⟨w0, o0, A, z1, z2, z3, z4, z5, z6, z7, z8⟩
        · exact absurd z hn
        · refine Or.inr ⟨w0, o0, A ||| G, z1, z2, z3, by rw [z4, Nat.or_assoc], by rw [z5, Nat.or_assoc], fun i hi => ?_, fun i hi => ?_, ?_⟩
          · rw [Nat.testBit_or] at hi
            cases q : A.testBit i
            · rw [q, Bool.false_or] at hi
              have := hd i hi
              rw [z4, Nat.testBit_or] at this
              simp only [Bool.or_eq_false_iff] at this
              exact this.1
            · exact z6 i q
          · rw [Nat.testBit_or] at hi
            cases q : A.testBit i
            · rw [q, Bool.false_or] at hi
              exact hF i hi
            · exact z7 i q
          · rw [pop_or (fun i hi => ?_), hm, Nat.add_mod_right]
            · exact z8
            · cases q : G.testBit i
              · rfl
              · have := hd i q
                rw [z4, Nat.testBit_or, hi] at this
                simp at this
    · rw [if_neg (fun q => e q.2)]
      exact i2 a b ha hb
/-- the class lets groups out -/
theorem c_out {h0 : Hp} {E : EV} {F : Nat} (hN : eN E ≤ 5) (hm1 : 1 ≤ eNum E 0) (e6 : gI h0 30 6 = nI (2 ^ eN E)) (GR : GRP E (eNum E 0) F h0) {Q : Hp → Prop}
    (hQ : ∀ h', outI h0 E (eNum E 0) F h' → (∀ w o G, w < 2 ^ eN E → o ≤ w → 1 ≤ G → G < 2 ^ eN E → sbt G F → pop G = eNum E 0 → dsj G w → tb h' (w ||| G) (o ||| G) ≤ tb h' w o) → Q h') : wX7_goOut 30 h0 Q := by
  have h32 := p5 hN
  obtain ⟨gc, gc1, gc2, gc3, gc4⟩ := GR
  unfold wX7_goOut
  refine iX7_goOut_2 (I := fun x1 h => ∃ w, x1 = nI w ∧ w ≤ 2 ^ eN E ∧ outI h0 E (eNum E 0) F h ∧ ∀ a b G, a < w → b ≤ a → 1 ≤ G → G < 2 ^ eN E → sbt G F → pop G = eNum E 0 → dsj G a → tb h (a ||| G) (b ||| G) ≤ tb h a b) (μ := fun x1 _ => 2 ^ eN E - x1.toNatClampNeg) ?_ 0 h0 ⟨0, rfl, Nat.zero_le _, ⟨fun _ _ _ _ => Int32.le_refl _, fun w o hw ho => Or.inr ⟨w, o, 0, hw, ho, rfl, by simp, by simp, fun i hi => by rw [Nat.zero_testBit] at hi; exact absurd hi (by decide), sbt_0 F, by rw [show pop 0 = 0 by decide]; exact Nat.zero_mod _⟩, rfl, rfl, fun _ => rfl, Fb.refl h0⟩, fun a b G h => by omega⟩
  rintro x1 h ⟨w, rfl, hw, O, hr⟩ K hK
  unfold fX7_goOut_2
  rw [O.2.2.2.1, e6]
  by_cases c : 2 ^ eN E ≤ w
  · rw [if_pos (nI_le c (by omega))]
    exact hQ h O (fun a b G z1 => hr a b G (by omega))
  · rw [if_neg (nI_ge (by omega) (by omega))]
    refine iX7_goOut_12 (I := fun x2 h => ∃ o, x2 = nI o ∧ o ≤ w + 1 ∧ outI h0 E (eNum E 0) F h ∧ ∀ a b G, (a < w ∨ (a = w ∧ b < o)) → b ≤ a → 1 ≤ G → G < 2 ^ eN E → sbt G F → pop G = eNum E 0 → dsj G a → tb h (a ||| G) (b ||| G) ≤ tb h a b) (μ := fun x2 _ => w + 1 - x2.toNatClampNeg) ?_ 0 h ⟨0, rfl, by omega, O, fun a b G z => hr a b G (by omega)⟩
    rintro x2 h ⟨o, rfl, ho, O, hr⟩ K2 hK2
    unfold fX7_goOut_12
    by_cases d : w < o
    · rw [if_pos (nI_lt d (by omega))]
      simp only [forall_eq, nI_1]
      exact hK _ _ ⟨w + 1, rfl, by omega, O, fun a b G z1 z2 => hr a b G (by omega) z2⟩ (by rw [nI_clamp (by omega), nI_clamp (by omega)]; omega)
    · rw [if_neg (nI_nlt (by omega) (by omega)), show nI w * 32 + nI o = nI (w * 32 + o) by simp (disch := omega) only [lit, nI_ltI, nI_leI, nI_eq, nI_clamp, nI_add, vp_nI, nI_ne_neg, neg_ne_nI, pk_sub, pk_mul, pk_div, Nat.reduceAdd, Nat.reduceMul, Nat.reducePow, e_mn, e_mx, e_rm, lt_t, lt_f, le_t, le_f, eq_f, eq_t, ↓reduceIte, true_and, and_true, and_false, false_and, and_self, or_true, or_false, true_or, false_or, not_true, not_false_iff], rf_30_3, ln_31, nI_clamp (show w * 32 + o < 2 ^ 31 by omega)]
      refine ⟨(vp_nI (by omega)).mpr (by omega), fun v3 hv3 => ?_⟩
      refine iX7_goOut_32 (I := fun x4 h => ∃ j, x4 = nI j ∧ j ≤ gc ∧ outI h0 E (eNum E 0) F h ∧ v3 = tb h w o ∧ (∀ a b G, (a < w ∨ (a = w ∧ b < o)) → b ≤ a → 1 ≤ G → G < 2 ^ eN E → sbt G F → pop G = eNum E 0 → dsj G a → tb h (a ||| G) (b ||| G) ≤ tb h a b) ∧ ∀ i G, i < j → gI h0 32 i = nI G → G < 2 ^ eN E → dsj G w → tb h (w ||| G) (o ||| G) ≤ tb h w o) (μ := fun x4 _ => gc - x4.toNatClampNeg) ?_ 0 h ⟨0, rfl, by omega, O, hv3, hr, fun i G hi => by omega⟩
      rintro x4 h ⟨j, rfl, hj, O, hv, hr, hg⟩ K3 hK3
      unfold fX7_goOut_32
      rw [O.2.2.1, gc2]
      have mu3 : w + 1 - (nI (o + 1)).toNatClampNeg < w + 1 - (nI o).toNatClampNeg := by rw [nI_clamp (by omega), nI_clamp (by omega)]; omega
      have done : (∀ G, 1 ≤ G → G < 2 ^ eN E → sbt G F → pop G = eNum E 0 → dsj G w → tb h (w ||| G) (o ||| G) ≤ tb h w o) → K2 (nI (o + 1)) h := by
        intro all
        refine hK2 _ _ ⟨o + 1, rfl, by omega, O, fun a b G z1 z2 z3 z4 z5 z6 z7 => ?_⟩ mu3
        by_cases q : a = w ∧ b = o
        · obtain ⟨rfl, rfl⟩ := q
          exact all G z3 z4 z5 z6 z7
        · exact hr a b G (by omega) z2 z3 z4 z5 z6 z7
      by_cases e : gc ≤ j
      · rw [if_pos (nI_le e (by omega))]
        simp only [forall_eq, nI_1]
        apply done
        intro G z1 z2 z3 z4 z5
        obtain ⟨i, i1, i2⟩ := gc4 G z1 z2 z3 z4
        exact hg i G (by omega) i2 z2 z5
      · rw [if_neg (nI_ge (by omega) (by omega))]
        by_cases n : v3 = 2147483647
        · rw [if_pos n]
          simp only [forall_eq, nI_1]
          apply done
          intro G z1 z2 z3 z4 z5
          rw [← hv, n]
          exact le_max _
        · rw [if_neg n, rf_30_4, ln_32, nI_clamp (show j < 2 ^ 31 by omega), O.2.2.2.2.1 j]
          obtain ⟨G, f1, f2, f3, f4, f5⟩ := gc3 j (by omega)
          have vj : vp_in (nI j) 32 := (vp_nI (by omega)).mpr (by omega)
          have mu4 : gc - (nI (j + 1)).toNatClampNeg < gc - (nI j).toNatClampNeg := by rw [nI_clamp (by omega), nI_clamp (by omega)]; omega
          rw [f1, nI_and]
          simp only [forall_eq, nI_1]
          refine ⟨vj, ?_⟩
          have same : ∀ i G', gI h0 32 i = nI G' → G' < 2 ^ eN E → i = j → G' = G := by
            intro i G' q1 q2 q3
            rw [q3, f1] at q1
            exact ((nI_eq (by omega) (by omega)).mp q1).symm
          by_cases y : G &&& w = 0
          · rw [if_pos (by rw [y]; rfl)]
            refine ⟨vj, vj, ?_⟩
            have hd := dsj_anot y
            have g1 := or32 (show w < 32 by omega) (show G < 32 by omega)
            have g2 := or32 (show o < 32 by omega) (show G < 32 by omega)
            unfold wX7_lower
            rw [nI_or, nI_or, show nI (w ||| G) * 32 + nI (o ||| G) = nI ((w ||| G) * 32 + (o ||| G)) by simp (disch := omega) only [lit, nI_ltI, nI_leI, nI_eq, nI_clamp, nI_add, vp_nI, nI_ne_neg, neg_ne_nI, pk_sub, pk_mul, pk_div, Nat.reduceAdd, Nat.reduceMul, Nat.reducePow, e_mn, e_mx, e_rm, lt_t, lt_f, le_t, le_f, eq_f, eq_t, ↓reduceIte, true_and, and_true, and_false, false_and, and_self, or_true, or_false, true_or, false_or, not_true, not_false_iff], rf_30_3, ln_31, nI_clamp (show (w ||| G) * 32 + (o ||| G) < 2 ^ 31 by omega)]
            have vt : vp_in (nI ((w ||| G) * 32 + (o ||| G))) 1024 := (vp_nI (by omega)).mpr (by omega)
            simp only [forall_eq]
            refine ⟨vt, vt, ?_⟩
            have og := or_gt f2 hd
            rw [hv]
            have O2 := O.lower (show w < 32 by omega) (show o < 32 by omega) (show G < 32 by omega) f2 hd f4 f5 (by rw [← hv]; exact n)
            have keep : ∀ a b, a ≤ w → b < 32 → tb (sI h 31 ((w ||| G) * 32 + (o ||| G)) (mn (tb h (w ||| G) (o ||| G)) (tb h w o))) a b = tb h a b := by
              intro a b ha hb
              show gI (sI h 31 _ _) 31 (a * 32 + b) = _
              rw [gI_sI, if_neg (by omega)]
            have less : ∀ a b, a < 32 → b < 32 → tb (sI h 31 ((w ||| G) * 32 + (o ||| G)) (mn (tb h (w ||| G) (o ||| G)) (tb h w o))) a b ≤ tb h a b := by
              intro a b ha hb
              show gI (sI h 31 _ _) 31 (a * 32 + b) ≤ _
              rw [gI_sI]
              by_cases q : a * 32 + b = (w ||| G) * 32 + (o ||| G)
              · rw [if_pos ⟨rfl, q⟩, show a = w ||| G by omega, show b = o ||| G by omega]
                exact mn_le1 _ _
              · rw [if_neg (fun z => q z.2)]
                exact Int32.le_refl _
            refine hK3 _ _ ⟨j + 1, rfl, by omega, O2, by rw [keep w o (Nat.le_refl _) (by omega)]; exact hv, fun a b G' z1 z2 z3 z4 z5 z6 z7 => ?_, fun i G' z1 z2 z3 z4 => ?_⟩ mu4
            · rw [keep a b (by omega) (by omega)]
              exact Int32.le_trans (less _ _ (or32 (by omega) (by omega)) (or32 (by omega) (by omega))) (hr a b G' z1 z2 z3 z4 z5 z6 z7)
            · rw [keep w o (Nat.le_refl _) (by omega)]
              by_cases q : i = j
              · rw [same i G' z2 z3 q]
                show gI (sI h 31 _ _) 31 ((w ||| G) * 32 + (o ||| G)) ≤ _
                rw [gI_sI, if_pos ⟨rfl, rfl⟩]
                exact mn_le2 _ _
              · exact Int32.le_trans (less _ _ (or32 (by omega) (by omega)) (or32 (by omega) (by omega))) (hg i G' (by omega) z2 z3 z4)
          · have : G &&& w ≤ G := Nat.and_le_left
            rw [if_neg (nI_ne0 (by omega) (by omega))]
            refine hK3 _ _ ⟨j + 1, rfl, by omega, O, hv, hr, fun i G' z1 z2 z3 z4 => ?_⟩ mu4
            by_cases q : i = j
            · rw [same i G' z2 z3 q] at z4
              exact absurd (dsj_and z4) y
            · exact hg i G' (by omega) z2 z3 z4
