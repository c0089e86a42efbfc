/-! the world that people, gates and laws make -/
def kpt (a k : Nat) : Bool := decide (a ∈ ([2, 56, 4, 5, 6, 57, 58, 59, 11, 12, 15, 16, 66, 67, 68, 69, 70, 73] : List Nat)) || decide ((a, k) ∈ ([(1, 1), (3, 3), (55, 1), (55, 3), (10, 3), (10, 4), (14, 3), (14, 4)] : List (Nat × Nat)))
def Fw (h h' : Hp) : Prop := ∀ a k, kpt a k = true → gI h' a k = gI h a k
theorem Fw.refl (h : Hp) : Fw h h := fun _ _ _ => rfl
theorem Fw.trans {h0 h1 h2 : Hp} (F : Fw h0 h1) (F2 : Fw h1 h2) : Fw h0 h2 := fun a k q => (F2 a k q).trans (F a k q)
theorem Fs.fw {h h' : Hp} (F : Fs h h') : Fw h h' := by
  intro a k q
  refine F.1 a k ?_ ?_ ?_ ?_ ?_ <;> (rintro rfl; simp [kpt] at q)
theorem Fw.row {h h' : Hp} (F : Fw h h') (a : Nat) (ha : ∀ k, kpt a k = true) : rI h' a = rI h a := funext fun k => F a k (ha k)
theorem Fw.set {h0 h : Hp} (F : Fw h0 h) (a k : Nat) (v : Int32) (hk : kpt a k = false) : Fw h0 (sI h a k v) := by
  intro b j q
  rw [gI_sI, if_neg (fun e => by rw [e.1, e.2, hk] at q; exact absurd q (by decide))]
  exact F b j q
theorem Fw.setL {h0 h : Hp} (F : Fw h0 h) (a k : Nat) (v : Int64) : Fw h0 (sL h a k v) := fun b j q => F b j q
def WD (h : Hp) (N g : Nat) (num : Nat → Nat) (P0 P1 : Option Lns) : Prop := PN h N ∧ GN h g num ∧ LT h 10 11 12 0 P0 ∧ LT h 14 15 16 1 P1
theorem Inv.world {h : Hp} (I : Inv h) : ∃ N g num P0 P1, WD h N g num P0 P1 := by
  obtain ⟨N, PP⟩ := I.people
  obtain ⟨g, num, G⟩ := I.gates
  obtain ⟨P0, P1, L0, L1⟩ := I.laws
  exact ⟨N, g, num, P0, P1, PP, G, L0, L1⟩
theorem LT.fw {h h' : Hp} {a0 o g w : Nat} {P : Option Lns} (L : LT h a0 o g w P) (F : Fw h h') (ha : kpt a0 3 = true ∧ kpt a0 4 = true) (hb : ∀ k, kpt o k = true) (hc : ∀ k, kpt g k = true) : LT h' a0 o g w P := by
  cases P with
  | none => exact ⟨(F a0 4 ha.2).trans L.1, (F 73 w rfl).trans L.2⟩
  | some P =>
    obtain ⟨q1, q2, q3, q4, q5, q6, q7, q8, q9, q10⟩ := L
    refine ⟨(F a0 4 ha.2).trans q1, (F 73 w rfl).trans q2, q3, q4, q5, (F a0 3 ha.1).trans q6, fun k s hk => ?_, (F 68 w rfl).trans q8, fun k s hk => ?_, fun k l hk => ?_⟩
    · rw [F o k (hb k), F g k (hc k)]; exact q7 k s hk
    · rw [F 66 _ rfl, F 67 _ rfl]; exact q9 k s hk
    · rw [F 69 _ rfl, F 70 _ rfl]; exact q10 k l hk
theorem WD.fw {h h' : Hp} {N g : Nat} {num : Nat → Nat} {P0 P1 : Option Lns} (W : WD h N g num P0 P1) (F : Fw h h') : WD h' N g num P0 P1 := by
  obtain ⟨PP, G, L0, L1⟩ := W
  refine ⟨PP.kept (F 3 3 rfl) (F 55 3 rfl) (F.row 4 (fun _ => rfl)) (F.row 5 (fun _ => rfl)) (F.row 6 (fun _ => rfl)) (F.row 57 (fun _ => rfl)) (F.row 58 (fun _ => rfl)) (F.row 59 (fun _ => rfl)), G.kept (F 1 1 rfl) (F 55 1 rfl) (fun k => F 2 k rfl) (fun k => F 56 k rfl), L0.fw F ⟨rfl, rfl⟩ (fun _ => rfl) (fun _ => rfl), L1.fw F ⟨rfl, rfl⟩ (fun _ => rfl) (fun _ => rfl)⟩
theorem hC_fw {h h' : Hp} (F : Fw h h') : hC h' = hC h := by show tn (rI h' 6) = tn (rI h 6); rw [F.row 6 (fun _ => rfl)]
theorem hL_fw {h h' : Hp} (F : Fw h h') : hL h' = hL h := by show tn (rI h' 4) = tn (rI h 4); rw [F.row 4 (fun _ => rfl)]
theorem hR_fw {h h' : Hp} (F : Fw h h') : hRt h' = hRt h := by show tn (rI h' 5) = tn (rI h 5); rw [F.row 5 (fun _ => rfl)]
/-! a passing in deed -/
theorem sideE {W o N s : Nat} (hN : N ≤ 12) (hW : W < 2 ^ N) (ho : o < 2 ^ N) (hs : s ≤ 1) : (nI W &&& ((if nI s = 0 then nI o ^^^ (-1 : Int32) else nI o) ^^^ (-1 : Int32))) = 0 ↔ ∀ p, p < N → W.testBit p = true → o.testBit p = decide (s = 1) := by
  have h12 := p12 hN
  have z0 : ∀ a, a < 4096 → (nI a = 0 ↔ ∀ i, a.testBit i = false) := by
    intro a ha
    constructor
    · intro e i
      have : a = 0 := (nI_eq (b := 0) (by omega) (by omega)).mp e
      rw [this]
      exact Nat.zero_testBit i
    · intro e
      have : a = 0 := nat_ext (fun i => by rw [e i, Nat.zero_testBit])
      rw [this]
      rfl
  rcases (show s = 0 ∨ s = 1 by omega) with rfl | rfl
  · rw [if_pos (show nI 0 = 0 from rfl), nn32, nI_and, z0 _ (Nat.lt_of_le_of_lt Nat.and_le_left (by omega))]
    constructor
    · intro h p hp hb
      have := h p
      rw [Nat.testBit_and, hb] at this
      simpa using this
    · intro h i
      rw [Nat.testBit_and]
      by_cases hi : i < N
      · cases hb : W.testBit i
        · rfl
        · have := h i hi hb
          rw [this]; rfl
      · rw [bit_hi hW (by omega)]; rfl
  · rw [if_neg (show ¬ nI 1 = 0 by decide), anot_nI (by omega), z0 _ (Nat.lt_of_le_of_lt anot_le (by omega))]
    constructor
    · intro h p hp hb
      have := h p
      rw [anot_bit (by omega), hb] at this
      simpa using this
    · intro h i
      rw [anot_bit (by omega)]
      by_cases hi : i < N
      · cases hb : W.testBit i
        · rfl
        · have := h i hi hb
          rw [this]; rfl
      · rw [bit_hi hW (by omega)]; rfl
/-- those who pass change sides -/
theorem pass_bits {W o w N s : Nat} (hN : N ≤ 12) (hW : W < 2 ^ N) (ho : o < 2 ^ N) (hw : w < 2 ^ N) (how : o &&& w = o) (hs : s ≤ 1) (hall : ∀ p, p < N → W.testBit p = true → o.testBit p = decide (s = 1)) :
    (s = 0 → o ||| W = o ^^^ W) ∧ (s = 1 → anot o W = o ^^^ W) ∧ o ^^^ W < 2 ^ N ∧ (if s = 0 then w ||| W else w) < 2 ^ N ∧ (o ^^^ W) &&& (if s = 0 then w ||| W else w) = o ^^^ W := by
  have h12 := p12 hN
  have hb : ∀ i, o.testBit i = true → w.testBit i = true := by
    intro i q
    have : (o &&& w).testBit i = true := by rw [how]; exact q
    rw [Nat.testBit_and, q] at this
    simpa using this
  have hall2 : ∀ i, W.testBit i = true → o.testBit i = decide (s = 1) := by
    intro i q
    by_cases hi : i < N
    · exact hall i hi q
    · rw [bit_hi hW (by omega)] at q; exact absurd q (by decide)
  refine ⟨fun e => ?_, fun e => ?_, Nat.xor_lt_two_pow ho hW, ?_, ?_⟩
  · subst e
    apply nat_ext
    intro i
    rw [Nat.testBit_or, Nat.testBit_xor]
    cases hi : W.testBit i
    · cases o.testBit i <;> rfl
    · rw [hall2 i hi]; rfl
  · subst e
    apply nat_ext
    intro i
    rw [anot_bit (by omega), Nat.testBit_xor]
    cases hi : W.testBit i
    · cases o.testBit i <;> rfl
    · rw [hall2 i hi]; rfl
  · by_cases e : s = 0
    · rw [if_pos e]; exact Nat.or_lt_two_pow hw hW
    · rw [if_neg e]; exact hw
  · apply nat_ext
    intro i
    rw [Nat.testBit_and, Nat.testBit_xor]
    by_cases e : s = 0
    · rw [if_pos e, Nat.testBit_or]
      cases hi : W.testBit i
      · cases ho : o.testBit i
        · simp
        · rw [hb i ho]; simp
      · simp
    · rw [if_neg e]
      have e1 : s = 1 := by omega
      cases hi : W.testBit i
      · cases ho : o.testBit i
        · simp
        · rw [hb i ho]; simp
      · rw [hall2 i hi]; simp [e1]
-- pass
set_option maxRecDepth 20000 in
set_option maxHeartbeats 1000000 in
theorem ok_pass {h : Hp} (I : Inv h) (x1 : Int32) (x2 : Int32) {A1 : Prop} (b1 : A1) {A2 : Prop} (b2 : A2) {R : Hp → Prop} {Q0 : Prop} (hR : ∀ h', Inv h' → R h') : wX11_pass 0 x1 x2 h (fun v h1 => A1 ∧ (A2 ∧ (wX12_pass 55 x1 x2 h1 (fun v' h2 => if v = v' then R h2 else Q0)))) := by
  obtain ⟨N, gn, num, P0, P1, WW⟩ := I.world
  obtain ⟨PP, G, L0, L1⟩ := id WW
  obtain ⟨r1, r2, r3, p, t, o, w, q0, q1, q2, q3, q4, q5, q6, q7, q8, q9, q10⟩ := I.2.2.1
  have : p = N := (nI_eq (by omega) (by have := PP.1; omega)).mp (q1.symm.trans PP.2.1)
  subst this
  have hN := PP.1
  have h12 := p12 hN
  unfold wX11_pass
  rw [rf_0_1, rf_0_5, PP.2.1, q2, q3, shl1 p (by omega)]
  rcases gw_cases x1 gn G.1 with gw | ⟨k, s, hk, hs, e1, e2, gw⟩
  · refine (gw h num G _ ?_).1
    rw [if_pos rfl]
    refine ⟨b1, b2, ?_⟩
    unfold wX12_pass
    refine (gw h num G _ ?_).2
    rw [if_pos rfl]
    exact fin rfl (hR h I)
  · refine (gw h num G _).1 ?_
    rw [if_neg (by decide)]
    by_cases c : x2 < 0
    · rw [if_pos c]
      refine ⟨b1, b2, ?_⟩
      unfold wX12_pass
      refine (gw h num G _).2 ?_
      rw [if_neg (by decide), if_pos c]
      exact fin rfl (hR h I)
    · rw [if_neg c]
      obtain ⟨W, hWx, rfl⟩ := nI_of c
      by_cases d : W < 2 ^ p
      · rw [if_pos (nI_lt d (by omega))]
        have dv : shr (nI W) (nI p) = 0 := by
          rw [shr_nI hWx (by omega), Nat.div_eq_of_lt d]
          rfl
        by_cases ct : t < 60
        · rw [if_pos (show nI t < 60 from nI_lt (b := 60) ct (by omega))]
          -- the reference, behind the class
          have op : ∀ hc, Fw h hc → gI hc 55 7 = nI t → ∀ Q : Int32 → Hp → Prop, wX12_canPass 55 (nI k) (nI s) (nI W) hc (fun v2 h3 => if v2 = 0 then (Q (-2 : Int32) h3) else (∀ h4 : Hp, h4 = sI h3 55 8 ((gI h3 55 8) ^^^ nI W) → (if nI s = 0 then (∀ h5 : Hp, h5 = sI h4 55 9 ((gI h4 55 9) ||| nI W) → (jX12_pass_81 55 h5 Q)) else (jX12_pass_81 55 h4 Q)))) → wX12_pass 55 x1 (nI W) hc Q := by
            intro hc F et Q q
            unfold wX12_pass
            have W1 := WW.fw F
            refine (gw hc num W1.2.1 _).2 ?_
            rw [if_neg (by decide), if_neg c, W1.1.2.2.1, dv, if_pos rfl, et, if_neg (show ¬ nI t = 60 from fun q => by have := (nI_eq (b := 60) (by omega) (by omega)).mp q; omega), e1, e2]
            exact q
          have join : (if nI s = 0 then jX11_pass_68 0 x1 (nI W) (nI o ^^^ (-1 : Int32)) h (fun v h1 => A1 ∧ A2 ∧ wX12_pass 55 x1 (nI W) h1 (fun v' h2 => if v = v' then R h2 else Q0)) else jX11_pass_68 0 x1 (nI W) (nI o) h (fun v h1 => A1 ∧ A2 ∧ wX12_pass 55 x1 (nI W) h1 (fun v' h2 => if v = v' then R h2 else Q0))) = jX11_pass_68 0 x1 (nI W) (if nI s = 0 then nI o ^^^ (-1 : Int32) else nI o) h (fun v h1 => A1 ∧ A2 ∧ wX12_pass 55 x1 (nI W) h1 (fun v' h2 => if v = v' then R h2 else Q0)) := by
            by_cases z : nI s = 0
            · rw [if_pos z, if_pos z]
            · rw [if_neg z, if_neg z]
          rw [e2, join]
          unfold jX11_pass_68
          rw [e_bitCount h (by omega), e1, e2, rf_0_0, rf_0_1, rf_0_4, rf_0_5, e_numberOf G hk, q2]
          have no : ∀ hc, Fs h hc → ¬ (pop W = num k ∧ ∀ p', p' < p → W.testBit p' = true → o.testBit p' = decide (s = 1) ∧ mayV P0 (hC h) t k p' s = true) → wX12_pass 55 x1 (nI W) hc (fun v' h2 => if -2 = v' then R h2 else Q0) := by
            intro hc F nn
            apply op hc F.fw (by rw [F.at 55 7 (by decide), r1]; exact q2)
            have W1 := WW.fw F.fw
            refine m_canPass W1.1 W1.2.1 hk hs d q6 (by rw [F.at 55 7 (by decide), r1]; exact q2) (by rw [F.at 55 8 (by decide), r2]; exact q3) W1.2.2.1 (fun z1 z2 => ?_) (fun z h' F' => ?_)
            · rw [hC_fs F] at z2
              exact absurd ⟨z1, z2⟩ nn
            · rw [if_pos rfl]
              exact fin rfl (hR h' (I.fs (F.trans F')))
          have pn := (G.2.2.2 k hk).2.2
          have pl := pop_le W (by omega)
          by_cases cp : pop W = num k
          · rw [if_pos (by rw [cp])]
            by_cases cs : (nI W &&& ((if nI s = 0 then nI o ^^^ (-1 : Int32) else nI o) ^^^ (-1 : Int32))) = 0
            · rw [if_pos cs]
              have hall := (sideE hN d q6 hs).mp cs
              apply c_letting PP d L0
              intro h1 F1
              by_cases cl : letB P0 (hC h) p t k s W = W
              · rw [if_pos (by rw [cl])]
                obtain ⟨z1, z2, z3, z4, z5⟩ := pass_bits hN d q6 q7 q8 hs hall
                have gH : ∀ hc, gI hc 23 2 = nI (o ^^^ W) → gI hc 23 3 = nI (if s = 0 then w ||| W else w) → (∀ a j, (a = 23 → j ≠ 2 ∧ j ≠ 3) → gI hc a j = gI h1 a j) → (∀ a j, gL hc a j = gL h1 a j) → wX12_pass 55 x1 (nI W) hc (fun v' h2 => if nI p - nI (pop (o ^^^ W)) = v' then R h2 else Q0) := by
                  intro hc k1 k2 k3 k4
                  have F : Fw h hc := fun a j q => (k3 a j (fun e => by subst e; simp [kpt] at q)).trans (F1.fw a j q)
                  have W1 := WW.fw F
                  have f7 : gI hc 55 7 = nI t := by rw [k3 55 7 (by decide), F1.at 55 7 (by decide), r1]; exact q2
                  have f8 : gI hc 55 8 = nI o := by rw [k3 55 8 (by decide), F1.at 55 8 (by decide), r2]; exact q3
                  have f9 : gI hc 55 9 = nI w := by rw [k3 55 9 (by decide), F1.at 55 9 (by decide), r3]; exact q4
                  apply op hc F f7
                  refine m_canPass W1.1 W1.2.1 hk hs d q6 f7 f8 W1.2.2.1 (fun y1 y2 h2 F2 => ?_) (fun nn => ?_)
                  · rw [if_neg (by decide)]
                    simp only [forall_eq, F2.at 55 8 (by decide), f8, nI_xor]
                    have last : ∀ h3, gI h3 55 8 = nI (o ^^^ W) → gI h3 55 9 = nI (if s = 0 then w ||| W else w) → (∀ a j, (a = 55 → j ≠ 8 ∧ j ≠ 9) → gI h3 a j = gI h2 a j) → (∀ a j, gL h3 a j = gL h2 a j) → jX12_pass_81 55 h3 (fun v' h2 => if nI p - nI (pop (o ^^^ W)) = v' then R h2 else Q0) := by
                      intro h3 m1 m2 m3 m4
                      unfold jX12_pass_81
                      rw [m1]
                      apply m_bitsOf (by omega)
                      rw [m3 55 3 (by decide), F2.at 55 3 (by decide), W1.1.2.2.1]
                      refine fin rfl (hR h3 (I.jd (fun a j hu => ?_) (fun a j _ => ?_) ?_))
                      · rw [m3 a j (by rintro rfl; constructor <;> (rintro rfl; simp [usd] at hu)), F2.1 a j (by rintro rfl; simp [usd] at hu) (by rintro rfl; simp [usd] at hu) (by rintro rfl; simp [usd] at hu) (by rintro rfl; simp [usd] at hu) (by rintro rfl; simp [usd] at hu), k3 a j (by rintro rfl; simp [usd] at hu), F1.1 a j (by rintro rfl; simp [usd] at hu) (by rintro rfl; simp [usd] at hu) (by rintro rfl; simp [usd] at hu) (by rintro rfl; simp [usd] at hu) (by rintro rfl; simp [usd] at hu)]
                      · rw [m4, F2.2, k4, F1.2]
                      · have e24 : rI h3 24 = rI h 24 := funext fun j => by
                          show gI h3 24 j = gI h 24 j
                          rw [m3 24 j (by omega), F2.at 24 j (by decide), k3 24 j (by omega), F1.at 24 j (by decide)]
                        have e60 : rI h3 60 = rI h 60 := funext fun j => by
                          show gI h3 60 j = gI h 60 j
                          rw [m3 60 j (by omega), F2.at 60 j (by decide), k3 60 j (by omega), F1.at 60 j (by decide)]
                        rw [m1, m2, e24, e60, m3 23 1 (by decide), F2.at 23 1 (by decide), k3 23 1 (by decide), F1.at 23 1 (by decide), m3 23 2 (by decide), F2.at 23 2 (by decide), k1, m3 23 3 (by decide), F2.at 23 3 (by decide), k2, m3 55 7 (by decide), F2.at 55 7 (by decide), f7]
                        exact ⟨q2.symm, rfl, rfl, p, t, o ^^^ W, _, hN, q1, q2, rfl, rfl, q5, z3, z4, z5, q9, q10⟩
                    by_cases s0 : s = 0
                    · rw [if_pos (show nI s = 0 by rw [s0]; rfl)]
                      apply last
                      · simp only [forall_eq, gI_sI, gI_sL, gL_sI, gL_sL, gI_cpI, gL_cpI, gI_cpL, gL_cpL, Nat.reduceEqDiff, Nat.reduceAdd, Nat.reduceSub, cl0, cl1, cl12, cl39, and_false, false_and, and_true, true_and, and_self, ↓reduceIte]
                      · simp only [forall_eq, gI_sI, gI_sL, gL_sI, gL_sL, gI_cpI, gL_cpI, gI_cpL, gL_cpL, Nat.reduceEqDiff, Nat.reduceAdd, Nat.reduceSub, cl0, cl1, cl12, cl39, and_false, false_and, and_true, true_and, and_self, ↓reduceIte, F2.at 55 9 (by decide), f9, nI_or, if_pos s0]
                      · intro a j hn
                        rw [gI_sI, if_neg (fun q => (hn q.1).2 q.2), gI_sI, if_neg (fun q => (hn q.1).1 q.2)]
                      · intro a j; rfl
                    · rw [if_neg (show ¬ nI s = 0 from nI_ne0 (by omega) (by omega))]
                      apply last
                      · simp only [forall_eq, gI_sI, gI_sL, gL_sI, gL_sL, gI_cpI, gL_cpI, gI_cpL, gL_cpL, Nat.reduceEqDiff, Nat.reduceAdd, Nat.reduceSub, cl0, cl1, cl12, cl39, and_false, false_and, and_true, true_and, and_self, ↓reduceIte]
                      · simp only [forall_eq, gI_sI, gI_sL, gL_sI, gL_sL, gI_cpI, gL_cpI, gI_cpL, gL_cpL, Nat.reduceEqDiff, Nat.reduceAdd, Nat.reduceSub, cl0, cl1, cl12, cl39, and_false, false_and, and_true, true_and, and_self, ↓reduceIte, F2.at 55 9 (by decide), f9, if_neg s0]
                      · intro a j hn
                        rw [gI_sI, if_neg (fun q => (hn q.1).1 q.2)]
                      · intro a j; rfl
                  · refine absurd ⟨cp, fun p' hp' hb => ⟨hall p' hp' hb, ?_⟩⟩ nn
                    rw [hC_fw F]
                    exact (letB_eq d).mp cl p' hp' hb
                have f2 : gI h1 23 2 = nI o := by rw [F1.at 23 2 (by decide)]; exact q3
                have f3 : gI h1 23 3 = nI w := by rw [F1.at 23 3 (by decide)]; exact q4
                have pw : ∀ hc, gI hc 23 2 = nI (o ^^^ W) → gI hc 23 3 = nI (if s = 0 then w ||| W else w) → (∀ a j, (a = 23 → j ≠ 2 ∧ j ≠ 3) → gI hc a j = gI h1 a j) → (∀ a j, gL hc a j = gL h1 a j) → wX11_peopleWithin 0 hc (fun v7 => A1 ∧ A2 ∧ wX12_pass 55 x1 (nI W) hc (fun v' h2 => if v7 = v' then R h2 else Q0)) := by
                  intro hc k1 k2 k3 k4
                  unfold wX11_peopleWithin
                  rw [rf_0_5, rf_0_1, k1, e_bitCount hc (by omega), k3 3 3 (by decide), F1.at 3 3 (by decide), PP.2.1]
                  exact ⟨b1, b2, gH hc k1 k2 k3 k4⟩
                unfold wX3_move
                by_cases s0 : s = 0
                · rw [if_pos (show nI s = 0 by rw [s0]; rfl)]
                  simp only [forall_eq]
                  apply pw
                  · simp only [forall_eq, gI_sI, gI_sL, gL_sI, gL_sL, gI_cpI, gL_cpI, gI_cpL, gL_cpL, Nat.reduceEqDiff, Nat.reduceAdd, Nat.reduceSub, cl0, cl1, cl12, cl39, and_false, false_and, and_true, true_and, and_self, ↓reduceIte, f2, nI_or, z1 s0]
                  · simp only [forall_eq, gI_sI, gI_sL, gL_sI, gL_sL, gI_cpI, gL_cpI, gI_cpL, gL_cpL, Nat.reduceEqDiff, Nat.reduceAdd, Nat.reduceSub, cl0, cl1, cl12, cl39, and_false, false_and, and_true, true_and, and_self, ↓reduceIte, f3, nI_or, if_pos s0]
                  · intro a j hn
                    rw [gI_sI, if_neg (fun q => (hn q.1).2 q.2), gI_sI, if_neg (fun q => (hn q.1).1 q.2)]
                  · intro a j; rfl
                · rw [if_neg (show ¬ nI s = 0 from nI_ne0 (by omega) (by omega))]
                  simp only [forall_eq]
                  apply pw
                  · simp only [forall_eq, gI_sI, gI_sL, gL_sI, gL_sL, gI_cpI, gL_cpI, gI_cpL, gL_cpL, Nat.reduceEqDiff, Nat.reduceAdd, Nat.reduceSub, cl0, cl1, cl12, cl39, and_false, false_and, and_true, true_and, and_self, ↓reduceIte, f2]
                    rw [anot_nI (by omega), z2 (by omega)]
                  · simp only [forall_eq, gI_sI, gI_sL, gL_sI, gL_sL, gI_cpI, gL_cpI, gI_cpL, gL_cpL, Nat.reduceEqDiff, Nat.reduceAdd, Nat.reduceSub, cl0, cl1, cl12, cl39, and_false, false_and, and_true, true_and, and_self, ↓reduceIte, f3, if_neg s0]
                  · intro a j hn
                    rw [gI_sI, if_neg (fun q => (hn q.1).1 q.2)]
                  · intro a j; rfl
              · have := letB_lt P0 (hC h) p t k s W
                rw [if_neg (fun q => cl ((nI_eq (by omega) (by omega)).mp q))]
                refine ⟨b1, b2, no h1 F1 (fun q => cl ((letB_eq d).mpr (fun p' hp' hb => (q.2 p' hp' hb).2)))⟩
            · rw [if_neg cs]
              exact ⟨b1, b2, no h (Fs.refl h) (fun q => cs ((sideE hN d q6 hs).mpr (fun p' hp' hb => (q.2 p' hp' hb).1)))⟩
          · rw [if_neg (fun q => cp ((nI_eq (by omega) (by omega)).mp q))]
            exact ⟨b1, b2, no h (Fs.refl h) (fun q => cp q.1)⟩
        · rw [if_neg (show ¬ nI t < 60 from nI_nlt (b := 60) (by omega) (by omega))]
          refine ⟨b1, b2, ?_⟩
          unfold wX12_pass
          refine (gw h num G _).2 ?_
          rw [if_neg (by decide), if_neg c, PP.2.2.1, dv, if_pos rfl, r1, q2, if_pos (show nI t = 60 by rw [show t = 60 by omega]; rfl)]
          exact fin rfl (hR h I)
      · rw [if_neg (nI_nlt (by omega) (by omega))]
        refine ⟨b1, b2, ?_⟩
        unfold wX12_pass
        refine (gw h num G _).2 ?_
        have : 1 ≤ W / 2 ^ p := (Nat.one_le_div_iff (by omega)).mpr (by omega)
        have : W / 2 ^ p ≤ W := Nat.div_le_self _ _
        rw [if_neg (by decide), if_neg c, PP.2.2.1, shr_nI hWx (by omega), if_neg (nI_ne0 (by omega) (by omega))]
        exact fin rfl (hR h I)
