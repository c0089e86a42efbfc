/-! the class's row holds the least costs -/
def rep (h : Hp) (P : Nat → Nat → Nat → Prop) : Prop := ∀ w o, w < 32 → o < 32 → (tb h w o = 2147483647 ∧ ∀ c, ¬ P o w c) ∨ ∃ c, c < 1000000 ∧ tb h w o = nI c ∧ P o w c ∧ ∀ c', P o w c' → c ≤ c'
theorem rep.iff {h : Hp} {P P' : Nat → Nat → Nat → Prop} (r : rep h P) (e : ∀ o w c, P o w c ↔ P' o w c) : rep h P' := by
  intro w o hw ho
  rcases r w o hw ho with ⟨h1, h2⟩ | ⟨c, h1, h2, h3, h4⟩
  · exact Or.inl ⟨h1, fun c q => h2 c ((e o w c).mpr q)⟩
  · exact Or.inr ⟨c, h1, h2, (e o w c).mp h3, fun c' q => h4 c' ((e o w c').mpr q)⟩
theorem nI_big {c : Nat} (h : c < 1000000) : ¬ nI c = 2147483647 := fun q => by have := (nI_eq (b := 2147483647) (by omega) (by omega)).mp q; omega
theorem pop_0 {A : Nat} (hA : A < 4096) (h : pop A = 0) : A = 0 := by
  apply nat_ext
  intro i
  rw [Nat.zero_testBit]
  cases c : A.testBit i
  · rfl
  · have := pop_del hA c
    omega
def Fq0 (E : EV) (t : Nat) : Nat := letB (eP E) (eC E) (eN E) t 0 0 (anot (setB (fun k => decide (eL E k ≤ t)) (eN E)) 0)
def Fq1 (E : EV) (t : Nat) : Nat := letB (eP E) (eC E) (eN E) t 0 1 (setB (fun k => decide (eR E k ≤ t)) (eN E) &&& (2 ^ eN E - 1))
theorem m0bit {E : EV} {t o w i : Nat} (hN : eN E ≤ 5) (v : vOK E o w) : (mset E 0 t 0 o w).testBit i = ((Fq0 E t).testBit i && !w.testBit i) := by
  have h12 := p12 (show eN E ≤ 12 by omega)
  have hb := setB_lt (fun k => decide (eL E k ≤ t)) (eN E)
  unfold mset Fq0 letB msB wts
  rw [setB_bit, setB_bit, anot_bit (by omega), setB_bit, Nat.zero_testBit]
  by_cases hi : i < eN E
  · cases c : o.testBit i
    · cases w.testBit i <;> simp [hi]
    · rw [v.2 i c]; simp
  · simp [hi]
theorem m1bit {E : EV} {t o w i : Nat} : (mset E 1 t 0 o w).testBit i = ((Fq1 E t).testBit i && o.testBit i) := by
  unfold mset Fq1 letB msB wts
  rw [setB_bit, setB_bit, Nat.testBit_and, setB_bit, Nat.testBit_two_pow_sub_one]
  by_cases hi : i < eN E
  · cases c : o.testBit i <;> simp [hi]
  · simp [hi]
theorem ok0_iff {E : EV} {m t o w A : Nat} (hN : eN E ≤ 5) (v : vOK E o w) : okS E m 0 t o w A ↔ sbt A (Fq0 E t) ∧ dsj A w ∧ pop A % m = 0 := by
  constructor
  · rintro ⟨h1, h2⟩
    refine ⟨fun i hi => ?_, fun i hi => ?_, h2⟩
    · have := h1 i hi
      rw [m0bit hN v] at this
      simp only [Bool.and_eq_true] at this
      exact this.1
    · have := h1 i hi
      rw [m0bit hN v] at this
      simp only [Bool.and_eq_true, Bool.not_eq_true'] at this
      exact this.2
  · rintro ⟨h1, h2, h3⟩
    refine ⟨fun i hi => ?_, h3⟩
    rw [m0bit hN v, h1 i hi, h2 i hi]
    rfl
theorem ok1_iff {E : EV} {m t o w B : Nat} : okS E m 1 t o w B ↔ sbt B (Fq1 E t) ∧ sbt B o ∧ pop B % m = 0 := by
  constructor
  · rintro ⟨h1, h2⟩
    refine ⟨fun i hi => ?_, fun i hi => ?_, h2⟩
    · have := h1 i hi
      rw [m1bit] at this
      simp only [Bool.and_eq_true] at this
      exact this.1
    · have := h1 i hi
      rw [m1bit] at this
      simp only [Bool.and_eq_true] at this
      exact this.2
  · rintro ⟨h1, h2, h3⟩
    refine ⟨fun i hi => ?_, h3⟩
    rw [m1bit, h1 i hi, h2 i hi]
    rfl
theorem pop_G {G m : Nat} (h : pop G = m) (hm : 1 ≤ m) : 1 ≤ G := by
  rcases Nat.eq_zero_or_pos G with q | q
  · rw [q] at h
    have : pop 0 = 0 := by decide
    omega
  · exact q
theorem chainO {h : Hp} {E : EV} {F m : Nat} (hN : eN E ≤ 5) (hm : 1 ≤ m) (hF : F < 2 ^ eN E) (hr : ∀ w o G, w < 2 ^ eN E → o ≤ w → 1 ≤ G → G < 2 ^ eN E → sbt G F → pop G = m → dsj G w → tb h (w ||| G) (o ||| G) ≤ tb h w o) : ∀ (k A o w : Nat), pop A = k * m → sbt A F → dsj A w → vOK E o w → tb h (w ||| A) (o ||| A) ≤ tb h w o
  | 0, A, o, w, hp, hs, hd, v => by
    have h12 := p12 (show eN E ≤ 12 by omega)
    have := sbt_lt hs hF
    have z := pop_0 (show A < 4096 by omega) (by rw [hp, Nat.zero_mul])
    subst z
    rw [Nat.or_zero, Nat.or_zero]
    exact Int32.le_refl _
  | k + 1, A, o, w, hp, hs, hd, v => by
    have h12 := p12 (show eN E ≤ 12 by omega)
    have hA := sbt_lt hs hF
    obtain ⟨G, g1, g2, g3⟩ := split (show A < 4096 by omega) hm hp
    have sG : sbt G F := fun i hi => hs i (g1 i hi)
    have dG : dsj G w := fun i hi => hd i (g1 i hi)
    have step := hr w o G v.1 (sbt_le v.2) (pop_G g2 hm) (sbt_lt sG hF) sG g2 dG
    have v2 : vOK E (o ||| G) (w ||| G) := by
      refine ⟨Nat.or_lt_two_pow v.1 (sbt_lt sG hF), fun i hi => ?_⟩
      rw [Nat.testBit_or] at hi ⊢
      cases c : G.testBit i
      · rw [c, Bool.or_false] at hi
        rw [v.2 i hi]; rfl
      · simp
    have ih := chainO hN hm hF hr k (anot A G) (o ||| G) (w ||| G) g3 (fun i hi => by
      rw [anot_bit (by omega)] at hi
      simp only [Bool.and_eq_true] at hi
      exact hs i hi.1) (fun i hi => by
      rw [anot_bit (by omega)] at hi
      simp only [Bool.and_eq_true, Bool.not_eq_true'] at hi
      rw [Nat.testBit_or, hd i hi.1, hi.2]
      rfl) v2
    have e : ∀ x, (x ||| G) ||| anot A G = x ||| A := by
      intro x
      apply nat_ext
      intro i
      rw [Nat.testBit_or, Nat.testBit_or, anot_bit (by omega), Nat.testBit_or]
      cases c : G.testBit i
      · simp
      · rw [g1 i c]; simp
    rw [e, e] at ih
    exact Int32.le_trans ih step
theorem chainI {h : Hp} {E : EV} {F m : Nat} (hN : eN E ≤ 5) (hm : 1 ≤ m) (hF : F < 2 ^ eN E) (hr : ∀ w o G, w < 2 ^ eN E → o ≤ w → 1 ≤ G → G < 2 ^ eN E → sbt G F → pop G = m → sbt G o → tb h w (anot o G) ≤ tb h w o) : ∀ (k B o w : Nat), pop B = k * m → sbt B F → sbt B o → vOK E o w → tb h w (anot o B) ≤ tb h w o
  | 0, B, o, w, hp, hs, hd, v => by
    have h12 := p12 (show eN E ≤ 12 by omega)
    have := sbt_lt hs hF
    have ol := sbt_lt v.2 v.1
    have z := pop_0 (show B < 4096 by omega) (by rw [hp, Nat.zero_mul])
    subst z
    rw [anot_0 (by omega)]
    exact Int32.le_refl _
  | k + 1, B, o, w, hp, hs, hd, v => by
    have h12 := p12 (show eN E ≤ 12 by omega)
    have hA := sbt_lt hs hF
    have ol := sbt_lt v.2 v.1
    obtain ⟨G, g1, g2, g3⟩ := split (show B < 4096 by omega) hm hp
    have sG : sbt G F := fun i hi => hs i (g1 i hi)
    have dG : sbt G o := fun i hi => hd i (g1 i hi)
    have step := hr w o G v.1 (sbt_le v.2) (pop_G g2 hm) (sbt_lt sG hF) sG g2 dG
    have v2 : vOK E (anot o G) w := by
      refine ⟨v.1, fun i hi => ?_⟩
      rw [anot_bit (by omega)] at hi
      simp only [Bool.and_eq_true] at hi
      exact v.2 i hi.1
    have ih := chainI hN hm hF hr k (anot B G) (anot o G) w g3 (fun i hi => by
      rw [anot_bit (by omega)] at hi
      simp only [Bool.and_eq_true] at hi
      exact hs i hi.1) (fun i hi => by
      rw [anot_bit (by omega)] at hi ⊢
      simp only [Bool.and_eq_true, Bool.not_eq_true'] at hi
      rw [hd i hi.1, hi.2]
      rfl) v2
    have e : anot (anot o G) (anot B G) = anot o B := by
      apply nat_ext
      intro i
      rw [anot_bit (Nat.lt_of_le_of_lt anot_le (by omega)), anot_bit (by omega), anot_bit (by omega), anot_bit (by omega)]
      cases c : G.testBit i
      · simp
      · rw [g1 i c]; simp
    rw [e] at ih
    exact Int32.le_trans ih step
def POu (E : EV) (m t : Nat) (P : Nat → Nat → Nat → Prop) (o' w' c : Nat) : Prop := ∃ o w A, P o w c ∧ okS E m 0 t o w A ∧ o' = o ||| A ∧ w' = w ||| A
def PIn (E : EV) (m t : Nat) (P : Nat → Nat → Nat → Prop) (o' w c : Nat) : Prop := ∃ o B, P o w c ∧ okS E m 1 t o w B ∧ o' = o ^^^ B
def PPy (E : EV) (t : Nat) (P : Nat → Nat → Nat → Prop) (o w c : Nat) : Prop := ∃ c0, P o w c0 ∧ c = c0 + wcN E t o w
theorem Fq0_lt (E : EV) (t : Nat) : Fq0 E t < 2 ^ eN E := letB_lt _ _ _ _ _ _ _
theorem Fq1_lt (E : EV) (t : Nat) : Fq1 E t < 2 ^ eN E := letB_lt _ _ _ _ _ _ _
theorem rep_out {h0 h : Hp} {E : EV} {m t : Nat} {P : Nat → Nat → Nat → Prop} (hN : eN E ≤ 5) (hm : 1 ≤ m) (r : rep h0 P) (pv : ∀ o w c, P o w c → vOK E o w) (O : outI h0 E m (Fq0 E t) h)
    (hr : ∀ w o G, w < 2 ^ eN E → o ≤ w → 1 ≤ G → G < 2 ^ eN E → sbt G (Fq0 E t) → pop G = m → dsj G w → tb h (w ||| G) (o ||| G) ≤ tb h w o) : rep h (POu E m t P) := by
  have h32 := p5 hN
  have low : ∀ w' o' c, POu E m t P o' w' c → ∃ c1, c1 ≤ c ∧ c1 < 1000000 ∧ tb h w' o' ≤ nI c1 := by
    rintro w' o' c ⟨o, w, A, h1, h2, rfl, rfl⟩
    have v := pv o w c h1
    have ol := sbt_lt v.2 v.1
    obtain ⟨a1, a2, a3⟩ := (ok0_iff hN v).mp h2
    obtain ⟨k, hk⟩ := mul_of a3
    have ch := chainO hN hm (Fq0_lt E t) hr k A o w hk a1 a2 v
    have wl := v.1
    rcases r w o (by omega) (by omega) with ⟨q1, q2⟩ | ⟨c1, q1, q2, q3, q4⟩
    · exact absurd h1 (q2 c)
    · refine ⟨c1, q4 c h1, q1, ?_⟩
      rw [← q2]
      exact Int32.le_trans ch (O.1 w o (by omega) (by omega))
  intro w' o' hw ho
  rcases O.2.1 w' o' hw ho with z | ⟨w0, o0, A, z1, z2, z3, z4, z5, z6, z7, z8⟩
  · refine Or.inl ⟨z, fun c q => ?_⟩
    obtain ⟨c1, _, l2, l3⟩ := low w' o' c q
    rw [z] at l3
    have := (nI_leI (a := 2147483647) (b := c1) (by omega) (by omega)).mp l3
    omega
  · rcases r w0 o0 z1 z2 with ⟨q1, q2⟩ | ⟨c1, q1, q2, q3, q4⟩
    · refine Or.inl ⟨by rw [← z3, q1], fun c q => ?_⟩
      obtain ⟨c2, _, l2, l3⟩ := low w' o' c q
      rw [← z3, q1] at l3
      have := (nI_leI (a := 2147483647) (b := c2) (by omega) (by omega)).mp l3
      omega
    · refine Or.inr ⟨c1, q1, by rw [← z3, q2], ⟨o0, w0, A, q3, (ok0_iff hN (pv _ _ _ q3)).mpr ⟨z7, z6, z8⟩, z5, z4⟩, fun c' q => ?_⟩
      obtain ⟨c2, l1, l2, l3⟩ := low w' o' c' q
      rw [← z3, q2] at l3
      have := (nI_leI (by omega) (by omega)).mp l3
      omega
theorem xor_anot {o B : Nat} (ho : o < 4096) (h : sbt B o) : o ^^^ B = anot o B := by
  apply nat_ext
  intro i
  rw [anot_bit ho, Nat.testBit_xor]
  cases c : B.testBit i
  · simp
  · rw [h i c]; rfl
theorem rep_in {h0 h : Hp} {E : EV} {m t : Nat} {P : Nat → Nat → Nat → Prop} (hN : eN E ≤ 5) (hm : 1 ≤ m) (r : rep h0 P) (pv : ∀ o w c, P o w c → vOK E o w) (O : inI h0 m (Fq1 E t) h)
    (hr : ∀ w o G, w < 2 ^ eN E → o ≤ w → 1 ≤ G → G < 2 ^ eN E → sbt G (Fq1 E t) → pop G = m → sbt G o → tb h w (anot o G) ≤ tb h w o) : rep h (PIn E m t P) := by
  have h32 := p5 hN
  have low : ∀ w' o' c, PIn E m t P o' w' c → ∃ c1, c1 ≤ c ∧ c1 < 1000000 ∧ tb h w' o' ≤ nI c1 := by
    rintro w o' c ⟨o, B, h1, h2, rfl⟩
    have v := pv o w c h1
    have ol := sbt_lt v.2 v.1
    obtain ⟨a1, a2, a3⟩ := ok1_iff.mp h2
    obtain ⟨k, hk⟩ := mul_of a3
    have ch := chainI hN hm (Fq1_lt E t) hr k B o w hk a1 a2 v
    have wl := v.1
    rw [xor_anot (by omega) a2]
    rcases r w o (by omega) (by omega) with ⟨q1, q2⟩ | ⟨c1, q1, q2, q3, q4⟩
    · exact absurd h1 (q2 c)
    · refine ⟨c1, q4 c h1, q1, ?_⟩
      rw [← q2]
      exact Int32.le_trans ch (O.1 w o (by omega) (by omega))
  intro w' o' hw ho
  rcases O.2.1 w' o' hw ho with z | ⟨o0, B, z2, z3, z5, z6, z7, z8⟩
  · refine Or.inl ⟨z, fun c q => ?_⟩
    obtain ⟨c1, _, l2, l3⟩ := low w' o' c q
    rw [z] at l3
    have := (nI_leI (a := 2147483647) (b := c1) (by omega) (by omega)).mp l3
    omega
  · rcases r w' o0 hw z2 with ⟨q1, q2⟩ | ⟨c1, q1, q2, q3, q4⟩
    · refine Or.inl ⟨by rw [← z3, q1], fun c q => ?_⟩
      obtain ⟨c2, _, l2, l3⟩ := low w' o' c q
      rw [← z3, q1] at l3
      have := (nI_leI (a := 2147483647) (b := c2) (by omega) (by omega)).mp l3
      omega
    · refine Or.inr ⟨c1, q1, by rw [← z3, q2], ⟨o0, B, q3, ok1_iff.mpr ⟨z7, z6, z8⟩, by rw [z5, xor_anot (by omega) z6]⟩, fun c' q => ?_⟩
      obtain ⟨c2, l1, l2, l3⟩ := low w' o' c' q
      rw [← z3, q2] at l3
      have := (nI_leI (by omega) (by omega)).mp l3
      omega
theorem pyV_eq {E : EV} {t o w : Nat} (hN : eN E ≤ 5) (v : vOK E o w) : pyV E t w o = wcN E t o w := by
  have h12 := p12 (show eN E ≤ 12 by omega)
  have hb := setB_lt (fun k => decide (eL E k ≤ t)) (eN E)
  unfold pyV wcN
  apply smT_eq
  intro j hj
  have e : (pyS E t w o).testBit j = wts (eL E) (eR E) t o w j := by
    unfold pyS wts
    rw [Nat.testBit_or, anot_bit (Nat.lt_of_le_of_lt anot_le (by omega)), anot_bit (by omega), setB_bit, Nat.zero_testBit, Nat.testBit_and, Nat.testBit_and, setB_bit, Nat.testBit_two_pow_sub_one]
    cases c : o.testBit j
    · cases w.testBit j <;> simp [hj]
    · rw [v.2 j c]; simp [hj]
  rw [e]
theorem rep_pay {h0 h : Hp} {E : EV} {t : Nat} {P : Nat → Nat → Nat → Prop} (hN : eN E ≤ 5) (hc : ∀ p, p < eN E → eC E p ≤ 9) (r : rep h0 P) (pv : ∀ o w c, P o w c → vOK E o w) (pl : ∀ o w c, P o w c → c < 900000)
    (hT : ∀ a b, a < 32 → b < 32 → tb h a b = if a < 2 ^ eN E ∧ b ≤ a ∧ tb h0 a b ≠ 2147483647 then tb h0 a b + nI (pyV E t a b) else tb h0 a b) : rep h (PPy E t P) := by
  have h32 := p5 hN
  intro w o hw ho
  rcases r w o hw ho with ⟨q1, q2⟩ | ⟨c1, q1, q2, q3, q4⟩
  · refine Or.inl ⟨?_, fun c q => ?_⟩
    · rw [hT w o hw ho, if_neg (fun z => z.2.2 q1)]
      exact q1
    · obtain ⟨c0, z, _⟩ := q
      exact q2 c0 z
  · have v := pv o w c1 q3
    have wc := wcN_le hN hc t o w
    have := pl o w c1 q3
    refine Or.inr ⟨c1 + wcN E t o w, by omega, ?_, ⟨c1, q3, rfl⟩, fun c' q => ?_⟩
    · rw [hT w o hw ho, if_pos ⟨v.1, sbt_le v.2, by rw [q2]; exact nI_big q1⟩, q2, pyV_eq hN v, nI_add]
    · obtain ⟨c0, z1, z2⟩ := q
      have := q4 c0 z1
      omega
theorem PF_step {E : EV} {m n : Nat} (o w c : Nat) : PPy E n (PIn E m n (POu E m n (PF E m n))) o w c ↔ PF E m (n + 1) o w c := by
  constructor
  · rintro ⟨c0, ⟨o1, B, ⟨o0, w0, A, h1, h2, h3, h4⟩, h5, h6⟩, h7⟩
    subst h3 h4 h6
    exact ⟨o0, w0, c0, A, B, h1, h2, h5, rfl, rfl, h7⟩
  · rintro ⟨o0, w0, c0, A, B, h1, h2, h3, h4, h5, h6⟩
    subst h4 h5
    exact ⟨c0, ⟨o0 ||| A, B, ⟨o0, w0, A, h1, h2, rfl, rfl⟩, h3, rfl⟩, h6⟩
