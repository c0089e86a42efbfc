/-! the least that days can cost -/
def wcN (E : EV) (t o w : Nat) : Nat := smT (fun p => if wts (eL E) (eR E) t o w p then eC E p else 0) (eN E)
def sbt (A B : Nat) : Prop := ∀ i, A.testBit i = true → B.testBit i = true
def okS (E : EV) (m s t o w A : Nat) : Prop := sbt A (mset E s t 0 o w) ∧ pop A % m = 0
def vOK (E : EV) (o w : Nat) : Prop := w < 2 ^ eN E ∧ sbt o w
theorem sbt_lt {A B n : Nat} (h : sbt A B) (hB : B < 2 ^ n) : A < 2 ^ n := by
  have : A = A &&& B := by
    apply nat_ext
    intro i
    rw [Nat.testBit_and]
    cases c : A.testBit i
    · rfl
    · rw [h i c]; rfl
  rw [this]
  exact Nat.lt_of_le_of_lt Nat.and_le_right hB
theorem sbt_le {A B : Nat} (h : sbt A B) : A ≤ B := by
  have : A = A &&& B := by
    apply nat_ext
    intro i
    rw [Nat.testBit_and]
    cases c : A.testBit i
    · rfl
    · rw [h i c]; rfl
  rw [this]
  exact Nat.and_le_right
theorem sbt_anot {A B : Nat} (hA : A < 4096) : anot A B = 0 ↔ sbt A B := by
  constructor
  · intro h i hi
    have : (anot A B).testBit i = false := by rw [h]; exact Nat.zero_testBit i
    rw [anot_bit hA, hi] at this
    simpa using this
  · intro h
    apply nat_ext
    intro i
    rw [anot_bit hA, Nat.zero_testBit]
    cases c : A.testBit i
    · rfl
    · rw [h i c]; rfl
theorem sbt_0 (B : Nat) : sbt 0 B := fun i hi => by rw [Nat.zero_testBit] at hi; exact absurd hi (by decide)
theorem vOK.out {E : EV} {t o w A : Nat} (v : vOK E o w) (h : sbt A (mset E 0 t 0 o w)) : vOK E (o ||| A) (w ||| A) := by
  refine ⟨Nat.or_lt_two_pow v.1 (sbt_lt h (mset_lt _ _ _ _ _ _)), fun i hi => ?_⟩
  rw [Nat.testBit_or] at hi ⊢
  cases c : A.testBit i
  · rw [c, Bool.or_false] at hi
    rw [v.2 i hi]; rfl
  · simp
theorem vOK.inn {E : EV} {t o w B : Nat} (v : vOK E o w) (h : sbt B (mset E 1 t 0 o w)) : vOK E (o ^^^ B) w := by
  refine ⟨v.1, fun i hi => ?_⟩
  rw [Nat.testBit_xor] at hi
  cases c : B.testBit i
  · rw [c, Bool.xor_false] at hi
    exact v.2 i hi
  · exact v.2 i (by rw [mset_side i (h i c)]; rfl)
/-- from the first time on -/
def PF (E : EV) (m : Nat) : Nat → Nat → Nat → Nat → Prop
  | 0, o, w, c => o = 0 ∧ w = 0 ∧ c = 0
  | n + 1, o', w', c' => ∃ o w c A B, PF E m n o w c ∧ okS E m 0 n o w A ∧ okS E m 1 n (o ||| A) (w ||| A) B ∧ o' = (o ||| A) ^^^ B ∧ w' = w ||| A ∧ c' = c + wcN E n o' w'
/-- to the last one -/
def PB (E : EV) (m T : Nat) : Nat → Nat → Nat → Nat → Prop
  | 0, _, _, c => c = 0
  | n + 1, o, w, c => ∃ A B c2, okS E m 0 (T - 1 - n) o w A ∧ okS E m 1 (T - 1 - n) (o ||| A) (w ||| A) B ∧ PB E m T n ((o ||| A) ^^^ B) (w ||| A) c2 ∧ c = wcN E (T - 1 - n) ((o ||| A) ^^^ B) (w ||| A) + c2
theorem PF_PB {E : EV} {m T : Nat} : ∀ (k o w c1 c2 : Nat), k ≤ T → PF E m k o w c1 → PB E m T (T - k) o w c2 → PB E m T T 0 0 (c1 + c2)
  | 0, o, w, c1, c2, _, ⟨h1, h2, h3⟩, hb => by
    subst h1 h2 h3
    rw [Nat.zero_add]
    exact hb
  | k + 1, o', w', c1, c2, hk, ⟨o, w, c, A, B, h1, h2, h3, h4, h5, h6⟩, hb => by
    have := PF_PB (T := T) k o w c (wcN E k o' w' + c2) (by omega) h1 (by
      rw [show T - k = (T - (k + 1)) + 1 by omega]
      refine ⟨A, B, c2, ?_, ?_, ?_, ?_⟩
      · rw [show T - 1 - (T - (k + 1)) = k by omega]; exact h2
      · rw [show T - 1 - (T - (k + 1)) = k by omega]; exact h3
      · rw [← h4, ← h5]; exact hb
      · rw [show T - 1 - (T - (k + 1)) = k by omega, ← h4, ← h5])
    rw [h6, Nat.add_assoc]
    exact this
theorem PB_PF {E : EV} {m T : Nat} : ∀ (n o w c1 c2 : Nat), n ≤ T → PF E m (T - n) o w c1 → PB E m T n o w c2 → ∃ o' w', PF E m T o' w' (c1 + c2)
  | 0, o, w, c1, c2, _, hf, hb => by
    have hb : c2 = 0 := hb
    subst hb
    exact ⟨o, w, hf⟩
  | n + 1, o, w, c1, c2, hn, hf, ⟨A, B, c3, h1, h2, h3, h4⟩ => by
    have e : T - 1 - n = T - (n + 1) := by omega
    rw [e] at h1 h2 h4
    have := PB_PF (T := T) n ((o ||| A) ^^^ B) (w ||| A) (c1 + wcN E (T - (n + 1)) ((o ||| A) ^^^ B) (w ||| A)) c3 (by omega) (by
      rw [show T - n = T - (n + 1) + 1 by omega]
      exact ⟨o, w, c1, A, B, hf, h1, h2, rfl, rfl, rfl⟩) h3
    rw [h4, ← Nat.add_assoc]
    exact this
theorem PF_ok {E : EV} {m : Nat} : ∀ (k o w c : Nat), PF E m k o w c → vOK E o w
  | 0, o, w, c, ⟨h1, h2, _⟩ => by
    subst h1 h2
    exact ⟨Nat.two_pow_pos _, sbt_0 _⟩
  | k + 1, o', w', c', ⟨o, w, c, A, B, h1, h2, h3, h4, h5, h6⟩ => by
    rw [h4, h5]
    exact ((PF_ok k o w c h1).out h2.1).inn h3.1
theorem smT_le {f : Nat → Nat} {b : Nat} : ∀ n, (∀ i, i < n → f i ≤ b) → smT f n ≤ n * b
  | 0, _ => by simp [smT]
  | n + 1, h => by
    have ih := smT_le n (fun i hi => h i (by omega))
    have := h n (by omega)
    rw [smT, Nat.succ_mul]
    omega
theorem wcN_le {E : EV} (hN : eN E ≤ 5) (hc : ∀ p, p < eN E → eC E p ≤ 9) (t o w : Nat) : wcN E t o w ≤ 45 := by
  have := smT_le (f := fun p => if wts (eL E) (eR E) t o w p then eC E p else 0) (b := 9) (eN E) (fun i hi => by
    show (if wts (eL E) (eR E) t o w i = true then eC E i else 0) ≤ 9
    by_cases c : wts (eL E) (eR E) t o w i = true
    · rw [if_pos c]; exact hc i hi
    · rw [if_neg c]; omega)
  have : eN E * 9 ≤ 5 * 9 := Nat.mul_le_mul_right 9 hN
  unfold wcN
  omega
theorem PF_le {E : EV} {m : Nat} (hN : eN E ≤ 5) (hc : ∀ p, p < eN E → eC E p ≤ 9) : ∀ (k o w c : Nat), PF E m k o w c → c ≤ 45 * k
  | 0, o, w, c, ⟨_, _, h3⟩ => by omega
  | k + 1, o', w', c', ⟨o, w, c, A, B, h1, h2, h3, h4, h5, h6⟩ => by
    have := PF_le hN hc k o w c h1
    have := wcN_le hN hc k o' w'
    omega
/-! the least of some -/
def mnF (ok : Nat → Bool) (v : Nat → Nat) : Nat → Nat
  | 0 => 1000000
  | k + 1 => if ok k then min (mnF ok v k) (v k) else mnF ok v k
theorem mnF_le {ok : Nat → Bool} {v : Nat → Nat} {k : Nat} (h : ok k = true) : ∀ K, k < K → mnF ok v K ≤ v k
  | 0, hk => by omega
  | K + 1, hk => by
    rw [mnF]
    by_cases e : k = K
    · subst e
      rw [if_pos h]
      exact Nat.min_le_right _ _
    · have ih := mnF_le (v := v) h K (by omega)
      cases c : ok K
      · rw [if_neg (by decide)]; exact ih
      · rw [if_pos rfl]; exact Nat.le_trans (Nat.min_le_left _ _) ih
theorem mnF_at {ok : Nat → Bool} {v : Nat → Nat} : ∀ K, mnF ok v K = 1000000 ∨ ∃ k, k < K ∧ ok k = true ∧ mnF ok v K = v k
  | 0 => Or.inl rfl
  | K + 1 => by
    rw [mnF]
    cases c : ok K
    · rw [if_neg (by decide)]
      rcases mnF_at (ok := ok) (v := v) K with h | ⟨k, h1, h2, h3⟩
      · exact Or.inl h
      · exact Or.inr ⟨k, by omega, h2, h3⟩
    · rw [if_pos rfl]
      by_cases d : mnF ok v K ≤ v K
      · rw [Nat.min_eq_left d]
        rcases mnF_at (ok := ok) (v := v) K with h | ⟨k, h1, h2, h3⟩
        · exact Or.inl h
        · exact Or.inr ⟨k, by omega, h2, h3⟩
      · rw [Nat.min_eq_right (by omega)]
        exact Or.inr ⟨K, by omega, c, rfl⟩
theorem mnF_top {ok : Nat → Bool} {v : Nat → Nat} : ∀ K, mnF ok v K ≤ 1000000
  | 0 => Nat.le_refl _
  | K + 1 => by
    have ih := mnF_top (ok := ok) (v := v) K
    rw [mnF]
    by_cases c : ok K = true
    · rw [if_pos c]; exact Nat.le_trans (Nat.min_le_left _ _) ih
    · rw [if_neg c]; exact ih
theorem mnF_min {ok : Nat → Bool} {v : Nat → Nat} {K k0 : Nat} (h0 : k0 < K) (h1 : ok k0 = true) (h2 : v k0 < 1000000) : ∃ k, k < K ∧ ok k = true ∧ mnF ok v K = v k := by
  rcases mnF_at (ok := ok) (v := v) K with h | h
  · have := mnF_le (v := v) h1 K h0
    omega
  · exact h
def okb (E : EV) (m s t o w A : Nat) : Bool := decide (anot A (mset E s t 0 o w) = 0) && decide (pop A % m = 0)
theorem okb_iff {E : EV} {m s t o w A : Nat} (hA : A < 4096) : okb E m s t o w A = true ↔ okS E m s t o w A := by
  unfold okb okS
  rw [Bool.and_eq_true, decide_eq_true_eq, decide_eq_true_eq, sbt_anot hA]
theorem okb_0 (E : EV) (m s t o w : Nat) : okb E m s t o w 0 = true := by
  rw [okb_iff (by omega)]
  exact ⟨sbt_0 _, by rw [show pop 0 = 0 by decide]; exact Nat.zero_mod _⟩
def inF (E : EV) (m t o w : Nat) (v : Nat → Nat → Nat) : Nat := mnF (okb E m 1 t o w) (fun B => wcN E t (o ^^^ B) w + v (o ^^^ B) w) (mset E 1 t 0 o w + 1)
def ouF (E : EV) (m t o w : Nat) (v : Nat → Nat → Nat) : Nat := mnF (okb E m 0 t o w) (fun A => inF E m t (o ||| A) (w ||| A) v) (mset E 0 t 0 o w + 1)
def LB (E : EV) (m T : Nat) : Nat → Nat → Nat → Nat
  | 0, _, _ => 0
  | n + 1, o, w => ouF E m (T - 1 - n) o w (LB E m T n)
theorem inF_le {E : EV} {m t b : Nat} (hN : eN E ≤ 5) (hc : ∀ p, p < eN E → eC E p ≤ 9) {v : Nat → Nat → Nat} (hv : ∀ o w, v o w ≤ b) (o w : Nat) : inF E m t o w v ≤ 45 + b := by
  have h1 := mnF_le (v := fun B => wcN E t (o ^^^ B) w + v (o ^^^ B) w) (okb_0 E m 1 t o w) (mset E 1 t 0 o w + 1) (by omega)
  have h2 := wcN_le hN hc t (o ^^^ 0) w
  have h3 := hv (o ^^^ 0) w
  unfold inF
  exact Nat.le_trans h1 (Nat.add_le_add h2 h3)
theorem LB_le {E : EV} {m T : Nat} (hN : eN E ≤ 5) (hc : ∀ p, p < eN E → eC E p ≤ 9) : ∀ n o w, LB E m T n o w ≤ 45 * n
  | 0, _, _ => Nat.le_refl _
  | n + 1, o, w => by
    have ih := LB_le (m := m) (T := T) hN hc n
    have h1 := mnF_le (v := fun A => inF E m (T - 1 - n) (o ||| A) (w ||| A) (LB E m T n)) (okb_0 E m 0 (T - 1 - n) o w) (mset E 0 (T - 1 - n) 0 o w + 1) (by omega)
    have h2 := inF_le (m := m) (t := T - 1 - n) hN hc ih (o ||| 0) (w ||| 0)
    rw [LB, ouF]
    exact Nat.le_trans h1 (by omega)
theorem LB_PB {E : EV} {m T : Nat} (hN : eN E ≤ 5) (hc : ∀ p, p < eN E → eC E p ≤ 9) : ∀ n, n ≤ 60 → ∀ o w, vOK E o w → PB E m T n o w (LB E m T n o w) ∧ ∀ c, PB E m T n o w c → LB E m T n o w ≤ c
  | 0, _, _, _, _ => ⟨rfl, fun c _ => Nat.zero_le c⟩
  | n + 1, hn, o, w, v => by
    have ih := LB_PB (m := m) (T := T) hN hc n (by omega)
    have h12 : ∀ s t o w, mset E s t 0 o w < 4096 := fun s t o w => Nat.lt_of_lt_of_le (mset_lt E s t 0 o w) (p12 (by omega))
    have bl := LB_le (m := m) (T := T) hN hc n
    have bi := fun t o w => inF_le (m := m) (t := t) hN hc bl o w
    rw [LB, ouF]
    constructor
    · obtain ⟨A, a1, a2, a3⟩ := mnF_min (v := fun A => inF E m (T - 1 - n) (o ||| A) (w ||| A) (LB E m T n)) (K := mset E 0 (T - 1 - n) 0 o w + 1) (k0 := 0) (by omega) (okb_0 E m 0 (T - 1 - n) o w) (by have := bi (T - 1 - n) (o ||| 0) (w ||| 0); show inF E m (T - 1 - n) (o ||| 0) (w ||| 0) (LB E m T n) < 1000000; omega)
      have oA := (okb_iff (by have := h12 0 (T - 1 - n) o w; omega)).mp a2
      have vA := v.out oA.1
      obtain ⟨B, c1, c2, c3⟩ := mnF_min (v := fun B => wcN E (T - 1 - n) ((o ||| A) ^^^ B) (w ||| A) + LB E m T n ((o ||| A) ^^^ B) (w ||| A)) (K := mset E 1 (T - 1 - n) 0 (o ||| A) (w ||| A) + 1) (k0 := 0) (by omega) (okb_0 E m 1 (T - 1 - n) (o ||| A) (w ||| A)) (by
        have q1 := wcN_le hN hc (T - 1 - n) ((o ||| A) ^^^ 0) (w ||| A)
        have q2 := bl ((o ||| A) ^^^ 0) (w ||| A)
        show wcN E (T - 1 - n) ((o ||| A) ^^^ 0) (w ||| A) + LB E m T n ((o ||| A) ^^^ 0) (w ||| A) < 1000000
        omega)
      have oB := (okb_iff (by have := h12 1 (T - 1 - n) (o ||| A) (w ||| A); omega)).mp c2
      have vB := vA.inn oB.1
      refine ⟨A, B, _, oA, oB, (ih _ _ vB).1, ?_⟩
      rw [a3]
      show inF E m (T - 1 - n) (o ||| A) (w ||| A) (LB E m T n) = _
      unfold inF
      rw [c3]
    · rintro c ⟨A, B, c2, oA, oB, hb, hc2⟩
      have vA := v.out oA.1
      have vB := vA.inn oB.1
      have q1 := (ih _ _ vB).2 c2 hb
      have aw := sbt_le oA.1
      have bw := sbt_le oB.1
      have e1 := mnF_le (v := fun A => inF E m (T - 1 - n) (o ||| A) (w ||| A) (LB E m T n)) ((okb_iff (by have := h12 0 (T - 1 - n) o w; omega)).mpr oA) (mset E 0 (T - 1 - n) 0 o w + 1) (by omega)
      have e2 := mnF_le (v := fun B => wcN E (T - 1 - n) ((o ||| A) ^^^ B) (w ||| A) + LB E m T n ((o ||| A) ^^^ B) (w ||| A)) ((okb_iff (by have := h12 1 (T - 1 - n) (o ||| A) (w ||| A); omega)).mpr oB) (mset E 1 (T - 1 - n) 0 (o ||| A) (w ||| A) + 1) (by omega)
      refine Nat.le_trans e1 ?_
      show inF E m (T - 1 - n) (o ||| A) (w ||| A) (LB E m T n) ≤ c
      unfold inF
      refine Nat.le_trans e2 ?_
      show wcN E (T - 1 - n) ((o ||| A) ^^^ B) (w ||| A) + LB E m T n ((o ||| A) ^^^ B) (w ||| A) ≤ c
      rw [hc2]
      omega
/-! groups: a set that is a multiple is made of such as are one gate's -/
theorem split {A m k : Nat} (hA : A < 4096) (hm : 1 ≤ m) (h : pop A = (k + 1) * m) : ∃ G, sbt G A ∧ pop G = m ∧ pop (anot A G) = k * m := by
  have hp : m ≤ pop A := by rw [h, Nat.succ_mul]; omega
  obtain ⟨t1, t2, t3⟩ := tk_spec (key := fun _ => 0) (N := 12) (by omega) hA m hp
  refine ⟨_, t1, t2, ?_⟩
  rw [h, Nat.succ_mul] at t3
  omega
theorem mul_of {A m : Nat} (h : pop A % m = 0) : ∃ k, pop A = k * m := ⟨pop A / m, by rw [Nat.div_mul_cancel (Nat.dvd_of_mod_eq_zero h)]⟩
