/-! sets of people as bits -/
theorem nI_or (a b : Nat) : nI a ||| nI b = nI (a ||| b) := by
  apply Int32.toBitVec_inj.mp
  show BitVec.ofNat 32 a ||| BitVec.ofNat 32 b = BitVec.ofNat 32 (a ||| b)
  exact (BitVec.ofNat_or).symm
theorem nI_xor (a b : Nat) : nI a ^^^ nI b = nI (a ^^^ b) := by
  apply Int32.toBitVec_inj.mp
  show BitVec.ofNat 32 a ^^^ BitVec.ofNat 32 b = BitVec.ofNat 32 (a ^^^ b)
  exact (BitVec.ofNat_xor).symm
theorem shl1 : ∀ k, k < 31 → shl 1 (nI k) = nI (2 ^ k) := by decide
theorem sm31 : ∀ n, n < 32 → ((nI n &&& 31).toBitVec.smod 32).toNat = n := by decide
theorem shr_nI {n k : Nat} (hn : n < 2 ^ 31) (hk : k < 32) : shr (nI n) (nI k) = nI (n / 2 ^ k) := pk_shrN hn _ k (sm31 k hk)
theorem bit_nI {n k : Nat} (hn : n < 2 ^ 31) (hk : k < 32) : (shr (nI n) (nI k)) &&& 1 = if n.testBit k then 1 else 0 := by
  rw [shr_nI hn hk, pk_andN (m := 1) (Nat.lt_of_le_of_lt (Nat.div_le_self _ _) (by omega)) 1 (by decide), Nat.testBit_eq_decide_div_mod_eq]
  have : n / 2 ^ k % 2 < 2 := Nat.mod_lt _ (by omega)
  rcases (show n / 2 ^ k % 2 = 0 ∨ n / 2 ^ k % 2 = 1 by omega) with e | e
  · rw [show 2 ^ 1 = 2 from rfl, e]; rfl
  · rw [show 2 ^ 1 = 2 from rfl, e]; rfl
def anot (a b : Nat) : Nat := a &&& (4095 ^^^ b)
theorem anot_nI {a b : Nat} (ha : a < 4096) : nI a &&& (nI b ^^^ (-1)) = nI (anot a b) := by
  apply Int32.toBitVec_inj.mp
  show BitVec.ofNat 32 a &&& (BitVec.ofNat 32 b ^^^ BitVec.allOnes 32) = BitVec.ofNat 32 (a &&& (4095 ^^^ b))
  apply BitVec.eq_of_getLsbD_eq
  intro i hi
  simp only [BitVec.getLsbD_and, BitVec.getLsbD_xor, BitVec.getLsbD_ofNat, BitVec.getLsbD_allOnes, Nat.testBit_and, Nat.testBit_xor, hi, decide_true, Bool.true_and]
  by_cases h12 : i < 12
  · have : Nat.testBit 4095 i = true := by
      rw [show 4095 = 2 ^ 12 - 1 from rfl, Nat.testBit_two_pow_sub_one]
      simpa using h12
    rw [this]
    cases a.testBit i <;> cases b.testBit i <;> rfl
  · have : a.testBit i = false := Nat.testBit_lt_two_pow (Nat.lt_of_lt_of_le ha (Nat.pow_le_pow_right (n := 2) (by omega) (show 12 ≤ i by omega)))
    rw [this]
    rfl
theorem anot_bit {a b i : Nat} (ha : a < 4096) : (anot a b).testBit i = (a.testBit i && !b.testBit i) := by
  unfold anot
  rw [Nat.testBit_and, Nat.testBit_xor]
  by_cases h12 : i < 12
  · have : Nat.testBit 4095 i = true := by
      rw [show 4095 = 2 ^ 12 - 1 from rfl, Nat.testBit_two_pow_sub_one]
      simpa using h12
    rw [this]
    cases a.testBit i <;> cases b.testBit i <;> rfl
  · have : a.testBit i = false := Nat.testBit_lt_two_pow (Nat.lt_of_lt_of_le ha (Nat.pow_le_pow_right (n := 2) (by omega) (show 12 ≤ i by omega)))
    rw [this]
    rfl
theorem anot_le {a b : Nat} : anot a b ≤ a := Nat.and_le_left
/-- the set of those k below p with q k -/
def setB (q : Nat → Bool) : Nat → Nat
  | 0 => 0
  | k + 1 => if q k then setB q k ||| 2 ^ k else setB q k
theorem setB_lt (q : Nat → Bool) : ∀ p, setB q p < 2 ^ p
  | 0 => by simp [setB]
  | k + 1 => by
    have ih := setB_lt q k
    have e : 2 ^ (k + 1) = 2 ^ k + 2 ^ k := by rw [Nat.pow_succ]; omega
    unfold setB
    by_cases c : q k = true
    · rw [if_pos c]
      exact Nat.or_lt_two_pow (by omega) (by omega)
    · rw [if_neg c]; omega
theorem setB_bit (q : Nat → Bool) (i : Nat) : ∀ p, (setB q p).testBit i = (decide (i < p) && q i)
  | 0 => by simp [setB]
  | k + 1 => by
    have ih := setB_bit q i k
    unfold setB
    by_cases c : q k = true
    · rw [if_pos c, Nat.testBit_or, ih, Nat.testBit_two_pow]
      by_cases hik : i = k
      · subst hik; simp [c]
      · have : ¬ k = i := fun e => hik e.symm
        simp only [this, decide_false, Bool.or_false]
        by_cases h1 : i < k
        · simp [h1, show i < k + 1 by omega]
        · simp [h1, show ¬ i < k + 1 by omega]
    · rw [if_neg c, ih]
      by_cases hik : i = k
      · subst hik; simp [c]
      · by_cases h1 : i < k
        · simp [h1, show i < k + 1 by omega]
        · simp [h1, show ¬ i < k + 1 by omega]
theorem nat_ext {a b : Nat} (h : ∀ i, a.testBit i = b.testBit i) : a = b := Nat.eq_of_testBit_eq h
theorem p12 {p : Nat} (hp : p ≤ 12) : 2 ^ p ≤ 4096 := Nat.pow_le_pow_right (n := 2) (by omega) hp
/-- bitsOf, of the reference -/
theorem m_bitsOf {n : Nat} (hn : n < 4096) (h : Hp) {Q : Int32 → Prop} (hQ : Q (nI (pop n))) : wX12_bitsOf (nI n) h Q := by
  unfold wX12_bitsOf
  refine iX12_bitsOf_4 (I := fun x y => ∃ c l : Nat, x = nI c ∧ y = nI l ∧ l < 4096 ∧ c + pop l = pop n) (μ := fun _ y => y.toNatClampNeg) ?_ 0 (nI n) ⟨0, n, rfl, rfl, hn, by omega⟩
  rintro x y ⟨c, l, rfl, rfl, hl, e⟩ K hK
  unfold fX12_bitsOf_4
  by_cases c0 : l = 0
  · subst c0
    rw [if_pos (show nI 0 = 0 from rfl)]
    rw [show c = pop n by rw [← e]; rfl]
    exact hQ
  · rw [if_neg (nI_ne0 (by omega) (by omega))]
    obtain ⟨s1, s2⟩ := pop_step l hl c0
    obtain ⟨l', rfl⟩ : ∃ l', l = l' + 1 := ⟨l - 1, by omega⟩
    simp only [forall_eq, nI_1]
    rw [show nI (l' + 1) - 1 = nI l' from nI_pred l', nI_and]
    simp only [Nat.add_sub_cancel] at s1 s2
    refine hK _ _ ⟨c + 1, _, rfl, rfl, by omega, by omega⟩ ?_
    rw [nI_clamp (by omega), nI_clamp (by omega)]
    exact s2
/-- dueBy, of the class -/
theorem c_dueBy {h : Hp} {p a1 t : Nat} {tm : Nat → Nat} (hp : p ≤ 12) (e : gI h 3 3 = nI p) (hl : ln a1 = 12) (ht : t < 2 ^ 31) (htm : ∀ k, k < p → gI h a1 k = nI (tm k) ∧ tm k < 2 ^ 31) {Q : Int32 → Prop} (hQ : Q (nI (setB (fun k => decide (tm k ≤ t)) p))) : wX8_dueBy 3 a1 (nI t) h Q := by
  unfold wX8_dueBy
  refine iX8_dueBy_5 (I := fun x y => ∃ j : Nat, x = nI (setB (fun k => decide (tm k ≤ t)) j) ∧ y = nI j ∧ j ≤ p) (μ := fun _ y => p - y.toNatClampNeg) ?_ 0 0 ⟨0, rfl, rfl, by omega⟩
  rintro x y ⟨j, rfl, rfl, hj⟩ K hK
  unfold fX8_dueBy_5
  rw [e]
  by_cases c : p ≤ j
  · rw [if_pos (nI_le c (by omega)), show j = p by omega]
    exact hQ
  · rw [if_neg (nI_ge (by omega) (by omega)), hl]
    obtain ⟨e1, e2⟩ := htm j (by omega)
    simp (disch := omega) only [nI_clamp, vp_nI, e1, forall_eq, nI_1]
    refine ⟨by omega, ?_⟩
    by_cases d : tm j ≤ t
    · rw [if_neg (nI_nlt d ht), shl1 j (by omega), nI_or]
      refine hK _ _ ⟨j + 1, ?_, rfl, by omega⟩ (by rw [nI_clamp (by omega), nI_clamp (by omega)]; omega)
      simp only [setB, d, decide_true, ↓reduceIte]
    · rw [if_pos (nI_lt (by omega) e2)]
      refine hK _ _ ⟨j + 1, ?_, rfl, by omega⟩ (by rw [nI_clamp (by omega), nI_clamp (by omega)]; omega)
      simp only [setB, d, decide_false, Bool.false_eq_true, ↓reduceIte]
