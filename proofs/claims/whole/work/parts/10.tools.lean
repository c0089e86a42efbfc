/-! reading and writing the world -/
theorem gI_sI (h : Hp) (a k b j : Nat) (v : Int32) : gI (sI h a k v) b j = if b = a ∧ j = k then v else gI h b j := rfl
theorem gI_sL (h : Hp) (a k b j : Nat) (v : Int64) : gI (sL h a k v) b j = gI h b j := rfl
theorem gL_sI (h : Hp) (a k b j : Nat) (v : Int32) : gL (sI h a k v) b j = gL h b j := rfl
theorem gL_sL (h : Hp) (a k b j : Nat) (v : Int64) : gL (sL h a k v) b j = if b = a ∧ j = k then v else gL h b j := rfl
theorem gI_cpI (h : Hp) (a b sp dp n c j : Nat) : gI (cpI h a b sp dp n) c j = if c = b ∧ dp ≤ j ∧ j < dp + n then gI h a (sp + (j - dp)) else gI h c j := by
  simp only [gI, cpI, va_cpy]
  by_cases hc : c = b
  · subst hc; simp
  · simp [hc]
theorem gL_cpI (h : Hp) (a b sp dp n c j : Nat) : gL (cpI h a b sp dp n) c j = gL h c j := rfl
theorem gI_cpL (h : Hp) (a b sp dp n c j : Nat) : gI (cpL h a b sp dp n) c j = gI h c j := rfl
theorem gL_cpL (h : Hp) (a b sp dp n c j : Nat) : gL (cpL h a b sp dp n) c j = if c = b ∧ dp ≤ j ∧ j < dp + n then gL h a (sp + (j - dp)) else gL h c j := by
  simp only [gL, cpL, va_cpy]
  by_cases hc : c = b
  · subst hc; simp
  · simp [hc]
/-! rows: the places of a cell -/
def rI (h : Hp) (a : Nat) : Nat → Int32 := fun k => gI h a k
def rL (h : Hp) (a : Nat) : Nat → Int64 := fun k => gL h a k
theorem rI_sI (h : Hp) (a k b : Nat) (v : Int32) : rI (sI h a k v) b = if b = a then upd (rI h a) k v else rI h b := by
  funext j
  by_cases hb : b = a
  · subst hb
    by_cases hj : j = k <;> simp [rI, gI_sI, upd, hj]
  · simp [rI, gI_sI, hb]
theorem rI_sL (h : Hp) (a k b : Nat) (v : Int64) : rI (sL h a k v) b = rI h b := rfl
theorem rL_sI (h : Hp) (a k b : Nat) (v : Int32) : rL (sI h a k v) b = rL h b := rfl
theorem rL_sL (h : Hp) (a k b : Nat) (v : Int64) : rL (sL h a k v) b = if b = a then vp_updL (rL h a) k v else rL h b := by
  funext j
  by_cases hb : b = a
  · subst hb
    by_cases hj : j = k <;> simp [rL, gL_sL, vp_updL, hj]
  · simp [rL, gL_sL, hb]
/-! the shelves of the class, by their number -/
def shV (h : Hp) (j : Nat) : Nat → Int32 := fun s => if s < 6 then gI h (43 + 2 * s) j else 0
def shE (h : Hp) : Nat → Nat → Int64 := fun s k => if s < 6 then gL h (44 + 2 * s) k else 0
theorem shV_sI (h : Hp) (a k j : Nat) (v : Int32) (hp : a < 43 ∨ 54 < a ∨ a % 2 = 0 ∨ k ≠ j) : shV (sI h a k v) j = shV h j := by
  funext s
  unfold shV
  by_cases hs : s < 6
  · rw [if_pos hs, if_pos hs, gI_sI, if_neg (by omega)]
  · rw [if_neg hs, if_neg hs]
theorem shV_sL (h : Hp) (a k j : Nat) (v : Int64) : shV (sL h a k v) j = shV h j := rfl
theorem shE_sI (h : Hp) (a k : Nat) (v : Int32) : shE (sI h a k v) = shE h := rfl
theorem shE_sL (h : Hp) (a k : Nat) (v : Int64) (hp : a < 44 ∨ 54 < a) : shE (sL h a k v) = shE h := by
  funext s j
  unfold shE
  by_cases hs : s < 6
  · rw [if_pos hs, if_pos hs, gL_sL, if_neg (by omega)]
  · rw [if_neg hs, if_neg hs]
theorem rI_cpI (h : Hp) (a b sp dp n c : Nat) (hc : c ≠ b) : rI (cpI h a b sp dp n) c = rI h c := by
  funext j
  simp [rI, gI_cpI, hc]
theorem rL_cpI (h : Hp) (a b sp dp n c : Nat) : rL (cpI h a b sp dp n) c = rL h c := rfl
theorem rI_cpL (h : Hp) (a b sp dp n c : Nat) : rI (cpL h a b sp dp n) c = rI h c := rfl
theorem rL_cpL (h : Hp) (a b sp dp n c : Nat) (hc : c ≠ b) : rL (cpL h a b sp dp n) c = rL h c := by
  funext j
  simp [rL, gL_cpL, hc]
theorem shV_cpI (h : Hp) (a b sp dp n j : Nat) (hp : b < 43 ∨ 54 < b ∨ b % 2 = 0) : shV (cpI h a b sp dp n) j = shV h j := by
  funext s
  unfold shV
  by_cases hs : s < 6
  · rw [if_pos hs, if_pos hs, gI_cpI, if_neg (by omega)]
  · rw [if_neg hs, if_neg hs]
theorem shE_cpI (h : Hp) (a b sp dp n : Nat) : shE (cpI h a b sp dp n) = shE h := rfl
theorem shV_cpL (h : Hp) (a b sp dp n j : Nat) : shV (cpL h a b sp dp n) j = shV h j := rfl
/-! numbers -/
theorem lit (n : Nat) : (OfNat.ofNat n : Int32) = nI n := rfl
theorem vp_nI {a n : Nat} (ha : a < 2 ^ 31) : vp_in (nI a) n ↔ a < n := by
  unfold vp_in
  rw [nI_clamp ha]
  have := nI_pos ha
  constructor
  · intro q
    exact Nat.not_le.mp (fun z => q (Or.inr z))
  · rintro q (z | z)
    · exact this z
    · omega
theorem neg_toInt {m : Nat} (hm : m ≤ 2 ^ 30) : (-nI m).toInt = -(m : Int) := by
  rw [Int32.toInt_neg, nI_toInt (by omega)]
  have : -(m : Int) = Int.bmod (-(m : Int)) (2 ^ 32) := by
    rw [Int.bmod_eq_of_le] <;> omega
  omega
theorem nI_ne_neg {n m : Nat} (h : n < 2 ^ 31) (h0 : 0 < m) (hm : m ≤ 2 ^ 30) : (nI n = -nI m) ↔ False := by
  rw [← Int32.toInt_inj, neg_toInt hm, nI_toInt h]
  constructor
  · intro q; omega
  · exact False.elim
theorem neg_ne_nI {n m : Nat} (h : n < 2 ^ 31) (h0 : 0 < m) (hm : m ≤ 2 ^ 30) : (-nI m = nI n) ↔ False := by
  rw [← Int32.toInt_inj, neg_toInt hm, nI_toInt h]
  constructor
  · intro q; omega
  · exact False.elim
theorem nI_small {x : Int32} {lo hi : Nat} (h1 : nI lo ≤ x) (h2 : x ≤ nI hi) (hl : lo < 2 ^ 31) (hh : hi < 2 ^ 31) : ∃ j : Nat, x = nI j ∧ lo ≤ j ∧ j ≤ hi := by
  simp only [Int32.le_iff_toInt_le] at h1 h2
  rw [nI_toInt hl] at h1
  rw [nI_toInt hh] at h2
  refine ⟨x.toInt.toNat, ?_, by omega, by omega⟩
  apply Int32.toInt_inj.mp
  rw [nI_toInt (by omega)]
  omega
theorem nl {x y : Int32} (h : ¬ x < y) : y ≤ x := Int32.not_lt.mp h
