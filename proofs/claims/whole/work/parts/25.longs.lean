/-! longs as sets of bits -/
def bL (x : Int64) (i : Nat) : Bool := x.toBitVec.getLsbD i
theorem bL_ext {x y : Int64} (h : ∀ i, i < 64 → bL x i = bL y i) : x = y := by
  apply Int64.toBitVec_inj.mp
  exact BitVec.eq_of_getLsbD_eq h
theorem bL_hi {x : Int64} {i : Nat} (h : 64 ≤ i) : bL x i = false := BitVec.getLsbD_of_ge _ _ h
theorem bL_or (x y : Int64) (i : Nat) : bL (x ||| y) i = (bL x i || bL y i) := BitVec.getLsbD_or
theorem bL_and (x y : Int64) (i : Nat) : bL (x &&& y) i = (bL x i && bL y i) := BitVec.getLsbD_and
theorem sm63 : ∀ n, n < 64 → (((nI n).toInt64 &&& 63).toBitVec.smod 64).toNat = n := by decide
theorem bL_shl (x : Int64) {k : Nat} (hk : k < 64) (i : Nat) : bL (shlL x (nI k)) i = (decide (i < 64) && decide (k ≤ i) && bL x (i - k)) := by
  show (x.toBitVec <<< (((nI k).toInt64 &&& 63).toBitVec.smod 64)).getLsbD i = _
  rw [BitVec.shiftLeft_eq', sm63 k hk, BitVec.getLsbD_shiftLeft]
  unfold bL
  by_cases h1 : i < 64 <;> by_cases h2 : k ≤ i <;> simp [h1, h2, Nat.not_lt.mpr, show (i < k) = ¬ (k ≤ i) from by simp]
theorem bL_shr (x : Int64) {k : Nat} (hk : k < 64) {i : Nat} (hi : i + k < 64) : bL (shrL x (nI k)) i = bL x (i + k) := by
  show (x.toBitVec.sshiftRight' (((nI k).toInt64 &&& 63).toBitVec.smod 64)).getLsbD i = _
  rw [BitVec.getLsbD_sshiftRight', sm63 k hk]
  unfold bL
  simp [show i < 64 by omega, show k + i < 64 by omega, Nat.add_comm]
theorem bL_shr2 (x : Int64) {k : Nat} (hk : k < 64) {i : Nat} (hx : bL x 63 = false) : bL (shrL x (nI k)) i = bL x (i + k) := by
  by_cases hi : i + k < 64
  · exact bL_shr x hk hi
  · show (x.toBitVec.sshiftRight' (((nI k).toInt64 &&& 63).toBitVec.smod 64)).getLsbD i = _
    rw [BitVec.getLsbD_sshiftRight', sm63 k hk, bL_hi (by omega)]
    have : x.toBitVec.msb = false := by
      rw [BitVec.msb_eq_getLsbD_last]
      exact hx
    simp [show ¬ k + i < 64 by omega, this]
theorem bL_1 (i : Nat) : bL 1 i = decide (i = 0) := by
  show (BitVec.ofNat 64 1).getLsbD i = _
  rw [BitVec.getLsbD_ofNat]
  cases i with
  | zero => rfl
  | succ n => simp [Nat.testBit_succ]
theorem bL_0 (i : Nat) : bL 0 i = false := BitVec.getLsbD_zero
theorem bL_s1 {k : Nat} (hk : k < 64) (i : Nat) : bL (shlL 1 (nI k)) i = decide (i = k) := by
  rw [bL_shl _ hk, bL_1]
  by_cases h : i = k
  · subst h; simp [hk]
  · by_cases h2 : k ≤ i
    · simp [h, show ¬ i - k = 0 by omega]
    · simp [h, h2]
set_option maxRecDepth 100000 in
theorem bL_up0 : ∀ M, M < 63 → ∀ i, i < 64 → bL (shlL 1 (nI (M + 1)) - 1) i = decide (i ≤ M) := by decide +kernel
theorem bL_up {M : Nat} (hM : M < 62) (i : Nat) : bL (shlL 1 (nI M + 1) - 1) i = decide (i ≤ M) := by
  rw [nI_1]
  by_cases h : i < 64
  · exact bL_up0 M (by omega) i h
  · rw [bL_hi (by omega)]
    simp; omega
/-- a long that holds a set -/
def isS (x : Int64) (S : Nat → Bool) : Prop := ∀ i, bL x i = S i
theorem isS.hi {x : Int64} {S : Nat → Bool} (h : isS x S) {i : Nat} (hi : 64 ≤ i) : S i = false := (h i).symm.trans (bL_hi hi)
theorem isS.inj {x y : Int64} {S : Nat → Bool} (h : isS x S) (h2 : isS y S) : x = y := bL_ext (fun i _ => (h i).trans (h2 i).symm)
theorem isS.eq {x y : Int64} {S T : Nat → Bool} (h : isS x S) (h2 : isS y T) : x = y ↔ S = T := by
  constructor
  · rintro rfl
    funext i
    exact (h i).symm.trans (h2 i)
  · rintro rfl
    exact h.inj h2
theorem e_hold {x : Int64} {S : Nat → Bool} (hx : isS x S) {k : Nat} (hk : k < 64) (h : Hp) (Q : Int32 → Prop) : wX4_hold x (nI k) h Q = Q (if S k then 1 else 0) := by
  unfold wX4_hold
  simp only [lg_cmp_eq]
  have e : (shrL x (nI k)) &&& 1 = if S k then 1 else 0 := by
    apply bL_ext
    intro i hi
    rw [bL_and, bL_1]
    by_cases h0 : i = 0
    · subst h0
      rw [bL_shr x hk (by omega), hx, Nat.zero_add]
      cases S k <;> rfl
    · rw [decide_eq_false h0, Bool.and_false]
      cases S k
      · exact (bL_0 i).symm
      · show false = bL 1 i
        rw [bL_1, decide_eq_false h0]
  rw [e]
  cases S k
  · simp
  · simp
