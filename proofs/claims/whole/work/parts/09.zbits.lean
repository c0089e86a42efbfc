/-! bits of small numbers -/
def pop (n : Nat) : Nat := ((List.range 12).filter (fun i => n.testBit i)).length
def bcf (x0 : Int32) : Int32 :=
  let v1 := (x0 - ((ushr x0 (1 : Int32)) &&& (1431655765 : Int32)))
  let v2 := ((v1 &&& (858993459 : Int32)) + ((ushr v1 (2 : Int32)) &&& (858993459 : Int32)))
  let v3 := ((v2 + (ushr v2 (4 : Int32))) &&& (252645135 : Int32))
  let v4 := (v3 + (ushr v3 (8 : Int32)))
  let v5 := (v4 + (ushr v4 (16 : Int32)))
  v5 &&& (63 : Int32)
set_option maxRecDepth 100000 in
theorem bcf_eq : ∀ n, n < 4096 → bcf (nI n) = nI (pop n) := by decide +kernel
set_option maxRecDepth 100000 in
theorem pop_le : ∀ n, n < 4096 → pop n ≤ 12 := by decide +kernel
set_option maxRecDepth 100000 in
theorem pop_step : ∀ n, n < 4096 → n ≠ 0 → pop n = pop (n &&& (n - 1)) + 1 ∧ (n &&& (n - 1)) < n := by decide +kernel
theorem e_bitCount (h : Hp) {n : Nat} (hn : n < 4096) (Q : Int32 → Prop) : wJ6_bitCount_0f7a4 (nI n) h Q = Q (nI (pop n)) := by
  unfold wJ6_bitCount_0f7a4
  simp only [forall_eq]
  rw [← bcf_eq n hn]
  rfl
theorem nI_and (a b : Nat) : nI a &&& nI b = nI (a &&& b) := by
  apply Int32.toBitVec_inj.mp
  show BitVec.ofNat 32 a &&& BitVec.ofNat 32 b = BitVec.ofNat 32 (a &&& b)
  exact (BitVec.ofNat_and).symm
