/-! short words for what instructions compute -/
abbrev rm (x y : Int32) : Int32 := x - x / y * y
abbrev rmL (x y : Int64) : Int64 := x - x / y * y
abbrev shl (x y : Int32) : Int32 := x <<< (y &&& 31)
abbrev shr (x y : Int32) : Int32 := x >>> (y &&& 31)
abbrev ushr (x y : Int32) : Int32 := (x.toUInt32 >>> (y.toUInt32 &&& Int32.toUInt32 31)).toInt32
abbrev shlL (x : Int64) (y : Int32) : Int64 := x <<< (y.toInt64 &&& 63)
abbrev shrL (x : Int64) (y : Int32) : Int64 := x >>> (y.toInt64 &&& 63)
abbrev b8 (x : Int32) : Int32 := x.toInt8.toInt32
abbrev s16 (x : Int32) : Int32 := x.toInt16.toInt32
abbrev mn (x y : Int32) : Int32 := if y < x then y else x
abbrev mx (x y : Int32) : Int32 := if x < y then y else x
abbrev ab (x : Int32) : Int32 := if 0 ≤ x then x else 0 - x
abbrev bOK (v : Int32) : Prop := narrow .boolean (.int v) = .int v
abbrev cpOK (a b : Nat) (sp dp n : Int32) : Prop := ¬ sp < 0 ∧ ¬ dp < 0 ∧ ¬ n < 0 ∧ sp.toNatClampNeg + n.toNatClampNeg ≤ ln a ∧ dp.toNatClampNeg + n.toNatClampNeg ≤ ln b
theorem bOK_use {v : Int32} (h : bOK v) : narrow .boolean (.int v) = .int v ∧ fits .boolean (.int v) = true := by
  refine ⟨h, ?_⟩
  have e : v &&& 1 = v := Value.int.inj h
  have key : v = 0 ∨ v = 1 := by
    obtain ⟨j, hj, ej⟩ := pk_andE v (m := 1) 1 (by decide)
    rw [e] at ej
    rcases (show j = 0 ∨ j = 1 by omega) with rfl | rfl
    · exact Or.inl ej
    · exact Or.inr ej
  rcases key with rfl | rfl <;> rfl
