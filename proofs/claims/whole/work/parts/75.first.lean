/-! the world right after both constructors, and its invariant -/
def h0 : Hp := (fun b j => if b = 83 then upd (upd (upd (upd (upd (upd (fun _ => 0) 0 (-1)) 1 (-1)) 2 (-1)) 3 (-1)) 4 (-1)) 5 (-1) j else if (b = 43 ∨ b = 45 ∨ b = 47 ∨ b = 49 ∨ b = 51 ∨ b = 53) ∧ (j = 1 ∨ j = 2) then -1 else 0, fun _ _ => 0)
theorem nI_00 : (0 : Int32) = nI 0 := rfl
theorem inv_h0 : Inv h0 := by
  refine ⟨⟨0, by omega, rfl, rfl, fun k hk => by omega⟩, ⟨0, by omega, rfl, rfl, fun k hk => by omega⟩, ⟨rfl, rfl, rfl, 0, 0, 0, 0, by omega, rfl, rfl, rfl, rfl, by omega, by decide, by decide, by decide, fun k hk => by omega, fun k _ _ => rfl⟩, ⟨0, by omega, rfl, rfl, fun k hk => by omega⟩, Or.inl ⟨rfl, rfl⟩, ⟨0, 0, 0, 0, rfl, rfl, by omega, by omega, by omega, by omega, rfl, rfl, rfl, rfl, fun k hk => by omega⟩, ⟨0, 0, by omega, by omega, rfl, rfl, rfl, rfl, fun k hk => by omega, fun k hk => by omega⟩, ⟨0, by omega, rfl, fun s hs => ?_⟩, ⟨rfl, Or.inl rfl⟩, ⟨rfl, Or.inl rfl⟩⟩
  refine Or.inl ?_
  rcases (show s = 0 ∨ s = 1 ∨ s = 2 ∨ s = 3 ∨ s = 4 ∨ s = 5 by omega) with rfl | rfl | rfl | rfl | rfl | rfl <;> exact ⟨rfl, rfl, rfl⟩
