/-! reading a text: what is read, or where the fault is -/
abbrev RS : Type := Nat × Option (List Sp2)
def dgB (c : Nat) : Bool := decide (48 ≤ c ∧ c ≤ 57)
def nmN (c : Nat) : Option Nat := if c = 116 then some 0 else if c = 103 then some 1 else if c = 112 then some 2 else if c = 99 then some 3 else if c = 115 then some 4 else if c = 110 then some 5 else none
def lvN (c : Nat) : Nat := if c = 124 then 0 else if c = 38 then 1 else if c = 60 ∨ c = 61 ∨ c = 62 then 2 else if c = 43 ∨ c = 45 then 3 else if c = 42 ∨ c = 47 ∨ c = 37 then 4 else 9
def nd4 (sg : Nat → Nat) (pos : Nat) : Nat := if dgB (sg pos) then (if dgB (sg (pos + 1)) then (if dgB (sg (pos + 2)) then (if dgB (sg (pos + 3)) then 4 else 3) else 2) else 1) else 0
def numV (sg : Nat → Nat) (pos : Nat) : Nat → Nat
  | 0 => 0
  | m + 1 => 10 * numV sg pos m + (sg (pos + m) - 48)
def bnd (r : RS) (k : Nat → List Sp2 → RS) : RS := match r with
  | (p, none) => (p, none)
  | (p, some s) => k p s
def prs (sg : Nat → Nat) : Nat → Nat → Nat → Nat → RS
  | 0, _, _, pos => (pos, none)
  | f + 1, k, op, pos =>
    if k < 5 then bnd (prs sg f (k + 1) op pos) (fun p1 s1 => bnd (prs sg f (10 + k) op p1) (fun p2 s2 => (p2, some (s1 ++ s2))))
    else if k = 5 then
      (if dgB (sg pos) = true then (if nd4 sg pos = 4 ∧ dgB (sg (pos + 4)) = true then (pos + 4, none) else (pos + nd4 sg pos, some [((0 : Int32), nI (numV sg pos (nd4 sg pos)))]))
       else match nmN (sg pos) with
        | some j => (pos + 1, some [((1 : Int32), nI j)])
        | none =>
          if op < 6 ∧ (sg pos = 33 ∨ sg pos = 45) then bnd (prs sg f 5 (op + 1) (pos + 1)) (fun p1 s1 => (p1, some (s1 ++ [((if sg pos = 33 then (33 : Int32) else 2), (0 : Int32))])))
          else if op < 6 ∧ sg pos = 40 then bnd (prs sg f 0 (op + 1) (pos + 1)) (fun p1 s1 => if sg p1 = 41 then (p1 + 1, some s1) else (p1, none))
          else (pos, none))
    else if lvN (sg pos) = k - 10 then
      bnd (prs sg f (k - 9) op (pos + 1)) (fun p1 s1 => if k = 12 then (p1, some (s1 ++ [(nI (sg pos), (0 : Int32))])) else bnd (prs sg f k op p1) (fun p2 s2 => (p2, some (s1 ++ (nI (sg pos), (0 : Int32)) :: s2))))
    else (pos, some [])
theorem bnd_some {r : RS} {k : Nat → List Sp2 → RS} {p : Nat} {s : List Sp2} (h : bnd r k = (p, some s)) : ∃ p1 s1, r = (p1, some s1) ∧ k p1 s1 = (p, some s) := by
  obtain ⟨p1, o⟩ := r
  cases o with
  | none => exact absurd h (by simp [bnd])
  | some s1 => exact ⟨p1, s1, rfl, h⟩
theorem bnd_none {r : RS} {k : Nat → List Sp2 → RS} {p : Nat} (h : bnd r k = (p, none)) : r = (p, none) ∨ ∃ p1 s1, r = (p1, some s1) ∧ k p1 s1 = (p, none) := by
  obtain ⟨p1, o⟩ := r
  cases o with
  | none => exact Or.inl (by simpa [bnd] using h)
  | some s1 => exact Or.inr ⟨p1, s1, rfl, h⟩
theorem runs_app : ∀ (a b : List Sp2) (z m : Nat), runs z a = some m → runs z (a ++ b) = runs m b
  | [], b, z, m, h => by rw [runs] at h; rw [Option.some.inj h]; rfl
  | s :: a, b, z, m, h => by
    rw [runs] at h
    rw [List.cons_append, runs]
    by_cases c0 : s.1 = 0
    · rw [if_pos c0] at h ⊢; exact runs_app a b _ m h
    · rw [if_neg c0] at h ⊢
      by_cases c1 : s.1 = 1
      · rw [if_pos c1] at h ⊢
        by_cases d : s.2 < 0 ∨ 6 ≤ s.2
        · rw [if_pos d] at h; exact absurd h (by simp)
        · rw [if_neg d] at h ⊢; exact runs_app a b _ m h
      · rw [if_neg c1] at h ⊢
        by_cases c2 : s.1 = 33 ∨ s.1 = 2
        · rw [if_pos c2] at h ⊢
          by_cases d : z = 0
          · rw [if_pos d] at h; exact absurd h (by simp)
          · rw [if_neg d] at h ⊢; exact runs_app a b _ m h
        · rw [if_neg c2] at h ⊢
          by_cases c3 : s.1 ∈ ([37, 38, 42, 43, 45, 47, 60, 61, 62, 124] : List Int32)
          · rw [if_pos c3] at h ⊢
            by_cases d : z < 2
            · rw [if_pos d] at h; exact absurd h (by simp)
            · rw [if_neg d] at h ⊢; exact runs_app a b _ m h
          · rw [if_neg c3] at h; exact absurd h (by simp)
theorem nd4_le (sg : Nat → Nat) (pos : Nat) : nd4 sg pos ≤ 4 := by
  unfold nd4
  cases dgB (sg pos) <;> cases dgB (sg (pos + 1)) <;> cases dgB (sg (pos + 2)) <;> cases dgB (sg (pos + 3)) <;> decide
theorem nd4_spec (sg : Nat → Nat) (pos : Nat) (h : dgB (sg pos) = true) : 1 ≤ nd4 sg pos ∧ (∀ i, i < nd4 sg pos → dgB (sg (pos + i)) = true) ∧ (nd4 sg pos = 4 ∨ dgB (sg (pos + nd4 sg pos)) = false) := by
  unfold nd4
  rw [if_pos h]
  cases h1 : dgB (sg (pos + 1))
  · rw [if_neg (by decide)]
    refine ⟨by omega, fun i hi => ?_, Or.inr h1⟩
    rw [show i = 0 by omega]; exact h
  · rw [if_pos rfl]
    cases h2 : dgB (sg (pos + 2))
    · rw [if_neg (by decide)]
      refine ⟨by omega, fun i hi => ?_, Or.inr h2⟩
      rcases (show i = 0 ∨ i = 1 by omega) with rfl | rfl
      · exact h
      · exact h1
    · rw [if_pos rfl]
      cases h3 : dgB (sg (pos + 3))
      · rw [if_neg (by decide)]
        refine ⟨by omega, fun i hi => ?_, Or.inr h3⟩
        rcases (show i = 0 ∨ i = 1 ∨ i = 2 by omega) with rfl | rfl | rfl
        · exact h
        · exact h1
        · exact h2
      · rw [if_pos rfl]
        refine ⟨by omega, fun i hi => ?_, Or.inl rfl⟩
        rcases (show i = 0 ∨ i = 1 ∨ i = 2 ∨ i = 3 by omega) with rfl | rfl | rfl | rfl
        · exact h
        · exact h1
        · exact h2
        · exact h3
theorem nd4_uni {sg : Nat → Nat} {pos m : Nat} (h : dgB (sg pos) = true) (hm : m ≤ 4) (h1 : ∀ i, i < m → dgB (sg (pos + i)) = true) (h2 : m = 4 ∨ dgB (sg (pos + m)) = false) : m = nd4 sg pos := by
  obtain ⟨n1, n2, n3⟩ := nd4_spec sg pos h
  have n4 := nd4_le sg pos
  rcases Nat.lt_trichotomy m (nd4 sg pos) with q | q | q
  · rcases h2 with z | z
    · omega
    · rw [n2 m q] at z; exact absurd z (by decide)
  · exact q
  · rcases n3 with z | z
    · omega
    · rw [h1 _ q] at z; exact absurd z (by decide)
theorem dg_lt {sg : Nat → Nat} {n pos : Nat} (hs : ∀ i, n ≤ i → sg i = 999) (h : dgB (sg pos) = true) : pos < n := by
  rcases Nat.lt_or_ge pos n with q | q
  · exact q
  · rw [hs pos q] at h; exact absurd h (by decide)
theorem lvl_lt {sg : Nat → Nat} {n pos l : Nat} (hs : ∀ i, n ≤ i → sg i = 999) (h : lvN (sg pos) = l) (hl : l ≤ 4) : pos < n := by
  rcases Nat.lt_or_ge pos n with q | q
  · exact q
  · rw [hs pos q] at h
    have : lvN 999 = 9 := by decide
    omega
theorem nm_lt {sg : Nat → Nat} {n pos j : Nat} (hs : ∀ i, n ≤ i → sg i = 999) (h : nmN (sg pos) = some j) : pos < n ∧ j < 6 := by
  refine ⟨?_, ?_⟩
  · rcases Nat.lt_or_ge pos n with q | q
    · exact q
    · rw [hs pos q, show nmN 999 = none by decide] at h; exact absurd h (by simp)
  · unfold nmN at h
    repeat' split at h
    all_goals first
      | (have := Option.some.inj h; omega)
      | exact absurd h (by simp)
theorem lv_op {c l : Nat} (h : lvN c = l) (hl : l ≤ 4) : nI c ∈ ([37, 38, 42, 43, 45, 47, 60, 61, 62, 124] : List Int32) := by
  unfold lvN at h
  by_cases c1 : c = 124
  · subst c1; decide
  · rw [if_neg c1] at h
    by_cases c2 : c = 38
    · subst c2; decide
    · rw [if_neg c2] at h
      by_cases c3 : c = 60 ∨ c = 61 ∨ c = 62
      · rcases c3 with rfl | rfl | rfl <;> decide
      · rw [if_neg c3] at h
        by_cases c4 : c = 43 ∨ c = 45
        · rcases c4 with rfl | rfl <;> decide
        · rw [if_neg c4] at h
          by_cases c5 : c = 42 ∨ c = 47 ∨ c = 37
          · rcases c5 with rfl | rfl | rfl <;> decide
          · rw [if_neg c5] at h; omega
theorem runs_op {z c l : Nat} (h : lvN c = l) (hl : l ≤ 4) (hz : 2 ≤ z) (r : List Sp2) : runs z ((nI c, (0 : Int32)) :: r) = runs (z - 1) r := by
  have m := lv_op h hl
  obtain ⟨z1, z2, z3, z4, z5, z6, z7, z8⟩ := op2_ne m
  rw [runs, if_neg z7, if_neg z8, if_neg (fun q => q.elim z6 z5), if_pos m, if_neg (by omega)]
/-- what is read lies ahead, and leaves one value -/
theorem prs_ok {sg : Nat → Nat} {n : Nat} (hs : ∀ i, n ≤ i → sg i = 999) : ∀ (f k op pos : Nat), (k ≤ 5 ∨ (10 ≤ k ∧ k ≤ 14)) → pos ≤ n →
    (∀ p s, prs sg f k op pos = (p, some s) → pos ≤ p ∧ p ≤ n ∧ s.length + pos ≤ p ∧ (k ≤ 5 → pos < p ∧ ∀ z, runs z s = some (z + 1)) ∧ (10 ≤ k → ∀ z, 1 ≤ z → runs z s = some z)) ∧ ∀ p, prs sg f k op pos = (p, none) → pos ≤ p ∧ p ≤ n
  | 0, k, op, pos, _, hp => ⟨fun p s h => absurd h (by simp [prs]), fun p h => by
      rw [prs] at h
      have := (Prod.mk.inj h).1
      omega⟩
  | f + 1, k, op, pos, hk, hp => by
    have ih := prs_ok hs f
    rw [prs]
    by_cases c : k < 5
    · rw [if_pos c]
      constructor
      · intro p s h
        obtain ⟨p1, s1, h1, h2⟩ := bnd_some h
        obtain ⟨p2, s2, h3, h4⟩ := bnd_some h2
        obtain ⟨a1, a2, a3, a4, a5⟩ := (ih (k + 1) op pos (Or.inl (by omega)) hp).1 p1 s1 h1
        obtain ⟨b1, b2, b3, b4, b5⟩ := (ih (10 + k) op p1 (Or.inr ⟨by omega, by omega⟩) a2).1 p2 s2 h3
        have e1 := (Prod.mk.inj h4).1
        have e2 := Option.some.inj (Prod.mk.inj h4).2
        subst e1 e2
        have a6 := a4 (by omega)
        refine ⟨by omega, b2, by rw [List.length_append]; omega, fun _ => ⟨by omega, fun z => ?_⟩, fun q => by omega⟩
        rw [runs_app s1 s2 z (z + 1) (a6.2 z)]
        exact b5 (by omega) (z + 1) (by omega)
      · intro p h
        rcases bnd_none h with h1 | ⟨p1, s1, h1, h2⟩
        · exact (ih (k + 1) op pos (Or.inl (by omega)) hp).2 p h1
        · obtain ⟨a1, a2, a3, a4, a5⟩ := (ih (k + 1) op pos (Or.inl (by omega)) hp).1 p1 s1 h1
          rcases bnd_none h2 with h3 | ⟨p2, s2, h3, h4⟩
          · have := (ih (10 + k) op p1 (Or.inr ⟨by omega, by omega⟩) a2).2 p h3
            omega
          · exact absurd h4 (by simp)
    · rw [if_neg c]
      by_cases c5 : k = 5
      · rw [if_pos c5]
        by_cases d : dgB (sg pos) = true
        · rw [if_pos d]
          obtain ⟨n1, n2, n3⟩ := nd4_spec sg pos d
          have last := dg_lt hs (n2 (nd4 sg pos - 1) (by omega))
          by_cases e : nd4 sg pos = 4 ∧ dgB (sg (pos + 4)) = true
          · rw [if_pos e]
            refine ⟨fun p s h => absurd h (by simp), fun p h => ?_⟩
            have := (Prod.mk.inj h).1
            have := dg_lt hs e.2
            omega
          · rw [if_neg e]
            refine ⟨fun p s h => ?_, fun p h => absurd h (by simp)⟩
            have e1 := (Prod.mk.inj h).1
            have e2 := Option.some.inj (Prod.mk.inj h).2
            subst e2
            refine ⟨by omega, by omega, by simp; omega, fun _ => ⟨by omega, fun z => ?_⟩, fun q => by omega⟩
            rw [runs, if_pos rfl, runs]
        · rw [if_neg d]
          cases en : nmN (sg pos) with
          | some j =>
            obtain ⟨l1, l2⟩ := nm_lt hs en
            refine ⟨fun p s h => ?_, fun p h => absurd h (by simp)⟩
            have e1 := (Prod.mk.inj h).1
            have e2 := Option.some.inj (Prod.mk.inj h).2
            subst e2
            refine ⟨by omega, by omega, by simp; omega, fun _ => ⟨by omega, fun z => ?_⟩, fun q => by omega⟩
            rw [runs, if_neg (show ¬ ((1 : Int32), nI j).1 = 0 from (by decide : ¬ (1 : Int32) = 0)), if_pos rfl, if_neg, runs]
            rintro (q | q)
            · exact nI_pos (by omega) q
            · exact nI_ge (b := 6) (a := j) l2 (by omega) q
          | none =>
            dsimp only
            by_cases e : op < 6 ∧ (sg pos = 33 ∨ sg pos = 45)
            · rw [if_pos e]
              have pn : pos < n := by
                rcases Nat.lt_or_ge pos n with q | q
                · exact q
                · have := hs pos q; omega
              constructor
              · intro p s h
                obtain ⟨p1, s1, h1, h2⟩ := bnd_some h
                obtain ⟨a1, a2, a3, a4, a5⟩ := (ih 5 (op + 1) (pos + 1) (Or.inl (by omega)) (by omega)).1 p1 s1 h1
                have e1 := (Prod.mk.inj h2).1
                have e2 := Option.some.inj (Prod.mk.inj h2).2
                subst e1 e2
                refine ⟨by omega, a2, by rw [List.length_append]; simp; omega, fun _ => ⟨by omega, fun z => ?_⟩, fun q => by omega⟩
                rw [runs_app s1 _ z (z + 1) ((a4 (by omega)).2 z)]
                by_cases q : sg pos = 33
                · rw [if_pos q, runs, if_neg (by decide), if_neg (by decide), if_pos (Or.inl rfl), if_neg (by omega), runs]
                · rw [if_neg q, runs, if_neg (by decide), if_neg (by decide), if_pos (Or.inr rfl), if_neg (by omega), runs]
              · intro p h
                rcases bnd_none h with h1 | ⟨p1, s1, h1, h2⟩
                · have := (ih 5 (op + 1) (pos + 1) (Or.inl (by omega)) (by omega)).2 p h1
                  omega
                · exact absurd h2 (by simp)
            · rw [if_neg e]
              by_cases e4 : op < 6 ∧ sg pos = 40
              · rw [if_pos e4]
                have pn : pos < n := by
                  rcases Nat.lt_or_ge pos n with q | q
                  · exact q
                  · have := hs pos q; omega
                constructor
                · intro p s h
                  obtain ⟨p1, s1, h1, h2⟩ := bnd_some h
                  obtain ⟨a1, a2, a3, a4, a5⟩ := (ih 0 (op + 1) (pos + 1) (Or.inl (by omega)) (by omega)).1 p1 s1 h1
                  by_cases q : sg p1 = 41
                  · rw [if_pos q] at h2
                    have e1 := (Prod.mk.inj h2).1
                    have e2 := Option.some.inj (Prod.mk.inj h2).2
                    subst e2
                    have p1n : p1 < n := by
                      rcases Nat.lt_or_ge p1 n with z | z
                      · exact z
                      · have := hs p1 z; omega
                    exact ⟨by omega, by omega, by omega, fun _ => ⟨by omega, (a4 (by omega)).2⟩, fun q => by omega⟩
                  · rw [if_neg q] at h2; exact absurd h2 (by simp)
                · intro p h
                  rcases bnd_none h with h1 | ⟨p1, s1, h1, h2⟩
                  · have := (ih 0 (op + 1) (pos + 1) (Or.inl (by omega)) (by omega)).2 p h1
                    omega
                  · obtain ⟨a1, a2, a3, a4, a5⟩ := (ih 0 (op + 1) (pos + 1) (Or.inl (by omega)) (by omega)).1 p1 s1 h1
                    by_cases q : sg p1 = 41
                    · rw [if_pos q] at h2; exact absurd h2 (by simp)
                    · rw [if_neg q] at h2
                      have := (Prod.mk.inj h2).1
                      omega
              · rw [if_neg e4]
                refine ⟨fun p s h => absurd h (by simp), fun p h => ?_⟩
                have := (Prod.mk.inj h).1
                omega
      · rw [if_neg c5]
        by_cases d : lvN (sg pos) = k - 10
        · rw [if_pos d]
          have pn := lvl_lt hs d (by omega)
          constructor
          · intro p s h
            obtain ⟨p1, s1, h1, h2⟩ := bnd_some h
            obtain ⟨a1, a2, a3, a4, a5⟩ := (ih (k - 9) op (pos + 1) (Or.inl (by omega)) (by omega)).1 p1 s1 h1
            have a6 := (a4 (by omega)).2
            by_cases q : k = 12
            · rw [if_pos q] at h2
              have e1 := (Prod.mk.inj h2).1
              have e2 := Option.some.inj (Prod.mk.inj h2).2
              subst e1 e2
              refine ⟨by omega, a2, by rw [List.length_append]; simp; omega, fun q => by omega, fun _ z hz => ?_⟩
              rw [runs_app s1 _ z (z + 1) (a6 z), runs_op d (by omega) (by omega), runs]
              rfl
            · rw [if_neg q] at h2
              obtain ⟨p2, s2, h3, h4⟩ := bnd_some h2
              obtain ⟨b1, b2, b3, b4, b5⟩ := (ih k op p1 hk a2).1 p2 s2 h3
              have e1 := (Prod.mk.inj h4).1
              have e2 := Option.some.inj (Prod.mk.inj h4).2
              subst e1 e2
              refine ⟨by omega, b2, by rw [List.length_append]; simp; omega, fun q => by omega, fun _ z hz => ?_⟩
              rw [runs_app s1 _ z (z + 1) (a6 z), runs_op d (by omega) (by omega)]
              exact b5 (by omega) (z + 1 - 1) (by omega)
          · intro p h
            rcases bnd_none h with h1 | ⟨p1, s1, h1, h2⟩
            · have := (ih (k - 9) op (pos + 1) (Or.inl (by omega)) (by omega)).2 p h1
              omega
            · obtain ⟨a1, a2, a3, a4, a5⟩ := (ih (k - 9) op (pos + 1) (Or.inl (by omega)) (by omega)).1 p1 s1 h1
              by_cases q : k = 12
              · rw [if_pos q] at h2; exact absurd h2 (by simp)
              · rw [if_neg q] at h2
                rcases bnd_none h2 with h3 | ⟨p2, s2, h3, h4⟩
                · have := (ih k op p1 hk a2).2 p h3
                  omega
                · exact absurd h4 (by simp)
        · rw [if_neg d]
          refine ⟨fun p s h => ?_, fun p h => absurd h (by simp)⟩
          have e1 := (Prod.mk.inj h).1
          have e2 := Option.some.inj (Prod.mk.inj h).2
          subst e1 e2
          refine ⟨by omega, hp, by simp, fun q => by omega, fun _ z hz => by rw [runs]⟩
