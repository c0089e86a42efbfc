/-! lines -/
def lin (sg : Nat → Nat) (F pos : Nat) : Nat × Option (List Sp2 × List Sp2) := match prs sg F 0 0 pos with
  | (p1, none) => (p1, none)
  | (p1, some s1) => if sg p1 = 63 then (match prs sg F 0 0 (p1 + 1) with
      | (p2, none) => (p2, none)
      | (p2, some s2) => (p2, some (s1, s2))) else (p1, some ([], s1))
def lns (sg : Nat → Nat) (F : Nat) : Nat → Nat → Nat × Option Lns
  | 0, pos => (pos, none)
  | g + 1, pos => match lin sg F pos with
    | (p1, none) => (p1, none)
    | (p1, some l) => if sg p1 = 59 then (match lns sg F g (p1 + 1) with
        | (p2, none) => (p2, none)
        | (p2, some r) => (p2, some (l :: r))) else (p1, some [l])
/-- the lines behind one -/
def tlL (sg : Nat → Nat) (F g p : Nat) : Nat × Option Lns := if sg p = 59 then lns sg F g (p + 1) else (p, some [])
theorem lns_s (sg : Nat → Nat) (F g pos : Nat) : lns sg F (g + 1) pos = match lin sg F pos with
    | (p1, none) => (p1, none)
    | (p1, some l) => (match tlL sg F g p1 with
        | (p2, none) => (p2, none)
        | (p2, some r) => (p2, some (l :: r))) := by
  rw [lns]
  obtain ⟨p1, o⟩ := lin sg F pos
  cases o with
  | none => rfl
  | some l =>
    dsimp only
    unfold tlL
    by_cases c : sg p1 = 59
    · rw [if_pos c, if_pos c]
    · rw [if_neg c, if_neg c]
section
variable {n : Nat} {sg : Nat → Nat}
theorem lin_ok (hs : ∀ i, n ≤ i → sg i = 999) {F pos : Nat} (hp : pos ≤ n) : (∀ p l, lin sg F pos = (p, some l) → pos < p ∧ p ≤ n ∧ lnOK l ∧ (lnC l).length + pos ≤ p + 1 ∧ (lnS l).length + pos ≤ p) ∧ ∀ p, lin sg F pos = (p, none) → pos ≤ p ∧ p ≤ n := by
  have o1 := prs_ok hs F 0 0 pos (Or.inl (by omega)) hp
  unfold lin
  cases e : prs sg F 0 0 pos with
  | mk p1 r1 =>
    cases r1 with
    | none =>
      refine ⟨fun p l h => absurd h (by simp), fun p h => ?_⟩
      have := (Prod.mk.inj h).1
      have := o1.2 p1 e
      omega
    | some s1 =>
      obtain ⟨a1, a2, a3, a4, a5⟩ := o1.1 p1 s1 e
      obtain ⟨a6, a7⟩ := a4 (by omega)
      dsimp only
      by_cases c : sg p1 = 63
      · rw [if_pos c]
        have pn : p1 < n := by
          rcases Nat.lt_or_ge p1 n with z | z
          · exact z
          · have := hs p1 z; omega
        have o2 := prs_ok hs F 0 0 (p1 + 1) (Or.inl (by omega)) (by omega)
        cases e2 : prs sg F 0 0 (p1 + 1) with
        | mk p2 r2 =>
          cases r2 with
          | none =>
            refine ⟨fun p l h => absurd h (by simp), fun p h => ?_⟩
            have := (Prod.mk.inj h).1
            have := o2.2 p2 e2
            omega
          | some s2 =>
            obtain ⟨b1, b2, b3, b4, b5⟩ := o2.1 p2 s2 e2
            obtain ⟨b6, b7⟩ := b4 (by omega)
            refine ⟨fun p l h => ?_, fun p h => absurd h (by simp)⟩
            have e3 := (Prod.mk.inj h).1
            have e4 := Option.some.inj (Prod.mk.inj h).2
            subst e3 e4
            have ne : ¬ s1 = [] := by
              intro z
              have := a7 0
              rw [z, runs] at this
              exact absurd (Option.some.inj this) (by omega)
            refine ⟨by omega, b2, ⟨b7 0, Or.inr (a7 0)⟩, ?_, ?_⟩
            · unfold lnC
              rw [if_neg ne]
              simp only [List.length_append, List.length_cons, List.length_nil]
              omega
            · simp only [lnS, List.length_append]
              omega
      · rw [if_neg c]
        refine ⟨fun p l h => ?_, fun p h => absurd h (by simp)⟩
        have e3 := (Prod.mk.inj h).1
        have e4 := Option.some.inj (Prod.mk.inj h).2
        subst e3 e4
        refine ⟨a6, a2, ⟨a7 0, Or.inl rfl⟩, ?_, ?_⟩
        · unfold lnC
          rw [if_pos rfl]
          simp only [List.length_append, List.length_cons, List.length_nil]
          omega
        · simp only [lnS, List.length_append, List.length_nil]
          omega
end
section
variable {h0 : Hp} {n : Nat} {sg : Nat → Nat}
theorem cc_line (T : TP h0 n sg) {F pos : Nat} {st : List Sp2} {h : Hp} {Q : Hp → Prop} (hF : 20 * (n + 1) + 12 ≤ F) (hp : pos ≤ n) (C : CP h0 n pos st h) (hl : st.length ≤ pos)
    (hok : ∀ p l, lin sg F pos = (p, some l) → ∀ h', CP h0 n p (st ++ lnC l) h' → Q h') (hfa : ∀ p, lin sg F pos = (p, none) → ∀ h', CS h0 n sg p h' → Q h') : wX9_line 18 h Q := by
  have n120 := T.1
  unfold wX9_line
  refine ⟨56, by omega, ?_⟩
  have endS : ∀ p, (∀ h', CS h0 n sg p h' → Q h') → ∀ h', CS h0 n sg p h' → jX9_line_48 18 h' Q := by
    intro p hq h' C'
    unfold jX9_line_48
    rw [rf_18_0]
    exact c_addS C' (fun h2 C2 => hq h2 C2)
  refine (SC_all T F 0 0 pos st h _ 56 (by omega) (by omega) hp (by omega) C hl ?_ ?_).1 (by omega)
  · intro p1 s1 e1 h3 C3
    obtain ⟨a1, a2, a3, a4, a5⟩ := (prs_ok T.end F 0 0 pos (Or.inl (by omega)) hp).1 p1 s1 e1
    obtain ⟨a6, a7⟩ := a4 (by omega)
    unfold lin at hok hfa
    rw [e1] at hok hfa
    dsimp only at hok hfa
    rw [if_neg (show ¬ gI h3 18 4 = 0 by rw [C3.2.2.1]; decide)]
    apply c_sign T C3.2.2.2.2.2 C3.1 C3.2.1 a2
    have s63 : sgI sg n p1 = 63 ↔ sg p1 = 63 := sgE T p1 (c := 63) (by omega)
    by_cases c : sg p1 = 63
    · rw [if_pos (s63.mpr c)]
      rw [if_pos c] at hok hfa
      have pn : p1 < n := by
        rcases Nat.lt_or_ge p1 n with z | z
        · exact z
        · have := T.2.2 p1 z; omega
      have ne : ¬ s1 = [] := by
        intro z
        have := a7 0
        rw [z, runs] at this
        exact absurd (Option.some.inj this) (by omega)
      simp only [forall_eq, rf_18_0]
      apply c_addP C3.step (by rw [List.length_append]; omega)
      intro h7 C7
      refine ⟨56, by omega, ?_⟩
      refine (SC_all T F 0 0 (p1 + 1) _ h7 _ 56 (by omega) (by omega) (by omega) (by omega) C7 (by rw [List.length_append, List.length_append]; simp; omega) ?_ ?_).1 (by omega)
      · intro p2 s2 e2 h9 C9
        obtain ⟨b1, b2, b3, b4, b5⟩ := (prs_ok T.end F 0 0 (p1 + 1) (Or.inl (by omega)) (by omega)).1 p2 s2 e2
        rw [e2] at hok
        unfold jX9_line_48
        rw [rf_18_0]
        apply c_addP C9 (by simp only [List.length_append, List.length_cons, List.length_nil]; omega)
        intro h10 C10
        refine hok p2 (s1, s2) rfl h10 ?_
        unfold lnC
        rw [if_neg ne]
        simp only [List.append_assoc] at C10 ⊢
        exact C10
      · intro p2 e2 h9 C9
        rw [e2] at hfa
        exact endS p2 (fun h' C' => hfa p2 rfl h' C') h9 C9
    · rw [if_neg (fun y => c (s63.mp y))]
      rw [if_neg c] at hok
      unfold jX9_line_48
      rw [rf_18_0]
      apply c_addP C3 (by rw [List.length_append]; omega)
      intro h10 C10
      refine hok p1 ([], s1) rfl h10 ?_
      unfold lnC
      rw [if_pos rfl, List.nil_append]
      rw [List.append_assoc] at C10
      exact C10
  · intro p1 e1 h3 C3
    unfold lin at hfa
    rw [e1] at hfa
    have hq := endS p1 (fun h' C' => hfa p1 rfl h' C')
    rcases C3.2.2.2.1 with y | ⟨y, yd⟩
    · rw [if_pos y]
      exact hq h3 C3
    · rw [if_neg (by rw [y]; decide)]
      apply c_sign T C3.2.2.2.2.2 C3.1 C3.2.1 C3.2.2.1
      have s63 : sgI sg n p1 = 63 ↔ sg p1 = 63 := sgE T p1 (c := 63) (by omega)
      rw [if_neg (fun x => by
        have := s63.mp x
        rw [this] at yd
        exact absurd yd (by decide))]
      exact hq h3 C3
theorem flat_snoc (P : Lns) (l : List Sp2 × List Sp2) : (P ++ [l]).flatMap lnC = P.flatMap lnC ++ lnC l := by
  rw [List.flatMap_append]
  simp
/-- the class reads a text -/
theorem cc_read {h1 : Hp} {F G : Nat} {Q : Int32 → Hp → Prop} (T : TP h1 n sg) (hF : 20 * (n + 1) + 12 ≤ F) (hG : n + 1 ≤ G)
    (hok : ∀ p P, lns sg F G 0 = (p, some P) → n ≤ p → ∀ h', Fp h1 h' → gI h' 19 3 = nI (P.flatMap lnC).length → (∀ k s, (P.flatMap lnC)[k]? = some s → gI h' 20 k = s.1 ∧ gI h' 21 k = s.2) → Q (-1) h')
    (hfa : ∀ p, (lns sg F G 0 = (p, none) ∨ ∃ P, lns sg F G 0 = (p, some P) ∧ p < n) → ∀ h', Fp h1 h' → Q (nI p) h') : wX9_read 18 (nI n) h1 Q := by
  have n120 := T.1
  unfold wX9_read wX5_clear
  simp only [forall_eq, rf_18_0]
  have C0 : CP h1 n 0 [] (sI (sI (sI (sI h1 18 2 (nI n)) 18 3 0) 18 4 1) 19 3 0) := ⟨by simp only [forall_eq, gI_sI, gI_sL, gL_sI, gL_sL, gI_cpI, gL_cpI, gI_cpL, gL_cpL, Nat.reduceEqDiff, Nat.reduceAdd, Nat.reduceSub, cl0, cl1, cl12, cl39, and_false, false_and, and_true, true_and, and_self, ↓reduceIte], by simp only [forall_eq, gI_sI, gI_sL, gL_sI, gL_sL, gI_cpI, gL_cpI, gI_cpL, gL_cpL, Nat.reduceEqDiff, Nat.reduceAdd, Nat.reduceSub, cl0, cl1, cl12, cl39, and_false, false_and, and_true, true_and, and_self, ↓reduceIte]; rfl, by simp only [forall_eq, gI_sI, gI_sL, gL_sI, gL_sL, gI_cpI, gL_cpI, gI_cpL, gL_cpL, Nat.reduceEqDiff, Nat.reduceAdd, Nat.reduceSub, cl0, cl1, cl12, cl39, and_false, false_and, and_true, true_and, and_self, ↓reduceIte], by simp only [forall_eq, gI_sI, gI_sL, gL_sI, gL_sL, gI_cpI, gL_cpI, gI_cpL, gL_cpL, Nat.reduceEqDiff, Nat.reduceAdd, Nat.reduceSub, cl0, cl1, cl12, cl39, and_false, false_and, and_true, true_and, and_self, ↓reduceIte]; rfl, fun k s hk => absurd hk (by simp), ((((Fp.refl h1).set 18 2 _ (by omega)).set 18 3 _ (by omega)).set 18 4 _ (by omega)).set 19 3 _ (by omega)⟩
  obtain ⟨g0, rfl⟩ : ∃ g0, G = g0 + 1 := ⟨G - 1, by omega⟩
  rw [lns_s] at hok hfa
  have stop : ∀ p h', CS h1 n sg p h' → (∀ h', Fp h1 h' → Q (nI p) h') → jX9_read_72 18 h' Q := by
    intro p h' C' hq
    unfold jX9_read_72
    rw [C'.1, C'.2.1]
    rcases C'.2.2.2.1 with y | ⟨y, yd⟩
    · rw [if_pos y]; exact hq h' C'.2.2.2.2.2
    · rw [if_neg (by rw [y]; decide), if_pos (nI_lt (dg_lt T.end yd) (by omega))]
      exact hq h' C'.2.2.2.2.2
  have key : ∀ (x2 : Int32) (h' : Hp), ((∃ p, CS h1 n sg p h' ∧ ∀ h', Fp h1 h' → Q (nI p) h') ∨ ∃ j g p P, x2 = nI j ∧ 1 ≤ j ∧ 2 * j ≤ p + 1 ∧ p ≤ n ∧ n ≤ g + p ∧ CP h1 n p (P.flatMap lnC) h' ∧ (P.flatMap lnC).length ≤ p + 1 ∧
      (∀ p2 r, tlL sg F g p = (p2, some r) → n ≤ p2 → ∀ h9, CP h1 n p2 ((P ++ r).flatMap lnC) h9 → Q (-1) h9) ∧ ∀ p2, (tlL sg F g p = (p2, none) ∨ ∃ r, tlL sg F g p = (p2, some r) ∧ p2 < n) → ∀ h9, Fp h1 h9 → Q (nI p2) h9) → eX9_read_28 18 Q x2 h' := by
    refine iX9_read_28 (I := fun x2 h' => (∃ p, CS h1 n sg p h' ∧ ∀ h', Fp h1 h' → Q (nI p) h') ∨ ∃ j g p P, x2 = nI j ∧ 1 ≤ j ∧ 2 * j ≤ p + 1 ∧ p ≤ n ∧ n ≤ g + p ∧ CP h1 n p (P.flatMap lnC) h' ∧ (P.flatMap lnC).length ≤ p + 1 ∧
      (∀ p2 r, tlL sg F g p = (p2, some r) → n ≤ p2 → ∀ h9, CP h1 n p2 ((P ++ r).flatMap lnC) h9 → Q (-1) h9) ∧ ∀ p2, (tlL sg F g p = (p2, none) ∨ ∃ r, tlL sg F g p = (p2, some r) ∧ p2 < n) → ∀ h9, Fp h1 h9 → Q (nI p2) h9) (μ := fun _ h' => n + 1 - (gI h' 18 3).toNatClampNeg) ?_
    rintro x2 h (⟨p, C, hq⟩ | ⟨j, g, p, P, rfl, hj, hjp, hp, hgp, C, hl, ok, fa⟩) K hK
    · unfold fX9_read_28
      by_cases z : gI h 18 2 ≤ x2
      · rw [if_pos z]; exact stop p h C hq
      · rw [if_neg z]
        rcases C.2.2.2.1 with y | ⟨y, yd⟩
        · rw [if_pos y]; exact stop p h C hq
        · rw [if_neg (by rw [y]; decide)]
          apply c_sign T C.2.2.2.2.2 C.1 C.2.1 C.2.2.1
          have s59 : sgI sg n p = 59 ↔ sg p = 59 := sgE T p (c := 59) (by omega)
          rw [if_neg (fun x => by
            have := s59.mp x
            rw [this] at yd
            exact absurd yd (by decide))]
          exact stop p h C hq
    · obtain ⟨c1, c2, c3, c4, c5, c6⟩ := id C
      have halt : sg p ≠ 59 → jX9_read_72 18 h Q := by
        intro ns
        unfold tlL at ok fa
        rw [if_neg ns] at ok fa
        unfold jX9_read_72
        rw [if_neg (by rw [c3]; decide), c1, c2]
        by_cases z : p < n
        · rw [if_pos (nI_lt z (by omega))]
          exact fa p (Or.inr ⟨[], rfl, z⟩) h c6
        · rw [if_neg (nI_nlt (by omega) (by omega))]
          exact ok p [] rfl (by omega) h (by rw [List.append_nil]; exact C)
      have s59l : sg p = 59 → p < n := by
        intro q
        rcases Nat.lt_or_ge p n with z | z
        · exact z
        · have := T.2.2 p z; omega
      unfold fX9_read_28
      rw [c1]
      by_cases z : n ≤ j
      · rw [if_pos (nI_le z (by omega))]
        exact halt (fun q => by have := s59l q; omega)
      · rw [if_neg (nI_ge (by omega) (by omega)), if_neg (show ¬ gI h 18 4 = 0 by rw [c3]; decide)]
        apply c_sign T c6 c1 c2 hp
        have s59 : sgI sg n p = 59 ↔ sg p = 59 := sgE T p (c := 59) (by omega)
        by_cases y : sg p = 59
        · rw [if_pos (s59.mpr y)]
          have pn := s59l y
          unfold tlL at ok fa
          rw [if_pos y] at ok fa
          obtain ⟨g', rfl⟩ : ∃ g', g = g' + 1 := ⟨g - 1, by omega⟩
          rw [lns_s] at ok fa
          simp only [forall_eq, nI_1]
          refine cc_line T hF (by omega) C.step hl ?_ ?_
          · intro p1 l e1 h4 C4
            obtain ⟨a1, a2, a3, a4, a5⟩ := (lin_ok (n := n) T.end (show p + 1 ≤ n by omega)).1 p1 l e1
            rw [e1] at ok fa
            dsimp only at ok fa
            refine hK _ _ (Or.inr ⟨j + 1, g', p1, P ++ [l], rfl, by omega, by omega, a2, by omega, by rw [flat_snoc]; exact C4, by rw [flat_snoc, List.length_append]; omega, ?_, ?_⟩) ?_
            · intro p2 r e2 hn h9 C9
              rw [List.append_assoc] at C9
              exact ok p2 (l :: r) (by rw [e2]) hn h9 C9
            · rintro p2 (e2 | ⟨r, e2, l2⟩) h9 F9
              · exact fa p2 (Or.inl (by rw [e2])) h9 F9
              · exact fa p2 (Or.inr ⟨l :: r, by rw [e2], l2⟩) h9 F9
            · rw [C4.2.1, c2, nI_clamp (by omega), nI_clamp (by omega)]
              omega
          · intro p1 e1 h4 C4
            obtain ⟨a1, a2⟩ := (lin_ok (n := n) T.end (show p + 1 ≤ n by omega)).2 p1 e1
            rw [e1] at fa
            refine hK _ _ (Or.inl ⟨p1, C4, fun h9 F9 => fa p1 (Or.inl rfl) h9 F9⟩) ?_
            rw [C4.2.1, c2, nI_clamp (by omega), nI_clamp (by omega)]
            omega
        · rw [if_neg (fun x => y (s59.mp x))]
          exact halt y
  refine cc_line T hF (by omega) C0 (by simp) ?_ ?_
  · intro p1 l e1 h4 C4
    obtain ⟨a1, a2, a3, a4, a5⟩ := (lin_ok (n := n) T.end (Nat.zero_le n)).1 p1 l e1
    rw [e1] at hok hfa
    dsimp only at hok hfa
    refine key 1 h4 (Or.inr ⟨1, g0, p1, [l], rfl, by omega, by omega, a2, by omega, by simpa using C4, by simpa using a4, ?_, ?_⟩)
    · intro p2 r e2 hn h9 C9
      exact hok p2 (l :: r) (by rw [e2]) hn h9 C9.2.2.2.2.2 C9.2.2.2.1 C9.2.2.2.2.1
    · rintro p2 (e2 | ⟨r, e2, l2⟩) h9 F9
      · exact hfa p2 (Or.inl (by rw [e2])) h9 F9
      · exact hfa p2 (Or.inr ⟨l :: r, by rw [e2], l2⟩) h9 F9
  · intro p1 e1 h4 C4
    rw [e1] at hfa
    exact key 1 h4 (Or.inl ⟨p1, C4, fun h9 F9 => hfa p1 (Or.inl rfl) h9 F9⟩)
end
