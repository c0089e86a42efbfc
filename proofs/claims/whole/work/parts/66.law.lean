section
variable {n : Nat} {sg : Nat → Nat}
theorem lns_ok (hs : ∀ i, n ≤ i → sg i = 999) {F : Nat} : ∀ (g pos : Nat), pos ≤ n → (∀ p P, lns sg F g pos = (p, some P) → pos ≤ p ∧ p ≤ n ∧ (∀ l ∈ P, lnOK l) ∧ (P.flatMap lnC).length + pos ≤ p + 1 ∧ (P.flatMap lnS).length + pos ≤ p ∧ 2 * P.length + pos ≤ p + 1) ∧ ∀ p, lns sg F g pos = (p, none) → pos ≤ p ∧ p ≤ n
  | 0, pos, hp => ⟨fun p P h => absurd h (by simp [lns]), fun p h => by
      rw [lns] at h
      have := (Prod.mk.inj h).1
      omega⟩
  | g + 1, pos, hp => by
    have lo := lin_ok (F := F) hs hp
    rw [lns]
    cases e : lin sg F pos with
    | mk p1 r1 =>
      cases r1 with
      | none =>
        refine ⟨fun p P h => absurd h (by simp), fun p h => ?_⟩
        have := (Prod.mk.inj h).1
        have := lo.2 p1 e
        omega
      | some l =>
        obtain ⟨a1, a2, a3, a4, a5⟩ := lo.1 p1 l e
        dsimp only
        by_cases c : sg p1 = 59
        · rw [if_pos c]
          have pn : p1 < n := by
            rcases Nat.lt_or_ge p1 n with z | z
            · exact z
            · have := hs p1 z; omega
          have ih := lns_ok hs (F := F) g (p1 + 1) (by omega)
          cases e2 : lns sg F g (p1 + 1) with
          | mk p2 r2 =>
            cases r2 with
            | none =>
              refine ⟨fun p P h => absurd h (by simp), fun p h => ?_⟩
              have := (Prod.mk.inj h).1
              have := ih.2 p2 e2
              omega
            | some r =>
              obtain ⟨b1, b2, b3, b4, b5, b6⟩ := ih.1 p2 r e2
              refine ⟨fun p P h => ?_, fun p h => absurd h (by simp)⟩
              have e3 := (Prod.mk.inj h).1
              have e4 := Option.some.inj (Prod.mk.inj h).2
              subst e3 e4
              refine ⟨by omega, b2, fun l' hl => ?_, ?_, ?_, ?_⟩
              · rcases List.mem_cons.mp hl with rfl | hl
                · exact a3
                · exact b3 l' hl
              · rw [List.flatMap_cons, List.length_append]; omega
              · rw [List.flatMap_cons]
                have : (lnS l ++ r.flatMap lnS).length = (lnS l).length + (r.flatMap lnS).length := List.length_append
                omega
              · rw [List.length_cons]; omega
        · rw [if_neg c]
          refine ⟨fun p P h => ?_, fun p h => absurd h (by simp)⟩
          have e3 := (Prod.mk.inj h).1
          have e4 := Option.some.inj (Prod.mk.inj h).2
          subst e3 e4
          refine ⟨by omega, a2, fun l' hl => ?_, ?_, ?_, ?_⟩
          · rw [List.mem_singleton.mp hl]; exact a3
          · simpa using a4
          · simpa using a5
          · simp; omega
end
section
variable {h0 : Hp} {n : Nat} {sg : Nat → Nat}
theorem mm_read {F G w : Nat} (hw : w < 2) {Q : Int32 → Hp → Prop} (T : TM2 h0 n sg) (e18 : gI h0 55 18 = nI n) (hF : 20 * (n + 1) + 12 ≤ F) (hG : n + 1 ≤ G)
    (hok : ∀ p P, lns sg F G 0 = (p, some P) → n ≤ p → ∀ h', gI h' 55 18 = 0 → gI h' 68 w = nI P.length → (∀ k s, (P.flatMap lnS)[k]? = some s → gI h' 66 (130 * w + k) = (encS s).1 ∧ gI h' 67 (130 * w + k) = (encS s).2) → (∀ k l, P[k]? = some l → gI h' 69 (61 * w + k) = nI (offP P k + l.1.length) ∧ gI h' 70 (61 * w + k) = nI (offP P (k + 1))) → Fz w h0 h' → Q (-1) h')
    (hfa : ∀ p, (lns sg F G 0 = (p, none) ∨ ∃ P, lns sg F G 0 = (p, some P) ∧ p < n) → ∀ h', gI h' 55 18 = 0 → Fz 2 h0 h' → Q (nI p) h') : wX12_readText 55 (nI w) h0 Q := by
  have n120 := T.1
  unfold wX12_readText
  have v2 : vp_in (2 : Int32) 3 := (vp_nI (a := 2) (by omega)).mpr (by omega)
  simp only [forall_eq, rf_55_25, ln_68, cl2]
  refine ⟨v2, ?_⟩
  have L0 : LM h0 n [] 0 (sI (sI (sI (sI (sI h0 55 19 0) 55 20 (-1)) 55 21 0) 55 22 0) 68 2 0) := ⟨by simp only [forall_eq, gI_sI, gI_sL, gL_sI, gL_sL, gI_cpI, gL_cpI, gI_cpL, gL_cpL, Nat.reduceEqDiff, Nat.reduceAdd, Nat.reduceSub, cl0, cl1, cl12, cl39, and_false, false_and, and_true, true_and, and_self, ↓reduceIte]; exact e18, by simp only [forall_eq, gI_sI, gI_sL, gL_sI, gL_sL, gI_cpI, gL_cpI, gI_cpL, gL_cpL, Nat.reduceEqDiff, Nat.reduceAdd, Nat.reduceSub, cl0, cl1, cl12, cl39, and_false, false_and, and_true, true_and, and_self, ↓reduceIte]; rfl, by simp only [forall_eq, gI_sI, gI_sL, gL_sI, gL_sL, gI_cpI, gL_cpI, gI_cpL, gL_cpL, Nat.reduceEqDiff, Nat.reduceAdd, Nat.reduceSub, cl0, cl1, cl12, cl39, and_false, false_and, and_true, true_and, and_self, ↓reduceIte], by simp only [forall_eq, gI_sI, gI_sL, gL_sI, gL_sL, gI_cpI, gL_cpI, gI_cpL, gL_cpL, Nat.reduceEqDiff, Nat.reduceAdd, Nat.reduceSub, cl0, cl1, cl12, cl39, and_false, false_and, and_true, true_and, and_self, ↓reduceIte], by simp only [forall_eq, gI_sI, gI_sL, gL_sI, gL_sL, gI_cpI, gL_cpI, gI_cpL, gL_cpL, Nat.reduceEqDiff, Nat.reduceAdd, Nat.reduceSub, cl0, cl1, cl12, cl39, and_false, false_and, and_true, true_and, and_self, ↓reduceIte]; rfl, fun k s hk => absurd hk (by simp), by simp only [forall_eq, gI_sI, gI_sL, gL_sI, gL_sL, gI_cpI, gL_cpI, gI_cpL, gL_cpL, Nat.reduceEqDiff, Nat.reduceAdd, Nat.reduceSub, cl0, cl1, cl12, cl39, and_false, false_and, and_true, true_and, and_self, ↓reduceIte]; rfl, fun k l hk => absurd hk (by simp), (((((Fq.refl h0).set 55 19 _ rfl).set 55 20 _ rfl).set 55 21 _ rfl).set 55 22 _ rfl).set 68 2 _ rfl⟩
  have allok := lns_ok (n := n) T.end (F := F) G 0 (Nat.zero_le n)
  obtain ⟨g0, rfl⟩ : ∃ g0, G = g0 + 1 := ⟨G - 1, by omega⟩
  have z55 : fzs 2 55 18 = true := rfl
  have stop : ∀ p h', LSf h0 n p h' → (∀ h', gI h' 55 18 = 0 → Fz 2 h0 h' → Q (nI p) h') → jX12_readText_64 55 (nI w) h' Q := by
    intro p h' L' hq
    unfold jX12_readText_64 jX12_readText_86
    have f0 : 0 ≤ gI h' 55 20 := by rw [L'.1]; have := L'.2.1; exact nI_pos' (by omega)
    rw [if_pos f0]
    simp only [forall_eq]
    rw [show gI (sI h' 55 18 0) 55 20 = gI h' 55 20 by simp only [forall_eq, gI_sI, gI_sL, gL_sI, gL_sL, gI_cpI, gL_cpI, gI_cpL, gL_cpL, Nat.reduceEqDiff, Nat.reduceAdd, Nat.reduceSub, cl0, cl1, cl12, cl39, and_false, false_and, and_true, true_and, and_self, ↓reduceIte], L'.1, if_neg (nI_pos (by have := L'.2.1; omega))]
    exact hq _ (by simp only [forall_eq, gI_sI, gI_sL, gL_sI, gL_sL, gI_cpI, gL_cpI, gI_cpL, gL_cpL, Nat.reduceEqDiff, Nat.reduceAdd, Nat.reduceSub, cl0, cl1, cl12, cl39, and_false, false_and, and_true, true_and, and_self, ↓reduceIte]) ((L'.2.2.fz).set 55 18 _ z55)
  have key : ∀ h', ((∃ p, LSf h0 n p h' ∧ ∀ h', gI h' 55 18 = 0 → Fz 2 h0 h' → Q (nI p) h') ∨ ∃ g p P, 2 * P.length ≤ p + 1 ∧ p ≤ n ∧ n ≤ g + p ∧ LM h0 n P p h' ∧ (P.flatMap lnS).length ≤ p ∧ (∀ l ∈ P, lnOK l) ∧
      (∀ p2 r, tlL sg F g p = (p2, some r) → lns sg F (g0 + 1) 0 = (p2, some (P ++ r))) ∧ ∀ p2, tlL sg F g p = (p2, none) → lns sg F (g0 + 1) 0 = (p2, none)) → eX12_readText_31 55 (nI w) Q h' := by
    refine iX12_readText_31 (I := fun h' => (∃ p, LSf h0 n p h' ∧ ∀ h', gI h' 55 18 = 0 → Fz 2 h0 h' → Q (nI p) h') ∨ ∃ g p P, 2 * P.length ≤ p + 1 ∧ p ≤ n ∧ n ≤ g + p ∧ LM h0 n P p h' ∧ (P.flatMap lnS).length ≤ p ∧ (∀ l ∈ P, lnOK l) ∧
      (∀ p2 r, tlL sg F g p = (p2, some r) → lns sg F (g0 + 1) 0 = (p2, some (P ++ r))) ∧ ∀ p2, tlL sg F g p = (p2, none) → lns sg F (g0 + 1) 0 = (p2, none)) (μ := fun h' => if 0 ≤ gI h' 55 20 then 0 else n + 2 - (gI h' 55 19).toNatClampNeg) ?_
    rintro h (⟨p, L, hq⟩ | ⟨g, p, P, hjp, hp, hgp, L, hl, hOK, ok, fa⟩) K hK
    · unfold fX12_readText_31
      have f0 : 0 ≤ gI h 55 20 := by rw [L.1]; have := L.2.1; exact nI_pos' (by omega)
      rw [if_pos f0]
      exact stop p h L hq
    · obtain ⟨m1, m2, m3, m4, m5, m6, m7, m8, m9⟩ := id L
      have nf : ¬ 0 ≤ gI h 55 20 := by rw [m3]; decide
      have Th := T.fq m9
      have MPh : MP h n p 0 (P.flatMap lnS) h := ⟨m1, m2, m3, m4, m5, m6, Fe.refl h⟩
      unfold fX12_readText_31
      rw [if_neg nf]
      apply m_look Th (Fe.refl h) m1 m2 hp
      have s59 : sgM sg n p = 59 ↔ sg p = 59 := sgME Th p (c := 59) (by omega)
      by_cases y : sg p = 59
      · rw [if_pos (s59.mpr y)]
        have pn : p < n := by
          rcases Nat.lt_or_ge p n with z | z
          · exact z
          · have := T.2.2 p z; omega
        unfold tlL at ok fa
        rw [if_pos y] at ok fa
        obtain ⟨g', rfl⟩ : ∃ g', g = g' + 1 := ⟨g - 1, by omega⟩
        rw [lns_s] at ok fa
        simp only [forall_eq]
        have L2 : LM h0 n P (p + 1) (sI h 55 19 (gI h 55 19 + 1)) := ⟨by simp only [forall_eq, gI_sI, gI_sL, gL_sI, gL_sL, gI_cpI, gL_cpI, gI_cpL, gL_cpL, Nat.reduceEqDiff, Nat.reduceAdd, Nat.reduceSub, cl0, cl1, cl12, cl39, and_false, false_and, and_true, true_and, and_self, ↓reduceIte]; exact m1, by simp only [forall_eq, gI_sI, gI_sL, gL_sI, gL_sL, gI_cpI, gL_cpI, gI_cpL, gL_cpL, Nat.reduceEqDiff, Nat.reduceAdd, Nat.reduceSub, cl0, cl1, cl12, cl39, and_false, false_and, and_true, true_and, and_self, ↓reduceIte, m2]; exact nI_1 _, by simp only [forall_eq, gI_sI, gI_sL, gL_sI, gL_sL, gI_cpI, gL_cpI, gI_cpL, gL_cpL, Nat.reduceEqDiff, Nat.reduceAdd, Nat.reduceSub, cl0, cl1, cl12, cl39, and_false, false_and, and_true, true_and, and_self, ↓reduceIte]; exact m3, by simp only [forall_eq, gI_sI, gI_sL, gL_sI, gL_sL, gI_cpI, gL_cpI, gI_cpL, gL_cpL, Nat.reduceEqDiff, Nat.reduceAdd, Nat.reduceSub, cl0, cl1, cl12, cl39, and_false, false_and, and_true, true_and, and_self, ↓reduceIte]; exact m4, by simp only [forall_eq, gI_sI, gI_sL, gL_sI, gL_sL, gI_cpI, gL_cpI, gI_cpL, gL_cpL, Nat.reduceEqDiff, Nat.reduceAdd, Nat.reduceSub, cl0, cl1, cl12, cl39, and_false, false_and, and_true, true_and, and_self, ↓reduceIte]; exact m5, fun k s hk => by simp only [forall_eq, gI_sI, gI_sL, gL_sI, gL_sL, gI_cpI, gL_cpI, gI_cpL, gL_cpL, Nat.reduceEqDiff, Nat.reduceAdd, Nat.reduceSub, cl0, cl1, cl12, cl39, and_false, false_and, and_true, true_and, and_self, ↓reduceIte]; exact m6 k s hk, by simp only [forall_eq, gI_sI, gI_sL, gL_sI, gL_sL, gI_cpI, gL_cpI, gI_cpL, gL_cpL, Nat.reduceEqDiff, Nat.reduceAdd, Nat.reduceSub, cl0, cl1, cl12, cl39, and_false, false_and, and_true, true_and, and_self, ↓reduceIte]; exact m7, fun k l hk => by simp only [forall_eq, gI_sI, gI_sL, gL_sI, gL_sL, gI_cpI, gL_cpI, gI_cpL, gL_cpL, Nat.reduceEqDiff, Nat.reduceAdd, Nat.reduceSub, cl0, cl1, cl12, cl39, and_false, false_and, and_true, true_and, and_self, ↓reduceIte]; exact m8 k l hk, m9.set 55 19 _ rfl⟩
        refine mm_line T hF (by omega) L2 (by omega) (by omega) ?_ ?_
        · intro p1 l e1 h4 L4
          obtain ⟨a1, a2, a3, a4, a5⟩ := (lin_ok (n := n) T.end (show p + 1 ≤ n by omega)).1 p1 l e1
          rw [e1] at ok fa
          dsimp only at ok fa
          refine hK _ (Or.inr ⟨g', p1, P ++ [l], by rw [List.length_append]; simp; omega, a2, by omega, L4, by
            rw [flatS_snoc]
            have : (P.flatMap lnS ++ lnS l).length = (P.flatMap lnS).length + (lnS l).length := List.length_append
            omega, fun l' hl' => ?_, ?_, ?_⟩) ?_
          · rcases List.mem_append.mp hl' with q | q
            · exact hOK l' q
            · rw [List.mem_singleton.mp q]; exact a3
          · intro p2 r e2
            have := ok p2 (l :: r) (by rw [e2])
            rw [List.append_assoc]
            exact this
          · intro p2 e2
            exact fa p2 (by rw [e2])
          · rw [if_neg (show ¬ 0 ≤ gI h4 55 20 by rw [L4.2.2.1]; decide), if_neg nf, L4.2.1, m2, nI_clamp (by omega), nI_clamp (by omega)]
            omega
        · intro p1 e1 h4 L4
          rw [e1] at fa
          refine hK _ (Or.inl ⟨p1, L4, hfa p1 (Or.inl (fa p1 rfl))⟩) ?_
          rw [if_pos (show 0 ≤ gI h4 55 20 by rw [L4.1]; have := L4.2.1; exact nI_pos' (by omega)), if_neg nf, m2, nI_clamp (by omega)]
          omega
      · rw [if_neg (fun x => y (s59.mp x))]
        unfold tlL at ok
        rw [if_neg y] at ok
        have full := ok p [] rfl
        rw [List.append_nil] at full
        unfold jX12_readText_64
        rw [if_neg nf, m1, m2]
        by_cases z : n ≤ p
        · rw [if_pos (nI_le z (by omega))]
          exact m_copy hw L (by omega) (by omega) hOK (fun h' q1 q2 q3 q4 q5 => hok p P full z h' q1 q2 q3 q4 q5)
        · rw [if_neg (nI_ge (by omega) (by omega))]
          refine m_faultP MPh hp (fun h' M' => ?_)
          unfold jX12_readText_86
          simp only [forall_eq]
          rw [show gI (sI h' 55 18 0) 55 20 = gI h' 55 20 by simp only [forall_eq, gI_sI, gI_sL, gL_sI, gL_sL, gI_cpI, gL_cpI, gI_cpL, gL_cpL, Nat.reduceEqDiff, Nat.reduceAdd, Nat.reduceSub, cl0, cl1, cl12, cl39, and_false, false_and, and_true, true_and, and_self, ↓reduceIte], M'.2.2.1, if_neg (nI_pos (by omega))]
          exact hfa p (Or.inr ⟨P, full, by omega⟩) _ (by simp only [forall_eq, gI_sI, gI_sL, gL_sI, gL_sL, gI_cpI, gL_cpI, gI_cpL, gL_cpL, Nat.reduceEqDiff, Nat.reduceAdd, Nat.reduceSub, cl0, cl1, cl12, cl39, and_false, false_and, and_true, true_and, and_self, ↓reduceIte]) (((m9.trans M'.2.2.2.2.2.fq).fz).set 55 18 _ z55)
  have first := lns_s sg F g0 0
  refine mm_line T hF (by omega) L0 (by simp) (by simp) ?_ ?_
  · intro p1 l e1 h4 L4
    obtain ⟨a1, a2, a3, a4, a5⟩ := (lin_ok (n := n) T.end (Nat.zero_le n)).1 p1 l e1
    rw [e1] at first
    dsimp only at first
    refine key h4 (Or.inr ⟨g0, p1, [l], by simp; omega, a2, by omega, by simpa using L4, by simpa using a5, fun l' hl' => by rw [List.mem_singleton.mp hl']; exact a3, ?_, ?_⟩)
    · intro p2 r e2
      rw [first, e2]
      rfl
    · intro p2 e2
      rw [first, e2]
  · intro p1 e1 h4 L4
    rw [e1] at first
    exact key h4 (Or.inl ⟨p1, L4, hfa p1 (Or.inl first)⟩)
end
