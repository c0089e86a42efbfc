def okK (h0 : Hp) (n : Nat) (st : List Sp2) (r : RS) (Q : Hp → Prop) : Prop := ∀ p s, r = (p, some s) → ∀ h', CP h0 n p (st ++ s) h' → Q h'
def faK (h0 : Hp) (n : Nat) (sg : Nat → Nat) (r : RS) (Q : Hp → Prop) : Prop := ∀ p, r = (p, none) → ∀ h', CS h0 n sg p h' → Q h'
def SC (h0 : Hp) (n : Nat) (sg : Nat → Nat) (f : Nat) : Prop := ∀ (k op pos : Nat) (st : List Sp2) (h : Hp) (Q : Hp → Prop) (nd : Nat), k ≤ 5 → op ≤ 6 → pos ≤ n → 20 * (n + 1 - pos) + 12 - 2 * k ≤ f → CP h0 n pos st h → st.length ≤ pos → okK h0 n st (prs sg f k op pos) Q → faK h0 n sg (prs sg f k op pos) Q →
  (8 * (6 - op) + 8 - k ≤ nd → (wG0 nd).1 18 (nI k) (nI op) h Q) ∧ (k = 5 → 8 * (6 - op) + 2 ≤ nd → (wG0 nd).2.1 18 (nI op) h Q)
section
variable {h0 : Hp} {n : Nat} {sg : Nat → Nat}
/-- the loop of a level -/
theorem c_chain_lp (T : TP h0 n sg) {f k op nd : Nat} (ih : ∀ m, m < f → SC h0 n sg m) (hk : k ≤ 4) (ho : op ≤ 6) (hd : 8 * (6 - op) + 8 - (k + 1) ≤ nd) {Q : Hp → Prop} : ∀ (x3 : Int32) (h : Hp), ((∃ p, CS h0 n sg p h ∧ ∀ h', CS h0 n sg p h' → Q h') ∨ ∃ i f' pos st, x3 = nI i ∧ i < pos ∧ pos ≤ n ∧ CP h0 n pos st h ∧ st.length ≤ pos ∧ f' < f ∧ 20 * (n + 1 - pos) + 1 ≤ f' ∧ okK h0 n st (prs sg f' (10 + k) op pos) Q ∧ faK h0 n sg (prs sg f' (10 + k) op pos) Q) → eX9_chain_21 18 (nI k) (nI op) (wG0 nd) Q x3 h := by
  have n120 := T.1
  refine iX9_chain_21 (I := fun x3 h => (∃ p, CS h0 n sg p h ∧ ∀ h', CS h0 n sg p h' → Q h') ∨ ∃ i f' pos st, x3 = nI i ∧ i < pos ∧ pos ≤ n ∧ CP h0 n pos st h ∧ st.length ≤ pos ∧ f' < f ∧ 20 * (n + 1 - pos) + 1 ≤ f' ∧ okK h0 n st (prs sg f' (10 + k) op pos) Q ∧ faK h0 n sg (prs sg f' (10 + k) op pos) Q) (μ := fun _ h => n + 1 - (gI h 18 3).toNatClampNeg) ?_
  rintro x3 h (⟨p, C, hq⟩ | ⟨i, f', pos, st, rfl, hi, hp, C, hl, hf', hr, hok, hfa⟩) K hK
  · unfold fX9_chain_21
    have C0 := C
    obtain ⟨c1, c2, c3, c4, c5, c6⟩ := C
    by_cases z : gI h 18 2 ≤ x3
    · rw [if_pos z]; exact hq h C0
    · rw [if_neg z]
      rcases c4 with c4 | ⟨c4, cd⟩
      · rw [if_pos c4]; exact hq h C0
      · rw [if_neg (by rw [c4]; decide)]
        apply c_sign T c6 c1 c2 c3
        rw [e_lv, lvS T]
        have l9 : lvN (sg p) = 9 := by
          unfold dgB at cd
          simp only [decide_eq_true_eq] at cd
          unfold lvN
          rw [if_neg (by omega), if_neg (by omega), if_neg (by omega), if_neg (by omega), if_neg (by omega)]
        rw [if_pos l9, if_neg (show ¬ (-1 : Int32) = nI k from fun q => nm1 (by omega) q.symm)]
        exact hq h C0
  · unfold fX9_chain_21
    have C0 := C
    obtain ⟨c1, c2, c3, c4, c5, c6⟩ := C
    rw [c1, if_neg (nI_ge (by omega) (by omega)), if_neg (show ¬ gI h 18 4 = 0 by rw [c3]; decide)]
    apply c_sign T c6 c1 c2 hp
    rw [e_lv, lvS T]
    obtain ⟨f1, rfl⟩ : ∃ f1, f' = f1 + 1 := ⟨f' - 1, by omega⟩
    have pe : prs sg (f1 + 1) (10 + k) op pos = if lvN (sg pos) = k then bnd (prs sg f1 (k + 1) op (pos + 1)) (fun p1 s1 => if k = 2 then (p1, some (s1 ++ [(nI (sg pos), (0 : Int32))])) else bnd (prs sg f1 (10 + k) op p1) (fun p2 s2 => (p2, some (s1 ++ (nI (sg pos), (0 : Int32)) :: s2)))) else (pos, some []) := by
      rw [prs, if_neg (by omega), if_neg (by omega), show 10 + k - 10 = k by omega, show 10 + k - 9 = k + 1 by omega]
      have : (10 + k = 12) = (k = 2) := by apply propext; omega
      simp only [this]
    rw [pe] at hok hfa
    by_cases z : lvN (sg pos) = k
    · rw [if_neg (show ¬ lvN (sg pos) = 9 by omega), if_pos (show nI (lvN (sg pos)) = nI k by rw [z])]
      rw [if_pos z] at hok hfa
      apply c_sign T c6 c1 c2 hp
      have pn := lvl_lt T.end z (by omega)
      have sv : sgI sg n pos = nI (sg pos) := by unfold sgI; rw [if_pos pn]
      rw [sv]
      simp only [forall_eq, nI_1]
      refine (ih f1 (by omega) (k + 1) op (pos + 1) st _ _ nd (by omega) ho (by omega) (by omega) (by rw [← c2] at *; exact C0.step) (by omega) ?_ ?_).1 hd
      · intro p1 s1 e1 h' C'
        rw [e1] at hok hfa
        obtain ⟨a1, a2, a3, a4, a5⟩ := (prs_ok T.end f1 (k + 1) op (pos + 1) (Or.inl (by omega)) (by omega)).1 p1 s1 e1
        rw [rf_18_0]
        apply c_addP C' (by rw [List.length_append]; omega)
        intro h8 C8
        by_cases k2 : k = 2
        · rw [if_pos (show nI k = 2 by rw [k2]; rfl)]
          refine hok p1 (s1 ++ [(nI (sg pos), (0 : Int32))]) (by simp [bnd, k2]) h8 ?_
          rw [← List.append_assoc]
          exact C8
        · rw [if_neg (show ¬ nI k = 2 from fun q => k2 ((nI_eq (b := 2) (by omega) (by omega)).mp q))]
          have a6 := a4 (by omega)
          refine hK _ _ (Or.inr ⟨i + 1, f1, p1, _, rfl, by omega, a2, C8, by rw [List.length_append, List.length_append]; simp; omega, by omega, by omega, ?_, ?_⟩) ?_
          · intro p2 s2 e2 h9 C9
            refine hok p2 (s1 ++ (nI (sg pos), (0 : Int32)) :: s2) (by simp [bnd, k2, e2]) h9 ?_
            rw [List.append_assoc, List.append_assoc] at C9
            exact C9
          · intro p2 e2 h9 C9
            exact hfa p2 (by simp [bnd, k2, e2]) h9 C9
          · rw [C8.2.1, c2, nI_clamp (by omega), nI_clamp (by omega)]
            omega
      · intro p1 e1 h' C'
        rw [e1] at hok hfa
        obtain ⟨a1, a2⟩ := (prs_ok T.end f1 (k + 1) op (pos + 1) (Or.inl (by omega)) (by omega)).2 p1 e1
        rw [rf_18_0]
        apply c_addS C'
        intro h8 C8
        by_cases k2 : k = 2
        · rw [if_pos (show nI k = 2 by rw [k2]; rfl)]
          exact hfa p1 rfl h8 C8
        · rw [if_neg (show ¬ nI k = 2 from fun q => k2 ((nI_eq (b := 2) (by omega) (by omega)).mp q))]
          refine hK _ _ (Or.inl ⟨p1, C8, fun h9 C9 => hfa p1 rfl h9 C9⟩) ?_
          rw [C8.2.1, c2, nI_clamp (by omega), nI_clamp (by omega)]
          omega
    · have nz : ¬ (if lvN (sg pos) = 9 then -1 else nI (lvN (sg pos))) = nI k := by
        intro q
        by_cases l9 : lvN (sg pos) = 9
        · rw [if_pos l9] at q
          exact nm1 (by omega) q.symm
        · rw [if_neg l9] at q
          have l5 : lvN (sg pos) ≤ 9 := by
            unfold lvN
            repeat' split
            all_goals omega
          exact z ((nI_eq (by omega) (by omega)).mp q)
      rw [if_neg nz]
      rw [if_neg z] at hok
      refine hok pos [] rfl h ?_
      rw [List.append_nil]
      exact C0
/-- an operand -/
theorem c_operand (T : TP h0 n sg) {f op pos : Nat} {st : List Sp2} {h : Hp} {Q : Hp → Prop} {nd : Nat} (ih : ∀ m, m < f → SC h0 n sg m) (ho : op ≤ 6) (hp : pos ≤ n) (hr : 20 * (n + 1 - pos) + 12 - 2 * 5 ≤ f) (C : CP h0 n pos st h) (hl : st.length ≤ pos) (hok : okK h0 n st (prs sg f 5 op pos) Q) (hfa : faK h0 n sg (prs sg f 5 op pos) Q) (hd : 8 * (6 - op) + 2 ≤ nd) : (wG0 nd).2.1 18 (nI op) h Q := by
  have n120 := T.1
  obtain ⟨f1, rfl⟩ : ∃ f1, f = f1 + 1 := ⟨f - 1, by omega⟩
  obtain ⟨nd1, rfl⟩ : ∃ nd1, nd = nd1 + 1 := ⟨nd - 1, by omega⟩
  show bX9_operand (wG0 nd1) 18 (nI op) h Q
  unfold bX9_operand
  have C0 := C
  obtain ⟨c1, c2, c3, c4, c5, c6⟩ := C
  rw [prs, if_neg (by omega), if_pos rfl] at hok hfa
  apply c_sign T c6 c1 c2 hp
  rw [e_dg, dgS T]
  cases d : dgB (sg pos)
  · rw [if_pos (by decide), e_nm, nmS T]
    rw [if_neg (by rw [d]; decide)] at hok hfa
    unfold nmV
    cases en : nmN (sg pos) with
    | some j =>
      obtain ⟨l1, l2⟩ := nm_lt T.end en
      rw [en] at hok hfa
      dsimp only
      rw [if_neg (nm1 (by omega)), e_nm, nmS T, rf_18_0]
      unfold nmV
      rw [en]
      apply c_addP C0 (by omega)
      intro h8 C8
      simp only [forall_eq]
      exact hok _ _ rfl _ C8.step
    | none =>
      rw [en] at hok hfa
      dsimp only at hok hfa ⊢
      rw [if_pos rfl]
      simp only [forall_eq]
      by_cases o6 : 6 ≤ op
      · rw [if_pos (show (6 : Int32) ≤ nI op from nI_le (a := 6) o6 (by omega))]
        rw [if_neg (by omega), if_neg (by omega)] at hfa
        exact hfa pos rfl _ (C0.fault hp (by omega))
      · rw [if_neg (show ¬ (6 : Int32) ≤ nI op from nI_ge (b := 6) (by omega) (by omega))]
        have e40 : sgI sg n pos = 40 ↔ sg pos = 40 := sgE T pos (c := 40) (by omega)
        have e33 : sgI sg n pos = 33 ↔ sg pos = 33 := sgE T pos (c := 33) (by omega)
        have e45 : sgI sg n pos = 45 ↔ sg pos = 45 := sgE T pos (c := 45) (by omega)
        obtain ⟨nd2, rfl⟩ : ∃ nd2, nd1 = nd2 + 1 := ⟨nd1 - 1, by omega⟩
        have pn : (sg pos = 40 ∨ sg pos = 33 ∨ sg pos = 45) → pos < n := by
          intro q
          rcases Nat.lt_or_ge pos n with z | z
          · exact z
          · have := T.2.2 pos z; omega
        -- ! and -
        have un : (sg pos = 33 ∨ sg pos = 45) → jX9_operand_76 18 (nI op) (sgI sg n pos) h (wG0 (nd2 + 1)) Q := by
          intro q
          have pl := pn (by omega)
          rw [if_pos ⟨by omega, q⟩] at hok hfa
          unfold jX9_operand_76
          simp only [forall_eq, nI_1]
          show bX9_opened (wG0 nd2) 18 (sgI sg n pos) (nI (op + 1)) _ _
          unfold bX9_opened
          rw [if_neg (fun z => by have := e40.mp z; omega)]
          refine (ih f1 (by omega) 5 (op + 1) (pos + 1) st _ _ nd2 (by omega) (by omega) (by omega) (by omega) C0.step (by omega) ?_ ?_).2 rfl (by omega)
          · intro p1 s1 e1 h' C'
            rw [e1] at hok
            obtain ⟨a1, a2, a3, a4, a5⟩ := (prs_ok T.end f1 5 (op + 1) (pos + 1) (Or.inl (by omega)) (by omega)).1 p1 s1 e1
            rw [rf_18_0]
            by_cases z : sg pos = 33
            · rw [if_pos (e33.mpr z)]
              apply c_addP C' (by rw [List.length_append]; omega)
              intro h8 C8
              rw [List.append_assoc] at C8
              exact hok p1 _ (by simp [bnd, z]) h8 C8
            · rw [if_neg (fun y => z (e33.mp y))]
              apply c_addP C' (by rw [List.length_append]; omega)
              intro h8 C8
              rw [List.append_assoc] at C8
              exact hok p1 _ (by simp [bnd, z]) h8 C8
          · intro p1 e1 h' C'
            rw [e1] at hfa
            rw [rf_18_0]
            by_cases z : sg pos = 33
            · rw [if_pos (e33.mpr z)]
              exact c_addS C' (fun h8 C8 => hfa p1 rfl h8 C8)
            · rw [if_neg (fun y => z (e33.mp y))]
              exact c_addS C' (fun h8 C8 => hfa p1 rfl h8 C8)
        by_cases z4 : sg pos = 40
        · rw [if_pos (e40.mpr z4)]
          have pl := pn (by omega)
          rw [if_neg (by omega), if_pos ⟨by omega, z4⟩] at hok hfa
          unfold jX9_operand_76
          simp only [forall_eq, nI_1]
          show bX9_opened (wG0 nd2) 18 (sgI sg n pos) (nI (op + 1)) _ _
          unfold bX9_opened
          rw [if_pos (e40.mpr z4)]
          refine (ih f1 (by omega) 0 (op + 1) (pos + 1) st _ _ nd2 (by omega) (by omega) (by omega) (by omega) C0.step (by omega) ?_ ?_).1 (by omega)
          · intro p1 s1 e1 h' C'
            rw [e1] at hok hfa
            obtain ⟨a1, a2, a3, a4, a5⟩ := (prs_ok T.end f1 0 (op + 1) (pos + 1) (Or.inl (by omega)) (by omega)).1 p1 s1 e1
            rw [if_neg (show ¬ gI h' 18 4 = 0 by rw [C'.2.2.1]; decide)]
            apply c_sign T C'.2.2.2.2.2 C'.1 C'.2.1 a2
            have e41 : sgI sg n p1 = 41 ↔ sg p1 = 41 := sgE T p1 (c := 41) (by omega)
            simp only [forall_eq]
            by_cases y : sg p1 = 41
            · rw [if_pos (e41.mpr y)]
              exact hok (p1 + 1) s1 (by simp [bnd, y]) _ C'.step
            · rw [if_neg (fun x => y (e41.mp x))]
              exact hfa p1 (by simp [bnd, y]) _ (C'.fault a2 (by rw [List.length_append]; omega))
          · intro p1 e1 h' C'
            rw [e1] at hfa
            simp only [forall_eq]
            rcases C'.2.2.2.1 with y | ⟨y, yd⟩
            · rw [if_pos y]
              exact hfa p1 rfl _ C'.fault
            · rw [if_neg (by rw [y]; decide)]
              apply c_sign T C'.2.2.2.2.2 C'.1 C'.2.1 C'.2.2.1
              have e41 : sgI sg n p1 = 41 ↔ sg p1 = 41 := sgE T p1 (c := 41) (by omega)
              rw [if_neg (fun x => by
                have := e41.mp x
                rw [this] at yd
                exact absurd yd (by decide))]
              exact hfa p1 rfl _ C'.fault
        · rw [if_neg (fun x => z4 (e40.mp x))]
          by_cases z3 : sg pos = 33
          · rw [if_pos (e33.mpr z3)]
            exact un (Or.inl z3)
          · rw [if_neg (fun x => z3 (e33.mp x))]
            by_cases z5 : sg pos = 45
            · rw [if_pos (e45.mpr z5)]
              exact un (Or.inr z5)
            · rw [if_neg (fun x => z5 (e45.mp x))]
              rw [if_neg (by omega), if_neg (by omega)] at hfa
              exact hfa pos rfl _ (C0.fault hp (by omega))
  · rw [if_neg (by decide)]
    rw [if_pos d] at hok hfa
    obtain ⟨n1, n2, n3⟩ := nd4_spec sg pos d
    have last := dg_lt T.end (n2 (nd4 sg pos - 1) (by omega))
    apply c_num T C0 hp (by omega) d
    intro h' C'
    by_cases e : nd4 sg pos = 4 ∧ dgB (sg (pos + 4)) = true
    · rw [if_pos e] at hfa
      rw [e.1] at C'
      exact hfa (pos + 4) rfl h' (C'.stuck (by omega) (by rw [List.length_append]; simp; omega) e.2)
    · rw [if_neg e] at hok
      exact hok _ _ rfl h' C'
theorem SC_all (T : TP h0 n sg) : ∀ f, SC h0 n sg f := by
  intro f
  induction f using Nat.strongRecOn with
  | _ f ih =>
    intro k op pos st h Q nd hk ho hp hr C hl hok hfa
    have n120 := T.1
    have c2 : k = 5 → 8 * (6 - op) + 2 ≤ nd → (wG0 nd).2.1 18 (nI op) h Q := by
      intro k5 hd
      subst k5
      exact c_operand T ih ho hp hr C hl hok hfa hd
    refine ⟨fun hd => ?_, c2⟩
    obtain ⟨nd1, rfl⟩ : ∃ nd1, nd = nd1 + 1 := ⟨nd - 1, by omega⟩
    show bX9_chain (wG0 nd1) 18 (nI k) (nI op) h Q
    unfold bX9_chain
    by_cases k5 : k < 5
    · rw [if_pos (show nI k < 5 from nI_lt (b := 5) k5 (by omega)), nI_1]
      obtain ⟨f1, rfl⟩ : ∃ f1, f = f1 + 1 := ⟨f - 1, by omega⟩
      rw [prs, if_pos k5] at hok hfa
      refine (ih f1 (by omega) (k + 1) op pos st h _ nd1 (by omega) ho hp (by omega) C hl ?_ ?_).1 (by omega)
      · intro p1 s1 e1 h' C'
        rw [e1] at hok hfa
        obtain ⟨a1, a2, a3, a4, a5⟩ := (prs_ok T.end f1 (k + 1) op pos (Or.inl (by omega)) hp).1 p1 s1 e1
        have a6 := a4 (by omega)
        refine c_chain_lp T ih (by omega) ho (by omega) 0 h' (Or.inr ⟨0, f1, p1, st ++ s1, rfl, by omega, a2, C', by rw [List.length_append]; omega, by omega, by omega, ?_, ?_⟩)
        · intro p2 s2 e2 h9 C9
          rw [List.append_assoc] at C9
          exact hok p2 (s1 ++ s2) (by simp [bnd, e2]) h9 C9
        · intro p2 e2 h9 C9
          exact hfa p2 (by simp [bnd, e2]) h9 C9
      · intro p1 e1 h' C'
        rw [e1] at hfa
        exact c_chain_lp T ih (by omega) ho (by omega) 0 h' (Or.inl ⟨p1, C', fun h9 C9 => hfa p1 rfl h9 C9⟩)
    · have k5' : k = 5 := by omega
      subst k5'
      rw [if_neg (show ¬ nI 5 < 5 by decide)]
      exact c_operand T ih ho hp hr C hl hok hfa (by omega)
end
