section
variable {hb : Hp} {n : Nat} {sg : Nat → Nat}
theorem MS.opn {p z : Nat} {h : Hp} (M : MS hb n p z h) (v : Int32) : MS hb n p z (sI h 55 21 v) := by
  obtain ⟨m1, m2, m3, m4, ⟨y, m5, m6⟩, m7⟩ := M
  exact ⟨by simp only [forall_eq, gI_sI, gI_sL, gL_sI, gL_sL, gI_cpI, gL_cpI, gI_cpL, gL_cpL, Nat.reduceEqDiff, Nat.reduceAdd, Nat.reduceSub, cl0, cl1, cl12, cl39, and_false, false_and, and_true, true_and, and_self, ↓reduceIte]; exact m1, by simp only [forall_eq, gI_sI, gI_sL, gL_sI, gL_sL, gI_cpI, gL_cpI, gI_cpL, gL_cpL, Nat.reduceEqDiff, Nat.reduceAdd, Nat.reduceSub, cl0, cl1, cl12, cl39, and_false, false_and, and_true, true_and, and_self, ↓reduceIte]; exact m2, by simp only [forall_eq, gI_sI, gI_sL, gL_sI, gL_sL, gI_cpI, gL_cpI, gI_cpL, gL_cpL, Nat.reduceEqDiff, Nat.reduceAdd, Nat.reduceSub, cl0, cl1, cl12, cl39, and_false, false_and, and_true, true_and, and_self, ↓reduceIte]; exact m3, m4, ⟨y, m5, by simp only [forall_eq, gI_sI, gI_sL, gL_sI, gL_sL, gI_cpI, gL_cpI, gI_cpL, gL_cpL, Nat.reduceEqDiff, Nat.reduceAdd, Nat.reduceSub, cl0, cl1, cl12, cl39, and_false, false_and, and_true, true_and, and_self, ↓reduceIte]; exact m6⟩, m7.set 55 21 _ rfl⟩
theorem MP.close {pos op : Nat} {st : List Sp2} {h : Hp} (M : MP hb n pos (op + 1) st h) : MP hb n pos op st (sI h 55 21 (gI h 55 21 - 1)) := by
  obtain ⟨m1, m2, m3, m4, m5, m6, m7⟩ := M
  exact ⟨by simp only [forall_eq, gI_sI, gI_sL, gL_sI, gL_sL, gI_cpI, gL_cpI, gI_cpL, gL_cpL, Nat.reduceEqDiff, Nat.reduceAdd, Nat.reduceSub, cl0, cl1, cl12, cl39, and_false, false_and, and_true, true_and, and_self, ↓reduceIte]; exact m1, by simp only [forall_eq, gI_sI, gI_sL, gL_sI, gL_sL, gI_cpI, gL_cpI, gI_cpL, gL_cpL, Nat.reduceEqDiff, Nat.reduceAdd, Nat.reduceSub, cl0, cl1, cl12, cl39, and_false, false_and, and_true, true_and, and_self, ↓reduceIte]; exact m2, by simp only [forall_eq, gI_sI, gI_sL, gL_sI, gL_sL, gI_cpI, gL_cpI, gI_cpL, gL_cpL, Nat.reduceEqDiff, Nat.reduceAdd, Nat.reduceSub, cl0, cl1, cl12, cl39, and_false, false_and, and_true, true_and, and_self, ↓reduceIte]; exact m3, by simp only [forall_eq, gI_sI, gI_sL, gL_sI, gL_sL, gI_cpI, gL_cpI, gI_cpL, gL_cpL, Nat.reduceEqDiff, Nat.reduceAdd, Nat.reduceSub, cl0, cl1, cl12, cl39, and_false, false_and, and_true, true_and, and_self, ↓reduceIte, m4]; exact nI_pred op, by simp only [forall_eq, gI_sI, gI_sL, gL_sI, gL_sL, gI_cpI, gL_cpI, gI_cpL, gL_cpL, Nat.reduceEqDiff, Nat.reduceAdd, Nat.reduceSub, cl0, cl1, cl12, cl39, and_false, false_and, and_true, true_and, and_self, ↓reduceIte]; exact m5, fun k s hk => by simp only [forall_eq, gI_sI, gI_sL, gL_sI, gL_sL, gI_cpI, gL_cpI, gI_cpL, gL_cpL, Nat.reduceEqDiff, Nat.reduceAdd, Nat.reduceSub, cl0, cl1, cl12, cl39, and_false, false_and, and_true, true_and, and_self, ↓reduceIte]; exact m6 k s hk, m7.set 55 21 _ rfl⟩
theorem m_opens {pos op : Nat} {st : List Sp2} {h : Hp} (M : MP hb n pos op st h) (hp : pos ≤ n) (ho : op ≤ 6) {Q : Int32 → Hp → Prop} (h1 : op < 6 → ∀ h', MP hb n (pos + 1) (op + 1) st h' → Q 1 h') (h2 : ¬ op < 6 → ∀ h', MS hb n pos st.length h' → Q 0 h') : wX12_opens 55 h Q := by
  unfold wX12_opens
  rw [M.2.2.2.1]
  by_cases c : op < 6
  · rw [if_neg (show ¬ nI op = 6 from fun q => by have := (nI_eq (b := 6) (by omega) (by omega)).mp q; omega)]
    simp only [forall_eq, nI_1]
    apply h1 c
    obtain ⟨m1, m2, m3, m4, m5, m6, m7⟩ := M
    exact ⟨by simp only [forall_eq, gI_sI, gI_sL, gL_sI, gL_sL, gI_cpI, gL_cpI, gI_cpL, gL_cpL, Nat.reduceEqDiff, Nat.reduceAdd, Nat.reduceSub, cl0, cl1, cl12, cl39, and_false, false_and, and_true, true_and, and_self, ↓reduceIte]; exact m1, by simp only [forall_eq, gI_sI, gI_sL, gL_sI, gL_sL, gI_cpI, gL_cpI, gI_cpL, gL_cpL, Nat.reduceEqDiff, Nat.reduceAdd, Nat.reduceSub, cl0, cl1, cl12, cl39, and_false, false_and, and_true, true_and, and_self, ↓reduceIte, m2]; exact nI_1 _, by simp only [forall_eq, gI_sI, gI_sL, gL_sI, gL_sL, gI_cpI, gL_cpI, gI_cpL, gL_cpL, Nat.reduceEqDiff, Nat.reduceAdd, Nat.reduceSub, cl0, cl1, cl12, cl39, and_false, false_and, and_true, true_and, and_self, ↓reduceIte]; exact m3, by simp only [forall_eq, gI_sI, gI_sL, gL_sI, gL_sL, gI_cpI, gL_cpI, gI_cpL, gL_cpL, Nat.reduceEqDiff, Nat.reduceAdd, Nat.reduceSub, cl0, cl1, cl12, cl39, and_false, false_and, and_true, true_and, and_self, ↓reduceIte], by simp only [forall_eq, gI_sI, gI_sL, gL_sI, gL_sL, gI_cpI, gL_cpI, gI_cpL, gL_cpL, Nat.reduceEqDiff, Nat.reduceAdd, Nat.reduceSub, cl0, cl1, cl12, cl39, and_false, false_and, and_true, true_and, and_self, ↓reduceIte]; exact m5, fun k s hk => by simp only [forall_eq, gI_sI, gI_sL, gL_sI, gL_sL, gI_cpI, gL_cpI, gI_cpL, gL_cpL, Nat.reduceEqDiff, Nat.reduceAdd, Nat.reduceSub, cl0, cl1, cl12, cl39, and_false, false_and, and_true, true_and, and_self, ↓reduceIte]; exact m6 k s hk, (m7.set 55 21 _ rfl).set 55 19 _ rfl⟩
  · rw [if_pos (show nI op = 6 by rw [show op = 6 by omega]; rfl)]
    exact m_faultP M hp (h2 c)
theorem nmV_neg {c : Nat} (h : nmN c = none) : nmV c = -1 := by unfold nmV; rw [h]
theorem nmV_pos {c j : Nat} (h : nmN c = some j) : nmV c = nI j := by unfold nmV; rw [h]
theorem dg_no {c : Nat} (h : dgB c = true) : nmN c = none ∧ c ≠ 33 ∧ c ≠ 45 ∧ c ≠ 40 := by
  unfold dgB at h
  simp only [decide_eq_true_eq] at h
  refine ⟨?_, by omega, by omega, by omega⟩
  unfold nmN
  rw [if_neg (by omega), if_neg (by omega), if_neg (by omega), if_neg (by omega), if_neg (by omega), if_neg (by omega)]
theorem nm_no {c j : Nat} (h : nmN c = some j) : dgB c = false := by
  cases d : dgB c
  · rfl
  · rw [(dg_no d).1] at h; exact absurd h (by simp)
theorem m_operand (T : TM2 hb n sg) {f op pos : Nat} {st : List Sp2} {h : Hp} {Q : Hp → Prop} {nd : Nat} (ih : ∀ m, m < f → SMr hb n sg m) (ho : op ≤ 6) (hp : pos ≤ n) (hr : 20 * (n + 1 - pos) + 12 - 2 * 5 ≤ f) (M : MP hb n pos op st h) (hl : st.length ≤ pos) (hok : okM hb n op st (prs sg f 5 op pos) Q) (hfa : faM hb n st.length pos (prs sg f 5 op pos) Q) (hd : 6 * (6 - op) + 6 - 5 ≤ nd) : gk 5 (wG2 nd) 55 h Q := by
  have n120 := T.1
  obtain ⟨f1, rfl⟩ : ∃ f1, f = f1 + 1 := ⟨f - 1, by omega⟩
  obtain ⟨nd1, rfl⟩ : ∃ nd1, nd = nd1 + 1 := ⟨nd - 1, by omega⟩
  show bX12_operand (wG2 nd1) 55 h Q
  unfold bX12_operand
  obtain ⟨m1, m2, m3, m4, m5, m6, m7⟩ := id M
  rw [prs, if_neg (by omega), if_pos rfl] at hok hfa
  apply m_look T m7 m1 m2 hp
  rw [e_nmM, nmMS T]
  have s33 : sgM sg n pos = 33 ↔ sg pos = 33 := sgME T pos (c := 33) (by omega)
  have s45 : sgM sg n pos = 45 ↔ sg pos = 45 := sgME T pos (c := 45) (by omega)
  have s40 : sgM sg n pos = 40 ↔ sg pos = 40 := sgME T pos (c := 40) (by omega)
  cases en : nmN (sg pos) with
  | some j =>
    obtain ⟨l1, l2⟩ := nm_lt T.end en
    rw [nmV_pos en, if_neg (nI_pos (by omega)), e_nmM, nmMS T, nmV_pos en]
    rw [if_neg (by rw [nm_no en]; decide), en] at hok
    refine m_addP M (s := ((1 : Int32), nI j)) (by omega) (by rw [enc1]; exact b82) (by rw [enc1]) (fun h8 M8 => ?_)
    simp only [forall_eq]
    exact hok _ _ rfl _ M8.step
  | none =>
    rw [nmV_neg en, if_pos (by decide)]
    -- ! and -
    have un : (sg pos = 33 ∨ sg pos = 45) → jX12_operand_46 55 (sgM sg n pos) h (wG2 nd1) Q := by
      intro q
      have dg : dgB (sg pos) = false := by
        cases d : dgB (sg pos)
        · rfl
        · have := dg_no d; omega
      rw [if_neg (by rw [dg]; decide), en] at hok hfa
      dsimp only at hok hfa
      unfold jX12_operand_46 jX12_operand_80
      refine m_opens M hp ho (fun o6 h2 M2 => ?_) (fun o6 h2 M2 => ?_)
      · rw [if_neg (by decide)]
        rw [if_pos ⟨o6, q⟩] at hok hfa
        have pn : pos < n := by
          rcases Nat.lt_or_ge pos n with z | z
          · exact z
          · have := T.2.2 pos z; omega
        have key := ih f1 (by omega) 5 (op + 1) (pos + 1) st h2 (fun h4 => ∀ h5 : Hp, h5 = sI h4 55 21 ((gI h4 55 21) - (1 : Int32)) → (if sgM sg n pos = (33 : Int32) then (wX12_addStep 55 3 0 h5 (fun h2 => Q h2)) else (wX12_addStep 55 4 0 h5 (fun h2 => Q h2)))) nd1 (by omega) (by omega) (by omega) (by omega) M2 (by omega) ?_ ?_ (by omega)
        · exact key
        · intro p1 s1 e1 h' M'
          rw [e1] at hok
          obtain ⟨a1, a2, a3, a4, a5⟩ := (prs_ok T.end f1 5 (op + 1) (pos + 1) (Or.inl (by omega)) (by omega)).1 p1 s1 e1
          simp only [forall_eq]
          by_cases z : sg pos = 33
          · rw [if_pos (s33.mpr z)]
            refine m_addP M'.close (s := ((33 : Int32), (0 : Int32))) (by rw [List.length_append]; omega) (by decide) (by decide) (fun h8 M8 => ?_)
            rw [List.append_assoc] at M8
            exact hok p1 _ (by simp [bnd, z]) h8 M8
          · rw [if_neg (fun y => z (s33.mp y))]
            refine m_addP M'.close (s := ((2 : Int32), (0 : Int32))) (by rw [List.length_append]; omega) (by decide) (by decide) (fun h8 M8 => ?_)
            rw [List.append_assoc] at M8
            exact hok p1 _ (by simp [bnd, z]) h8 M8
        · intro p1 e1 h' M'
          rw [e1] at hfa
          obtain ⟨a1, a2⟩ := (prs_ok T.end f1 5 (op + 1) (pos + 1) (Or.inl (by omega)) (by omega)).2 p1 e1
          simp only [forall_eq]
          have M9 := M'.opn (gI h' 55 21 - 1)
          by_cases z : sg pos = 33
          · rw [if_pos (s33.mpr z)]
            exact m_addS M9 (by omega) (fun h8 M8 => hfa p1 rfl h8 (M8.mono (by omega)))
          · rw [if_neg (fun y => z (s33.mp y))]
            exact m_addS M9 (by omega) (fun h8 M8 => hfa p1 rfl h8 (M8.mono (by omega)))
      · rw [if_pos rfl]
        rw [if_neg (by omega), if_neg (by omega)] at hfa
        exact hfa pos rfl h2 (M2.mono (by omega))
    by_cases z3 : sg pos = 33
    · rw [if_pos (s33.mpr z3)]
      exact un (Or.inl z3)
    · rw [if_neg (fun y => z3 (s33.mp y))]
      by_cases z5 : sg pos = 45
      · rw [if_pos (s45.mpr z5)]
        exact un (Or.inr z5)
      · rw [if_neg (fun y => z5 (s45.mp y))]
        by_cases z4 : sg pos = 40
        · rw [if_pos (s40.mpr z4)]
          have dg : dgB (sg pos) = false := by
            cases d : dgB (sg pos)
            · rfl
            · have := dg_no d; omega
          rw [if_neg (by rw [dg]; decide), en] at hok hfa
          dsimp only at hok hfa
          rw [if_neg (by omega)] at hok hfa
          refine m_opens M hp ho (fun o6 h2 M2 => ?_) (fun o6 h2 M2 => ?_)
          · rw [if_neg (by decide)]
            rw [if_pos ⟨o6, z4⟩] at hok hfa
            have pn : pos < n := by
              rcases Nat.lt_or_ge pos n with z | z
              · exact z
              · have := T.2.2 pos z; omega
            have key := ih f1 (by omega) 0 (op + 1) (pos + 1) st h2 (fun h8 => if (gI h8 55 20) < 0 then (wX12_look 55 h8 (fun v9 => if v9 = (41 : Int32) then (∀ h10 : Hp, h10 = sI h8 55 19 ((gI h8 55 19) + (1 : Int32)) → (∀ h11 : Hp, h11 = sI h10 55 21 ((gI h10 55 21) - (1 : Int32)) → (Q h11))) else (wX12_faulty 55 h8 (fun h13 => Q h13)))) else (Q h8)) nd1 (by omega) (by omega) (by omega) (by omega) M2 (by omega) ?_ ?_ (by omega)
            · exact key
            · intro p1 s1 e1 h' M'
              rw [e1] at hok hfa
              obtain ⟨a1, a2, a3, a4, a5⟩ := (prs_ok T.end f1 0 (op + 1) (pos + 1) (Or.inl (by omega)) (by omega)).1 p1 s1 e1
              rw [if_pos (show gI h' 55 20 < 0 by rw [M'.2.2.1]; decide)]
              apply m_look T M'.2.2.2.2.2.2 M'.1 M'.2.1 a2
              have s41 : sgM sg n p1 = 41 ↔ sg p1 = 41 := sgME T p1 (c := 41) (by omega)
              by_cases y : sg p1 = 41
              · rw [if_pos (s41.mpr y)]
                simp only [forall_eq]
                exact hok (p1 + 1) s1 (by simp [bnd, y]) _ M'.step.close
              · rw [if_neg (fun x => y (s41.mp x))]
                refine m_faultP M' a2 (fun h9 M9 => hfa p1 (by simp [bnd, y]) h9 (M9.mono ?_))
                rw [List.length_append]
                omega
            · intro p1 e1 h' M'
              rw [e1] at hfa
              obtain ⟨a1, a2⟩ := (prs_ok T.end f1 0 (op + 1) (pos + 1) (Or.inl (by omega)) (by omega)).2 p1 e1
              rw [if_neg (show ¬ gI h' 55 20 < 0 by rw [M'.2.2.1]; exact nI_pos (by omega))]
              exact hfa p1 rfl h' (M'.mono (by omega))
          · rw [if_pos rfl]
            rw [if_neg (by omega)] at hfa
            exact hfa pos rfl h2 (M2.mono (by omega))
        · rw [if_neg (fun y => z4 (s40.mp y))]
          refine m_figure T M hp hl (fun d ne h' M' => ?_) (fun d ye h' M' => ?_) (fun d h' M' => ?_)
          · rw [if_pos d, if_neg ne] at hok
            exact hok _ _ rfl h' M'
          · rw [if_pos d, if_pos ye] at hfa
            exact hfa _ rfl h' (M'.mono (by omega))
          · rw [if_neg (by rw [d]; decide), en] at hfa
            dsimp only at hfa
            rw [if_neg (by omega), if_neg (by omega)] at hfa
            exact hfa pos rfl h' (M'.mono (by omega))
theorem m_first (T : TM2 hb n sg) {f k op pos : Nat} {st : List Sp2} {h : Hp} {Q : Hp → Prop} {nd : Nat} {fb : (Hp → Prop) → Hp → Prop} (ih : ∀ m, m < f + 1 → SMr hb n sg m) (hk : k ≤ 4) (k2 : k ≠ 2) (ho : op ≤ 6) (hp : pos ≤ n) (hr : 20 * (n + 1 - pos) + 12 - 2 * k ≤ f + 1) (M : MP hb n pos op st h) (hl : st.length ≤ pos) (hok : okM hb n op st (prs sg (f + 1) k op pos) Q) (hfa : faM hb n st.length pos (prs sg (f + 1) k op pos) Q) (hd : 6 * (6 - op) + 6 - k ≤ nd + 1) (B : lpB hb n sg fb k (wG2 nd) Q) : gk (k + 1) (wG2 nd) 55 h (fun h2 => ∃ N, lpN fb N h2) := by
  have n120 := T.1
  rw [prs, if_pos (by omega)] at hok hfa
  refine ih f (by omega) (k + 1) op pos st h _ nd (by omega) ho hp (by omega) M hl ?_ ?_ (by omega)
  · intro p1 s1 e1 h' M'
    rw [e1] at hok hfa
    obtain ⟨a1, a2, a3, a4, a5⟩ := (prs_ok T.end f (k + 1) op pos (Or.inl (by omega)) hp).1 p1 s1 e1
    have a6 := a4 (by omega)
    refine m_loop T ih hk k2 ho (by omega) B h' (Or.inr ⟨f, p1, st ++ s1, a2, M', by rw [List.length_append]; omega, by omega, by omega, ?_, ?_⟩)
    · intro p2 s2 e2 h9 M9
      rw [List.append_assoc] at M9
      exact hok p2 (s1 ++ s2) (by simp [bnd, e2]) h9 M9
    · intro p2 e2 h9 M9
      have := (prs_ok T.end f (10 + k) op p1 (Or.inr ⟨by omega, by omega⟩) a2).2 p2 e2
      refine hfa p2 (by simp [bnd, e2]) h9 (M9.mono ?_)
      rw [List.length_append]
      omega
  · intro p1 e1 h' M'
    rw [e1] at hfa
    exact m_loop T ih hk k2 ho (by omega) B h' (Or.inl ⟨p1, _, M', hfa p1 rfl h' M'⟩)
theorem SMr_all (T : TM2 hb n sg) : ∀ f, SMr hb n sg f := by
  intro f
  induction f using Nat.strongRecOn with
  | _ f ih =>
    intro k op pos st h Q nd hk ho hp hr M hl hok hfa hd
    have n120 := T.1
    obtain ⟨f1, rfl⟩ : ∃ f1, f = f1 + 1 := ⟨f - 1, by omega⟩
    obtain ⟨nd1, rfl⟩ : ∃ nd1, nd = nd1 + 1 := ⟨nd - 1, by omega⟩
    rcases (show k = 0 ∨ k = 1 ∨ k = 2 ∨ k = 3 ∨ k = 4 ∨ k = 5 by omega) with rfl | rfl | rfl | rfl | rfl | rfl
    · exact m_first T ih (by omega) (by omega) ho hp hr M hl hok hfa hd (B_either T (wG2 nd1) Q)
    · exact m_first T ih (by omega) (by omega) ho hp hr M hl hok hfa hd (B_both T (wG2 nd1) Q)
    · show bX12_compared (wG2 nd1) 55 h Q
      unfold bX12_compared
      rw [prs, if_pos (by omega)] at hok hfa
      have key := ih f1 (by omega) 3 op pos st h (fun h2 => wX12_look 55 h2 (fun v3 => if 0 ≤ (gI h2 55 20) then (Q h2) else (if v3 = (60 : Int32) then (jX12_compared_35 55 v3 h2 (wG2 nd1) Q) else (if v3 = (61 : Int32) then (jX12_compared_35 55 v3 h2 (wG2 nd1) Q) else (if v3 = (62 : Int32) then (jX12_compared_35 55 v3 h2 (wG2 nd1) Q) else (Q h2)))))) nd1 (by omega) ho hp (by omega) M hl ?_ ?_ (by omega)
      · exact key
      · intro p1 s1 e1 h' M'
        rw [e1] at hok hfa
        obtain ⟨a1, a2, a3, a4, a5⟩ := (prs_ok T.end f1 3 op pos (Or.inl (by omega)) hp).1 p1 s1 e1
        have a6 := a4 (by omega)
        apply m_look T M'.2.2.2.2.2.2 M'.1 M'.2.1 a2
        rw [if_neg (f20 M')]
        obtain ⟨f2, rfl⟩ : ∃ f2, f1 = f2 + 1 := ⟨f1 - 1, by omega⟩
        have pe : prs sg (f2 + 1) (10 + 2) op p1 = if lvN (sg p1) = 2 then bnd (prs sg f2 3 op (p1 + 1)) (fun p2 s2 => (p2, some (s2 ++ [(nI (sg p1), (0 : Int32))]))) else (p1, some []) := by
          rw [prs, if_neg (by omega), if_neg (by omega)]
          simp only [Nat.reduceAdd, Nat.reduceSub, ↓reduceIte]
        by_cases z : lvN (sg p1) = 2
        · have jn : jX12_compared_35 55 (sgM sg n p1) h' (wG2 nd1) Q := by
            unfold jX12_compared_35
            simp only [forall_eq]
            have pn := lvl_lt T.end z (by omega)
            have ino := lv_op z (by omega)
            have e3 : encS (nI (sg p1), (0 : Int32)) = (nI (sg p1), (0 : Int32)) := encO ino
            have l := lv2.mp z
            have b8s : b8 (sgM sg n p1) = nI (sg p1) := b8_lit (by omega) ((sgME T p1 (by omega)).mpr rfl)
            have key2 := ih f2 (by omega) 3 op (p1 + 1) (st ++ s1) _ (fun h3 => wX12_addStep 55 (sgM sg n p1) 0 h3 (fun h5 => Q h5)) nd1 (by omega) ho (by omega) (by omega) M'.step (by rw [List.length_append]; omega) ?_ ?_ (by omega)
            · exact key2
            · intro p2 s2 e2 h9 M9
              obtain ⟨c1, c2, c3, c4, c5⟩ := (prs_ok T.end f2 3 op (p1 + 1) (Or.inl (by omega)) (by omega)).1 p2 s2 e2
              refine m_addP M9 (s := (nI (sg p1), (0 : Int32))) (by rw [List.length_append, List.length_append]; omega) (by rw [e3]; exact b8s) (by rw [e3]) (fun h8 M8 => ?_)
              rw [List.append_assoc, List.append_assoc] at M8
              exact hok p2 (s1 ++ (s2 ++ [(nI (sg p1), (0 : Int32))])) (by show bnd (prs sg (f2 + 1) (10 + 2) op p1) _ = _; rw [pe, if_pos z, e2]; rfl) h8 M8
            · intro p2 e2 h9 M9
              obtain ⟨c1, c2⟩ := (prs_ok T.end f2 3 op (p1 + 1) (Or.inl (by omega)) (by omega)).2 p2 e2
              rw [List.length_append] at M9
              refine m_addS M9 (by omega) (fun h8 M8 => hfa p2 (by show bnd (prs sg (f2 + 1) (10 + 2) op p1) _ = _; rw [pe, if_pos z, e2]; rfl) h8 (M8.mono (by omega)))
          have l := lv2.mp z
          by_cases z0 : sg p1 = 60
          · rw [if_pos (show sgM sg n p1 = 60 from (sgME T p1 (c := 60) (by omega)).mpr z0)]; exact jn
          · rw [if_neg (show ¬ sgM sg n p1 = 60 from fun y => z0 ((sgME T p1 (c := 60) (by omega)).mp y))]
            by_cases z1 : sg p1 = 61
            · rw [if_pos (show sgM sg n p1 = 61 from (sgME T p1 (c := 61) (by omega)).mpr z1)]; exact jn
            · rw [if_neg (show ¬ sgM sg n p1 = 61 from fun y => z1 ((sgME T p1 (c := 61) (by omega)).mp y))]
              rw [if_pos (show sgM sg n p1 = 62 from (sgME T p1 (c := 62) (by omega)).mpr (by omega))]
              exact jn
        · have nl2 : ¬ (sg p1 = 60 ∨ sg p1 = 61 ∨ sg p1 = 62) := fun q => z (lv2.mpr q)
          rw [if_neg (show ¬ sgM sg n p1 = 60 from fun y => nl2 (Or.inl ((sgME T p1 (c := 60) (by omega)).mp y)))]
          rw [if_neg (show ¬ sgM sg n p1 = 61 from fun y => nl2 (Or.inr (Or.inl ((sgME T p1 (c := 61) (by omega)).mp y))))]
          rw [if_neg (show ¬ sgM sg n p1 = 62 from fun y => nl2 (Or.inr (Or.inr ((sgME T p1 (c := 62) (by omega)).mp y))))]
          exact hok p1 (s1 ++ []) (by show bnd (prs sg (f2 + 1) (10 + 2) op p1) _ = _; rw [pe, if_neg z]; rfl) h' (by rw [List.append_nil]; exact M')
      · intro p1 e1 h' M'
        rw [e1] at hfa
        apply m_look T M'.2.2.2.2.2 M'.1 M'.2.1 M'.2.2.2.1
        rw [if_pos (f20s n120 M')]
        exact hfa p1 rfl h' M'
    · exact m_first T ih (by omega) (by omega) ho hp hr M hl hok hfa hd (B_oneSum T (wG2 nd1) Q)
    · exact m_first T ih (by omega) (by omega) ho hp hr M hl hok hfa hd (B_product T (wG2 nd1) Q)
    · exact m_operand T ih ho hp hr M hl hok hfa hd
end
