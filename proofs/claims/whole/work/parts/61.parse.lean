def okM (hb : Hp) (n op : Nat) (st : List Sp2) (r : RS) (Q : Hp → Prop) : Prop := ∀ p s, r = (p, some s) → ∀ h', MP hb n p op (st ++ s) h' → Q h'
def faM (hb : Hp) (n z pos : Nat) (r : RS) (Q : Hp → Prop) : Prop := ∀ p, r = (p, none) → ∀ h', MS hb n p (z + (p - pos) + 1) h' → Q h'
def gk (k : Nat) (r : TG2) : Nat → Hp → (Hp → Prop) → Prop := if k = 0 then r.2.2.2.2.2 else if k = 1 then r.2.2.2.2.1 else if k = 2 then r.2.2.2.1 else if k = 3 then r.2.2.1 else if k = 4 then r.2.1 else r.1
def SMr (hb : Hp) (n : Nat) (sg : Nat → Nat) (f : Nat) : Prop := ∀ (k op pos : Nat) (st : List Sp2) (h : Hp) (Q : Hp → Prop) (nd : Nat), k ≤ 5 → op ≤ 6 → pos ≤ n → 20 * (n + 1 - pos) + 12 - 2 * k ≤ f → MP hb n pos op st h → st.length ≤ pos → okM hb n op st (prs sg f k op pos) Q → faM hb n st.length pos (prs sg f k op pos) Q → 6 * (6 - op) + 6 - k ≤ nd → gk k (wG2 nd) 55 h Q
section
variable {hb : Hp} {n : Nat} {sg : Nat → Nat}
/-- the body of a level's loop -/
def lpB (hb : Hp) (n : Nat) (sg : Nat → Nat) (fb : (Hp → Prop) → Hp → Prop) (k : Nat) (r : TG2) (Q : Hp → Prop) : Prop :=
  (∀ h K p z, MS hb n p z h → Q h → fb K h) ∧ (∀ h K pos op st, MP hb n pos op st h → pos ≤ n → lvN (sg pos) ≠ k → Q h → fb K h) ∧
  ∀ h K pos op st, MP hb n pos op st h → pos ≤ n → lvN (sg pos) = k → (∀ b, b8 b = nI (sg pos) → gk (k + 1) r 55 (sI h 55 19 (gI h 55 19 + 1)) (fun h4 => wX12_addStep 55 b 0 h4 (fun h6 => K h6))) → fb K h
theorem m_loop (T : TM2 hb n sg) {f k op nd : Nat} (ih : ∀ m, m < f → SMr hb n sg m) (hk : k ≤ 4) (k2 : k ≠ 2) (ho : op ≤ 6) (hd : 6 * (6 - op) + 6 - (k + 1) ≤ nd) {Q : Hp → Prop} {fb : (Hp → Prop) → Hp → Prop} (B : lpB hb n sg fb k (wG2 nd) Q) (h1 : Hp)
    (hI : (∃ p z, MS hb n p z h1 ∧ Q h1) ∨ ∃ f' pos st, pos ≤ n ∧ MP hb n pos op st h1 ∧ st.length ≤ pos ∧ f' < f ∧ 20 * (n + 1 - pos) + 1 ≤ f' ∧ okM hb n op st (prs sg f' (10 + k) op pos) Q ∧ faM hb n st.length pos (prs sg f' (10 + k) op pos) Q) : ∃ N, lpN fb N h1 := by
  have n120 := T.1
  refine lp_ind (fun h => (∃ p z, MS hb n p z h ∧ Q h) ∨ ∃ f' pos st, pos ≤ n ∧ MP hb n pos op st h ∧ st.length ≤ pos ∧ f' < f ∧ 20 * (n + 1 - pos) + 1 ≤ f' ∧ okM hb n op st (prs sg f' (10 + k) op pos) Q ∧ faM hb n st.length pos (prs sg f' (10 + k) op pos) Q) (fun h => n + 1 - (gI h 55 19).toNatClampNeg) ?_ h1 hI
  rintro h (⟨p, z, M, q⟩ | ⟨f', pos, st, hp, M, hl, hf', hr, hok, hfa⟩) K hK
  · exact B.1 h K p z M q
  · obtain ⟨f1, rfl⟩ : ∃ f1, f' = f1 + 1 := ⟨f' - 1, by omega⟩
    have pe : prs sg (f1 + 1) (10 + k) op pos = if lvN (sg pos) = k then bnd (prs sg f1 (k + 1) op (pos + 1)) (fun p1 s1 => if k = 2 then (p1, some (s1 ++ [(nI (sg pos), (0 : Int32))])) else bnd (prs sg f1 (10 + k) op p1) (fun p2 s2 => (p2, some (s1 ++ (nI (sg pos), (0 : Int32)) :: s2)))) else (pos, some []) := by
      rw [prs, if_neg (by omega), if_neg (by omega), show 10 + k - 10 = k by omega, show 10 + k - 9 = k + 1 by omega]
      have : (10 + k = 12) = (k = 2) := by apply propext; omega
      simp only [this]
    rw [pe] at hok hfa
    by_cases z : lvN (sg pos) = k
    · rw [if_pos z] at hok hfa
      have pn := lvl_lt T.end z (by omega)
      have ino := lv_op z (by omega)
      apply B.2.2 h K pos op st M hp z
      intro b hb8
      have m2 := M.2.1
      refine ih f1 (by omega) (k + 1) op (pos + 1) st _ _ nd (by omega) ho (by omega) (by omega) M.step (by omega) ?_ ?_ hd
      · intro p1 s1 e1 h' M'
        rw [e1] at hok hfa
        obtain ⟨a1, a2, a3, a4, a5⟩ := (prs_ok T.end f1 (k + 1) op (pos + 1) (Or.inl (by omega)) (by omega)).1 p1 s1 e1
        have a6 := a4 (by omega)
        have e3 : encS (nI (sg pos), (0 : Int32)) = (nI (sg pos), (0 : Int32)) := encO ino
        apply m_addP M' (s := (nI (sg pos), (0 : Int32))) (by rw [List.length_append]; omega) (by rw [e3]; exact hb8) (by rw [e3])
        intro h8 M8
        refine hK _ (Or.inr ⟨f1, p1, _, a2, M8, by rw [List.length_append, List.length_append]; simp; omega, by omega, by omega, ?_, ?_⟩) ?_
        · intro p2 s2 e2 h9 M9
          refine hok p2 (s1 ++ (nI (sg pos), (0 : Int32)) :: s2) (by simp [bnd, k2, e2]) h9 ?_
          rw [List.append_assoc, List.append_assoc] at M9
          exact M9
        · intro p2 e2 h9 M9
          have := (prs_ok T.end f1 (10 + k) op p1 (Or.inr ⟨by omega, by omega⟩) a2).2 p2 e2
          refine hfa p2 (by simp [bnd, k2, e2]) h9 (M9.mono ?_)
          rw [List.length_append, List.length_append]
          simp
          omega
        · rw [M8.2.1, m2, nI_clamp (by omega), nI_clamp (by omega)]
          omega
      · intro p1 e1 h' M'
        rw [e1] at hfa
        obtain ⟨a1, a2⟩ := (prs_ok T.end f1 (k + 1) op (pos + 1) (Or.inl (by omega)) (by omega)).2 p1 e1
        apply m_addS M' (by omega)
        intro h8 M8
        refine hK _ (Or.inl ⟨p1, _, M8, hfa p1 rfl h8 (M8.mono (by omega))⟩) ?_
        rw [M8.2.1, m2, nI_clamp (by omega), nI_clamp (by omega)]
        omega
    · rw [if_neg z] at hok
      apply B.2.1 h K pos op st M hp z
      refine hok pos [] rfl h ?_
      rw [List.append_nil]
      exact M
theorem f20 {h : Hp} {pos op : Nat} {st : List Sp2} (M : MP hb n pos op st h) : ¬ 0 ≤ gI h 55 20 := by rw [M.2.2.1]; decide
theorem f20s {h : Hp} {p z : Nat} (hn : n ≤ 120) (M : MS hb n p z h) : 0 ≤ gI h 55 20 := by
  rw [M.2.2.1]
  have := M.2.2.2.1
  exact nI_pos' (by omega)
theorem lv0 {c : Nat} : lvN c = 0 ↔ c = 124 := by
  unfold lvN
  constructor
  · intro h
    by_cases e : c = 124
    · exact e
    · rw [if_neg e] at h
      repeat' split at h
      all_goals omega
  · intro h; rw [if_pos h]
theorem lv1 {c : Nat} : lvN c = 1 ↔ c = 38 := by
  unfold lvN
  constructor
  · intro h
    repeat' split at h
    all_goals omega
  · intro h; subst h; decide
theorem lv2 {c : Nat} : lvN c = 2 ↔ (c = 60 ∨ c = 61 ∨ c = 62) := by
  unfold lvN
  constructor
  · intro h
    repeat' split at h
    all_goals omega
  · rintro (h | h | h) <;> (subst h; decide)
theorem lv3 {c : Nat} : lvN c = 3 ↔ (c = 43 ∨ c = 45) := by
  unfold lvN
  constructor
  · intro h
    repeat' split at h
    all_goals omega
  · rintro (h | h) <;> (subst h; decide)
theorem lv4 {c : Nat} : lvN c = 4 ↔ (c = 42 ∨ c = 47 ∨ c = 37) := by
  unfold lvN
  constructor
  · intro h
    repeat' split at h
    all_goals omega
  · rintro (h | h | h) <;> (subst h; decide)
theorem b8_lit {c : Nat} (hc : c < 128) {x : Int32} (hx : x = nI c) : b8 x = nI c := by rw [hx]; exact b8_lo c hc
theorem B_either (T : TM2 hb n sg) (r : TG2) (Q : Hp → Prop) : lpB hb n sg (fun K s => fX12_either_4 55 r Q (fun h => K h) s) 0 r Q := by
  refine ⟨fun h K p z M q => ?_, fun h K pos op st M hp hz q => ?_, fun h K pos op st M hp hz q => ?_⟩
  · show fX12_either_4 55 r Q _ h
    unfold fX12_either_4
    rw [if_pos (f20s T.1 M)]; exact q
  · show fX12_either_4 55 r Q _ h
    unfold fX12_either_4
    rw [if_neg (f20 M)]
    apply m_look T M.2.2.2.2.2.2 M.1 M.2.1 hp
    rw [if_neg (show ¬ sgM sg n pos = 124 from fun z => hz (lv0.mpr ((sgME T pos (c := 124) (by omega)).mp z)))]
    exact q
  · show fX12_either_4 55 r Q _ h
    unfold fX12_either_4
    rw [if_neg (f20 M)]
    apply m_look T M.2.2.2.2.2.2 M.1 M.2.1 hp
    have e := lv0.mp hz
    rw [if_pos (show sgM sg n pos = 124 from (sgME T pos (c := 124) (by omega)).mpr e)]
    simp only [forall_eq]
    exact q 124 (by rw [e]; decide)
theorem B_both (T : TM2 hb n sg) (r : TG2) (Q : Hp → Prop) : lpB hb n sg (fun K s => fX12_both_4 55 r Q (fun h => K h) s) 1 r Q := by
  refine ⟨fun h K p z M q => ?_, fun h K pos op st M hp hz q => ?_, fun h K pos op st M hp hz q => ?_⟩
  · show fX12_both_4 55 r Q _ h
    unfold fX12_both_4
    rw [if_pos (f20s T.1 M)]; exact q
  · show fX12_both_4 55 r Q _ h
    unfold fX12_both_4
    rw [if_neg (f20 M)]
    apply m_look T M.2.2.2.2.2.2 M.1 M.2.1 hp
    rw [if_neg (show ¬ sgM sg n pos = 38 from fun z => hz (lv1.mpr ((sgME T pos (c := 38) (by omega)).mp z)))]
    exact q
  · show fX12_both_4 55 r Q _ h
    unfold fX12_both_4
    rw [if_neg (f20 M)]
    apply m_look T M.2.2.2.2.2.2 M.1 M.2.1 hp
    have e := lv1.mp hz
    rw [if_pos (show sgM sg n pos = 38 from (sgME T pos (c := 38) (by omega)).mpr e)]
    simp only [forall_eq]
    exact q 38 (by rw [e]; decide)
theorem B_oneSum (T : TM2 hb n sg) (r : TG2) (Q : Hp → Prop) : lpB hb n sg (fun K s => fX12_oneSum_4 55 r Q (fun h => K h) s) 3 r Q := by
  refine ⟨fun h K p z M q => ?_, fun h K pos op st M hp hz q => ?_, fun h K pos op st M hp hz q => ?_⟩
  · show fX12_oneSum_4 55 r Q _ h
    unfold fX12_oneSum_4
    rw [if_pos (f20s T.1 M)]; exact q
  · show fX12_oneSum_4 55 r Q _ h
    unfold fX12_oneSum_4
    rw [if_neg (f20 M)]
    apply m_look T M.2.2.2.2.2.2 M.1 M.2.1 hp
    rw [if_neg (show ¬ sgM sg n pos = 43 from fun z => hz (lv3.mpr (Or.inl ((sgME T pos (c := 43) (by omega)).mp z))))]
    apply m_look T M.2.2.2.2.2.2 M.1 M.2.1 hp
    rw [if_neg (show ¬ sgM sg n pos = 45 from fun z => hz (lv3.mpr (Or.inr ((sgME T pos (c := 45) (by omega)).mp z))))]
    exact q
  · show fX12_oneSum_4 55 r Q _ h
    have jn : jX12_oneSum_29 55 h r (fun h => K h) Q := by
      unfold jX12_oneSum_29
      apply m_look T M.2.2.2.2.2.2 M.1 M.2.1 hp
      simp only [forall_eq]
      refine q _ ?_
      have l := lv3.mp hz
      exact b8_lit (by omega) ((sgME T pos (by omega)).mpr rfl)
    unfold fX12_oneSum_4
    rw [if_neg (f20 M)]
    apply m_look T M.2.2.2.2.2.2 M.1 M.2.1 hp
    by_cases z : sg pos = 43
    · rw [if_pos (show sgM sg n pos = 43 from (sgME T pos (c := 43) (by omega)).mpr z)]; exact jn
    · rw [if_neg (show ¬ sgM sg n pos = 43 from fun y => z ((sgME T pos (c := 43) (by omega)).mp y))]
      apply m_look T M.2.2.2.2.2.2 M.1 M.2.1 hp
      rw [if_pos (show sgM sg n pos = 45 from (sgME T pos (c := 45) (by omega)).mpr ((lv3.mp hz).resolve_left z))]
      exact jn
theorem B_product (T : TM2 hb n sg) (r : TG2) (Q : Hp → Prop) : lpB hb n sg (fun K s => fX12_product_4 55 r Q (fun h => K h) s) 4 r Q := by
  refine ⟨fun h K p z M q => ?_, fun h K pos op st M hp hz q => ?_, fun h K pos op st M hp hz q => ?_⟩
  · show fX12_product_4 55 r Q _ h
    unfold fX12_product_4
    rw [if_pos (f20s T.1 M)]; exact q
  · show fX12_product_4 55 r Q _ h
    unfold fX12_product_4
    rw [if_neg (f20 M)]
    apply m_look T M.2.2.2.2.2.2 M.1 M.2.1 hp
    rw [if_neg (show ¬ sgM sg n pos = 42 from fun z => hz (lv4.mpr (Or.inl ((sgME T pos (c := 42) (by omega)).mp z))))]
    apply m_look T M.2.2.2.2.2.2 M.1 M.2.1 hp
    rw [if_neg (show ¬ sgM sg n pos = 47 from fun z => hz (lv4.mpr (Or.inr (Or.inl ((sgME T pos (c := 47) (by omega)).mp z)))))]
    apply m_look T M.2.2.2.2.2.2 M.1 M.2.1 hp
    rw [if_neg (show ¬ sgM sg n pos = 37 from fun z => hz (lv4.mpr (Or.inr (Or.inr ((sgME T pos (c := 37) (by omega)).mp z)))))]
    exact q
  · show fX12_product_4 55 r Q _ h
    have jn : jX12_product_38 55 h r (fun h => K h) Q := by
      unfold jX12_product_38
      apply m_look T M.2.2.2.2.2.2 M.1 M.2.1 hp
      simp only [forall_eq]
      refine q _ ?_
      have l := lv4.mp hz
      exact b8_lit (by omega) ((sgME T pos (by omega)).mpr rfl)
    unfold fX12_product_4
    rw [if_neg (f20 M)]
    apply m_look T M.2.2.2.2.2.2 M.1 M.2.1 hp
    by_cases z : sg pos = 42
    · rw [if_pos (show sgM sg n pos = 42 from (sgME T pos (c := 42) (by omega)).mpr z)]; exact jn
    · rw [if_neg (show ¬ sgM sg n pos = 42 from fun y => z ((sgME T pos (c := 42) (by omega)).mp y))]
      apply m_look T M.2.2.2.2.2.2 M.1 M.2.1 hp
      by_cases z2 : sg pos = 47
      · rw [if_pos (show sgM sg n pos = 47 from (sgME T pos (c := 47) (by omega)).mpr z2)]; exact jn
      · rw [if_neg (show ¬ sgM sg n pos = 47 from fun y => z2 ((sgME T pos (c := 47) (by omega)).mp y))]
        apply m_look T M.2.2.2.2.2.2 M.1 M.2.1 hp
        rw [if_pos (show sgM sg n pos = 37 from (sgME T pos (c := 37) (by omega)).mpr (((lv4.mp hz).resolve_left z).resolve_left z2))]
        exact jn
end
