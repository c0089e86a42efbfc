/-- steps worked out on a pile -/
def evl (nm : Nat → Int32) : List Sp2 → List Int32 → List Int32
  | [], st => st
  | s :: r, st =>
    if s.1 = 0 then evl nm r (s.2 :: st)
    else if s.1 = 1 then evl nm r (nm s.2.toNatClampNeg :: st)
    else match st with
      | [] => []
      | x :: t =>
        if s.1 = 2 then evl nm r (-x :: t)
        else if s.1 = 33 then evl nm r ((if x = 0 then 1 else 0) :: t)
        else match t with
          | [] => [x]
          | y :: u => evl nm r (jnV s.1 y x :: u)
theorem evl_c (nm : Nat → Int32) (s : Sp2) (r : List Sp2) (st : List Int32) : evl nm (s :: r) st =
    if s.1 = 0 then evl nm r (s.2 :: st)
    else if s.1 = 1 then evl nm r (nm s.2.toNatClampNeg :: st)
    else match st with
      | [] => []
      | x :: t =>
        if s.1 = 2 then evl nm r (-x :: t)
        else if s.1 = 33 then evl nm r ((if x = 0 then 1 else 0) :: t)
        else match t with
          | [] => [x]
          | y :: u => evl nm r (jnV s.1 y x :: u) := by
  rw [evl.eq_def]
theorem evl_n (nm : Nat → Int32) (st : List Int32) : evl nm [] st = st := by rw [evl.eq_def]
theorem op2_ne {a : Int32} (h : a ∈ ([37, 38, 42, 43, 45, 47, 60, 61, 62, 124] : List Int32)) : ¬ a = 63 ∧ ¬ a = 59 ∧ ¬ a = 3 ∧ ¬ a = 4 ∧ ¬ a = 2 ∧ ¬ a = 33 ∧ ¬ a = 0 ∧ ¬ a = 1 := by
  simp only [List.mem_cons, List.not_mem_nil, or_false] at h
  rcases h with rfl | rfl | rfl | rfl | rfl | rfl | rfl | rfl | rfl | rfl <;> decide
/-- what a step wants of the pile -/
theorem runs_cons {n m : Nat} {s : Sp2} {r : List Sp2} (h : runs n (s :: r) = some m) :
    (s.1 = 0 ∧ runs (n + 1) r = some m) ∨ (s.1 = 1 ∧ (∃ j, j < 6 ∧ s.2 = nI j) ∧ runs (n + 1) r = some m) ∨ ((s.1 = 33 ∨ s.1 = 2) ∧ 0 < n ∧ runs n r = some m) ∨ (s.1 ∈ ([37, 38, 42, 43, 45, 47, 60, 61, 62, 124] : List Int32) ∧ 2 ≤ n ∧ runs (n - 1) r = some m) := by
  rw [runs] at h
  by_cases c0 : s.1 = 0
  · rw [if_pos c0] at h; exact Or.inl ⟨c0, h⟩
  · rw [if_neg c0] at h
    by_cases c1 : s.1 = 1
    · rw [if_pos c1] at h
      by_cases d : s.2 < 0 ∨ 6 ≤ s.2
      · rw [if_pos d] at h; exact absurd h (by simp)
      · rw [if_neg d] at h
        refine Or.inr (Or.inl ⟨c1, ?_, h⟩)
        rcases pk_ix s.2 (n := 6) (by omega) with q | q | ⟨j, q1, q2⟩
        · exact absurd (Or.inl q) d
        · exact absurd (Or.inr q) d
        · exact ⟨j, q1, q2⟩
    · rw [if_neg c1] at h
      by_cases c2 : s.1 = 33 ∨ s.1 = 2
      · rw [if_pos c2] at h
        by_cases d : n = 0
        · rw [if_pos d] at h; exact absurd h (by simp)
        · rw [if_neg d] at h; exact Or.inr (Or.inr (Or.inl ⟨c2, by omega, h⟩))
      · rw [if_neg c2] at h
        by_cases c3 : s.1 ∈ ([37, 38, 42, 43, 45, 47, 60, 61, 62, 124] : List Int32)
        · rw [if_pos c3] at h
          by_cases d : n < 2
          · rw [if_pos d] at h; exact absurd h (by simp)
          · rw [if_neg d] at h; exact Or.inr (Or.inr (Or.inr ⟨c3, by omega, h⟩))
        · rw [if_neg c3] at h; exact absurd h (by simp)
theorem runs_wf : ∀ (l : List Sp2) (n m : Nat), runs n l = some m → ∀ s ∈ l, s.1 = 1 → ∃ j, j < 6 ∧ s.2 = nI j
  | [], _, _, _, s, hs, _ => absurd hs (by simp)
  | s0 :: r, n, m, h, s, hs, h1 => by
    rcases List.mem_cons.mp hs with rfl | hs
    · rcases runs_cons h with ⟨q, _⟩ | ⟨_, q, _⟩ | ⟨q, _⟩ | ⟨q, _⟩
      · rw [q] at h1; exact absurd h1 (by decide)
      · exact q
      · rcases q with q | q <;> (rw [q] at h1; exact absurd h1 (by decide))
      · exact absurd h1 (op2_ne q).2.2.2.2.2.2.2
    · rcases runs_cons h with ⟨_, q⟩ | ⟨_, _, q⟩ | ⟨_, _, q⟩ | ⟨_, _, q⟩ <;> exact runs_wf r _ _ q s hs h1
theorem cm_ev (nm : Nat → Int32) (r : List Sp2) (f : Int32) : ∀ (L : List Sp2) (st : List Int32) (m : Nat), runs st.length L = some m → cmR nm (L ++ r) st f = cmR nm r (evl nm L st) f ∧ (evl nm L st).length = m
  | [], st, m, h => ⟨rfl, by rw [evl_n]; rw [runs] at h; exact Option.some.inj h⟩
  | s :: L, st, m, h => by
    rw [List.cons_append, cmR_c, evl_c]
    rcases runs_cons h with ⟨c, q⟩ | ⟨c, _, q⟩ | ⟨c, n0, q⟩ | ⟨c, n0, q⟩
    · rw [if_pos c, if_pos c]
      exact cm_ev nm r f L (s.2 :: st) m q
    · have c0 : ¬ s.1 = 0 := by rw [c]; decide
      rw [if_neg c0, if_neg c0, if_pos c, if_pos c]
      exact cm_ev nm r f L (_ :: st) m q
    · have c0 : ¬ s.1 = 0 := by rcases c with c | c <;> (rw [c]; decide)
      have c1 : ¬ s.1 = 1 := by rcases c with c | c <;> (rw [c]; decide)
      rw [if_neg c0, if_neg c0, if_neg c1, if_neg c1]
      cases st with
      | nil => exact absurd n0 (by simp)
      | cons x t =>
        dsimp only
        rcases c with c | c
        · have c2 : ¬ s.1 = 2 := by rw [c]; decide
          rw [if_neg c2, if_neg c2, if_pos c, if_pos c]
          exact cm_ev nm r f L (_ :: t) m q
        · rw [if_pos c, if_pos c]
          exact cm_ev nm r f L (_ :: t) m q
    · obtain ⟨z1, z2, z3, z4, z5, z6, z7, z8⟩ := op2_ne c
      rw [if_neg z7, if_neg z7, if_neg z8, if_neg z8]
      cases st with
      | nil => exact absurd n0 (by simp)
      | cons x t =>
        cases t with
        | nil => exact absurd n0 (by simp)
        | cons y u =>
          dsimp only
          rw [if_neg z5, if_neg z5, if_neg z6, if_neg z6, if_neg z1, if_neg z2]
          exact cm_ev nm r f L (_ :: u) m q
def hd0 (l : List Int32) : Int32 := l.headD 0
/-- what a text gives -/
def valP (nm : Nat → Int32) : Lns → Int32
  | [] => 0
  | l :: r => if l.1 = [] then hd0 (evl nm l.2 []) else if hd0 (evl nm l.1 []) = 0 then valP nm r else hd0 (evl nm l.2 [])
theorem one_of {l : List Int32} (h : l.length = 1) : l = [hd0 l] := by
  match l, h with
  | [x], _ => rfl
theorem cmv_eq (nm : Nat → Int32) : ∀ P : Lns, (∀ l ∈ P, lnOK l) → cmR nm (P.flatMap lnC) [] 1 = valP nm P
  | [], _ => rfl
  | l :: r, h => by
    have ih := cmv_eq nm r (fun l hl => h l (List.mem_cons_of_mem _ hl))
    obtain ⟨h2, h1⟩ := h l List.mem_cons_self
    rw [List.flatMap_cons, valP, lnC]
    obtain ⟨e1, e2⟩ := cm_ev nm ([((59 : Int32), (0 : Int32))] ++ r.flatMap lnC) 1 l.2 [] 1 h2
    have e3 := one_of e2
    by_cases c : l.1 = []
    · rw [if_pos c, if_pos c, List.nil_append, List.append_assoc, e1, e3, List.cons_append, cmR_c]
      rw [if_neg (by decide), if_neg (by decide)]
      dsimp only
      rw [if_neg (by decide), if_neg (by decide), if_neg (by decide), if_pos rfl, if_neg (by decide)]
      rfl
    · rw [if_neg c, if_neg c]
      obtain ⟨e4, e5⟩ := cm_ev nm ([((63 : Int32), (0 : Int32))] ++ (l.2 ++ ([((59 : Int32), (0 : Int32))] ++ r.flatMap lnC))) 1 l.1 [] 1 (h1.resolve_left c)
      have e6 := one_of e5
      rw [List.append_assoc, List.append_assoc, List.append_assoc, e4, e6, List.cons_append, cmR_c]
      rw [if_neg (by decide), if_neg (by decide)]
      dsimp only
      rw [if_neg (by decide), if_neg (by decide), if_pos rfl, List.nil_append]
      obtain ⟨e7, e8⟩ := cm_ev nm ([((59 : Int32), (0 : Int32))] ++ r.flatMap lnC) (hd0 (evl nm l.1 [])) l.2 [] 1 h2
      rw [e7, e3, List.cons_append, cmR_c]
      rw [if_neg (by decide), if_neg (by decide)]
      dsimp only
      rw [if_neg (by decide), if_neg (by decide), if_neg (by decide), if_pos rfl]
      rw [List.nil_append, ih]
      rfl
/-- the reference works out steps -/
theorem m_worked {h0 : Hp} {w b : Nat} {L : List Sp2} (hw : w < 2) (hb : b + L.length ≤ 130) (hL : ∀ k s, L[k]? = some s → gI h0 66 (130 * w + b + k) = (encS s).1 ∧ gI h0 67 (130 * w + b + k) = (encS s).2) (hr : runs 0 L = some 1) {e : Nat} (he : e = b + L.length) {Q : Int32 → Hp → Prop}
    (hQ : ∀ h, fr1 72 h0 h → Q (hd0 (evl (rI h0 71) L [])) h) : wX12_worked 55 (nI w) (nI b) (nI e) h0 Q := by
  subst he
  unfold wX12_worked
  obtain ⟨V, hV⟩ : ∃ V, V = evl (rI h0 71) L [] := ⟨_, rfl⟩
  rw [← hV] at hQ
  simp only [forall_eq]
  rw [show (130 : Int32) * nI w + nI b = nI (130 * w + b) by simp (disch := omega) only [lit, nI_ltI, nI_leI, nI_eq, nI_clamp, nI_add, vp_nI, nI_ne_neg, neg_ne_nI, pk_sub, pk_mul, pk_div, Nat.reduceAdd, Nat.reduceMul, Nat.reducePow, e_mn, e_mx, e_rm, lt_t, lt_f, le_t, le_f, eq_f, eq_t, ↓reduceIte, true_and, and_true, and_false, false_and, and_self, or_true, or_false, true_or, false_or, not_true, not_false_iff]]
  refine iX12_worked_12 (I := fun x4 x5 h => ∃ (k : Nat) (st : List Int32), x4 = nI st.length ∧ x5 = nI (130 * w + b + k) ∧ k ≤ L.length ∧ st.length ≤ k ∧ stk h 72 st ∧ fr1 72 h0 h ∧ evl (rI h0 71) (L.drop k) st = V ∧ runs st.length (L.drop k) = some 1) (μ := fun _ x5 _ => 130 * w + b + L.length - x5.toNatClampNeg) ?_ 0 (nI (130 * w + b)) h0 ⟨0, [], rfl, rfl, by omega, by simp, trivial, fr1.refl _ _, hV.symm, hr⟩
  rintro x4 x5 h ⟨k, st, rfl, rfl, hk, hst, S, F, E, hrk⟩ K hK
  unfold fX12_worked_12
  rw [show (130 : Int32) * nI w + nI (b + L.length) = nI (130 * w + (b + L.length)) by simp (disch := omega) only [lit, nI_ltI, nI_leI, nI_eq, nI_clamp, nI_add, vp_nI, nI_ne_neg, neg_ne_nI, pk_sub, pk_mul, pk_div, Nat.reduceAdd, Nat.reduceMul, Nat.reducePow, e_mn, e_mx, e_rm, lt_t, lt_f, le_t, le_f, eq_f, eq_t, ↓reduceIte, true_and, and_true, and_false, false_and, and_self, or_true, or_false, true_or, false_or, not_true, not_false_iff]]
  by_cases c : L.length ≤ k
  · rw [if_pos (nI_le (by omega) (by omega))]
    rw [List.drop_eq_nil_of_le c] at E hrk
    rw [evl_n] at E
    rw [runs] at hrk
    refine ⟨(vp_nI (n := 130) (a := 0) (by omega)).mpr (by omega), ?_⟩
    have := Option.some.inj hrk
    match st, this, S, E with
    | [x], _, S, E =>
      rw [show gI h (rf 55 29) (0 : Int32).toNatClampNeg = x from S.1]
      have := hQ h F
      rw [← E] at this
      exact this
  · rw [if_neg (nI_ge (by omega) (by omega))]
    obtain ⟨s, hs'⟩ := get_lt (show k < L.length by omega)
    rw [drop_cons hs'] at E hrk
    obtain ⟨o1, g1⟩ := hL k s hs'
    rw [← F.1 66 _ (by decide)] at o1
    rw [← F.1 67 _ (by decide)] at g1
    have vk : vp_in (nI (130 * w + b + k)) 390 := (vp_nI (by omega)).mpr (by omega)
    have kl : (nI (130 * w + b + k)).toNatClampNeg = 130 * w + b + k := nI_clamp (by omega)
    have nx : ∀ (st' : List Int32) (h' : Hp), st'.length ≤ k + 1 → stk h' 72 st' → fr1 72 h0 h' → evl (rI h0 71) (L.drop (k + 1)) st' = V → runs st'.length (L.drop (k + 1)) = some 1 → K (nI st'.length) (nI (130 * w + b + k + 1)) h' := by
      intro st' h' q1 q2 q3 q4 q5
      exact hK _ _ _ ⟨k + 1, st', rfl, rfl, by omega, q1, q2, q3, q4, q5⟩ (by rw [nI_clamp (by omega), kl]; omega)
    have sl : (nI st.length).toNatClampNeg = st.length := nI_clamp (by omega)
    simp only [jX12_worked_45, rf_55_23, rf_55_24, rf_55_28, rf_55_29, ln_66, ln_67, ln_71, ln_72, kl, o1, g1, forall_eq, nI_1, sl]
    refine ⟨vk, ?_⟩
    rw [evl_c] at E
    rcases runs_cons hrk with ⟨c, q⟩ | ⟨c, ⟨j, hj, ej⟩, q⟩ | ⟨c, n0, q⟩ | ⟨c, n0, q⟩
    · have en : encS s = (1, s.2) := by unfold encS; rw [if_pos c]
      rw [if_pos c] at E
      rw [en, if_pos rfl, if_pos rfl]
      refine ⟨vk, (vp_nI (by omega)).mpr (by omega), ?_⟩
      exact nx (s.2 :: st) _ (by simp; omega) ⟨by rw [gI_sI, if_pos ⟨rfl, rfl⟩], stk_set st S (Nat.le_refl _)⟩ (F.set _ _) E q
    · have c0 : ¬ s.1 = 0 := by rw [c]; decide
      have en : encS s = (2, s.2) := by unfold encS; rw [if_neg c0, if_pos c]
      rw [if_neg c0, if_pos c, ej, nI_clamp (show j < 2 ^ 31 by omega)] at E
      rw [en]
      dsimp only
      rw [if_neg (by decide), if_pos rfl, if_neg (by decide), ej, nI_clamp (show j < 2 ^ 31 by omega)]
      refine ⟨vk, (vp_nI (by omega)).mpr hj, (vp_nI (by omega)).mpr (by omega), ?_⟩
      rw [F.1 71 j (by decide)]
      exact nx (rI h0 71 j :: st) _ (by simp; omega) ⟨by rw [gI_sI, if_pos ⟨rfl, rfl⟩]; rfl, stk_set st S (Nat.le_refl _)⟩ (F.set _ _) E q
    · have c0 : ¬ s.1 = 0 := by rcases c with c | c <;> (rw [c]; decide)
      have c1 : ¬ s.1 = 1 := by rcases c with c | c <;> (rw [c]; decide)
      rw [if_neg c0, if_neg c1] at E
      cases st with
      | nil => exact absurd n0 (by simp)
      | cons x t =>
        obtain ⟨S1, S2⟩ := S
        have hst : t.length + 1 ≤ k := hst
        dsimp only at E
        have p1 : nI (x :: t).length - 1 = nI t.length := nI_pred t.length
        have tl : (nI t.length).toNatClampNeg = t.length := nI_clamp (by omega)
        have vt : vp_in (nI t.length) 130 := (vp_nI (by omega)).mpr (by omega)
        rcases c with c | c
        · have c2 : ¬ s.1 = 2 := by rw [c]; decide
          have en : encS s = (3, 0) := by unfold encS; rw [if_neg c0, if_neg c1, if_pos c]
          rw [if_neg c2, if_pos c] at E
          rw [en, if_neg (by decide), if_neg (by decide), if_pos rfl]
          simp only [p1, tl, S1]
          refine ⟨vt, ?_⟩
          by_cases x0 : x = 0
          · rw [if_pos x0] at E ⊢
            exact ⟨vt, nx (1 :: t) _ (by simp; omega) ⟨by rw [gI_sI, if_pos ⟨rfl, rfl⟩], stk_set t S2 (Nat.le_refl _)⟩ (F.set _ _) E q⟩
          · rw [if_neg x0] at E ⊢
            exact ⟨vt, nx (0 :: t) _ (by simp; omega) ⟨by rw [gI_sI, if_pos ⟨rfl, rfl⟩], stk_set t S2 (Nat.le_refl _)⟩ (F.set _ _) E q⟩
        · have c3 : ¬ s.1 = 33 := by rw [c]; decide
          have en : encS s = (4, 0) := by unfold encS; rw [if_neg c0, if_neg c1, if_neg c3, if_pos c]
          rw [if_pos c] at E
          rw [en, if_neg (by decide), if_neg (by decide), if_neg (by decide), if_pos rfl]
          simp only [p1, tl, S1]
          exact ⟨vt, vt, nx (-x :: t) _ (by simp; omega) ⟨by rw [gI_sI, if_pos ⟨rfl, rfl⟩], stk_set t S2 (Nat.le_refl _)⟩ (F.set _ _) E q⟩
    · obtain ⟨z1, z2, z3, z4, z5, z6, z7, z8⟩ := op2_ne c
      have en : encS s = s := by unfold encS; rw [if_neg z7, if_neg z8, if_neg z6, if_neg z5]
      rw [if_neg z7, if_neg z8] at E
      rw [en, if_neg z8, if_neg z5, if_neg z3, if_neg z4]
      cases st with
      | nil => exact absurd n0 (by simp)
      | cons x t =>
        cases t with
        | nil => exact absurd n0 (by simp)
        | cons y u =>
          obtain ⟨S1, T1, T2⟩ := S
          have hst : u.length + 1 + 1 ≤ k := hst
          dsimp only at E
          rw [if_neg z5, if_neg z6] at E
          have p2 : nI (x :: y :: u).length + -1 = nI (u.length + 1) := pk_m1 (u.length + 1)
          have p3 : nI (u.length + 1) - 1 = nI u.length := nI_pred u.length
          have ul : (nI u.length).toNatClampNeg = u.length := nI_clamp (by omega)
          have tl : (nI (u.length + 1)).toNatClampNeg = u.length + 1 := nI_clamp (by omega)
          have vu : vp_in (nI u.length) 130 := (vp_nI (by omega)).mpr (by omega)
          have vt : vp_in (nI (u.length + 1)) 130 := (vp_nI (by omega)).mpr (by omega)
          simp only [p2, p3, ul, tl, T1, show gI h 72 (u.length + 1) = x from S1]
          refine ⟨vu, vt, ?_⟩
          apply m_twoOf c
          exact ⟨vu, nx (jnV s.1 y x :: u) _ (by simp; omega) ⟨by rw [gI_sI, if_pos ⟨rfl, rfl⟩], stk_set u T2 (Nat.le_refl _)⟩ (F.set _ _) E q⟩
