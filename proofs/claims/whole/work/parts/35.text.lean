/-! a text worked out -/
def jnV (op a b : Int32) : Int32 :=
  if op = 37 then (if b = 0 then 0 else rm a b) else if op = 38 then (if a = 0 then 0 else if b = 0 then 0 else 1) else if op = 42 then a * b else if op = 43 then a + b else if op = 45 then a - b else if op = 47 then (if b = 0 then 0 else a / b) else if op = 60 then (if b ≤ a then 0 else 1) else if op = 61 then (if a = b then 1 else 0) else if op = 62 then (if a ≤ b then 0 else 1) else if op = 124 then (if a = 0 then (if b = 0 then 0 else 1) else 1) else 0
theorem c_joined (op a b : Int32) (h : Hp) {Q : Int32 → Prop} (hQ : Q (jnV op a b)) : wX5_joined op a b h Q := by
  unfold jnV at hQ
  simp only [apply_ite Q] at hQ
  unfold wX5_joined
  by_cases d : b = 0
  · simp only [if_pos d] at hQ ⊢
    exact hQ
  · simp only [if_neg d] at hQ ⊢
    simp only [d, not_false_eq_true, true_and]
    exact hQ
theorem div_m1 (a : Int32) : a / -1 = -a := Int32.toInt_inj.mp (by rw [Int32.toInt_div, show (-1 : Int32).toInt = -1 from rfl, Int.tdiv_neg, Int.tdiv_one, Int32.toInt_neg])
theorem rm_m1 (a : Int32) : rm a (-1) = 0 := by
  show a - a / -1 * -1 = 0
  rw [div_m1, Int32.mul_neg, Int32.mul_one, Int32.neg_neg, Int32.sub_self]
theorem m_twoOf {op : Int32} (ho : op ∈ ([37, 38, 42, 43, 45, 47, 60, 61, 62, 124] : List Int32)) (a b : Int32) (h : Hp) {Q : Int32 → Prop} (hQ : Q (jnV op a b)) : wX12_twoOf op a b h Q := by
  simp only [List.mem_cons, List.not_mem_nil, or_false] at ho
  unfold wX12_twoOf
  rcases ho with rfl | rfl | rfl | rfl | rfl | rfl | rfl | rfl | rfl | rfl
  · rw [if_pos rfl]
    unfold jnV at hQ
    rw [if_pos rfl] at hQ
    by_cases d : b = 0
    · rw [if_pos d] at hQ ⊢; exact hQ
    · rw [if_neg d] at hQ ⊢
      by_cases e : b = -1
      · rw [if_pos e]
        rw [e, rm_m1] at hQ
        exact hQ
      · rw [if_neg e]
        exact ⟨d, hQ⟩
  · unfold jnV at hQ
    simp only [apply_ite Q] at hQ
    repeat rw [if_neg (by decide)]
    repeat rw [if_neg (by decide)] at hQ
    rw [if_pos trivial] at hQ
    rw [if_pos rfl]
    exact hQ
  · unfold jnV at hQ
    repeat rw [if_neg (by decide)]
    exact hQ
  · unfold jnV at hQ
    repeat rw [if_neg (by decide)]
    exact hQ
  · unfold jnV at hQ
    repeat rw [if_neg (by decide)]
    exact hQ
  · unfold jnV at hQ
    repeat rw [if_neg (by decide)]
    repeat rw [if_neg (by decide)] at hQ
    rw [if_pos rfl] at hQ ⊢
    by_cases d : b = 0
    · rw [if_pos d] at hQ ⊢; exact hQ
    · rw [if_neg d] at hQ ⊢
      by_cases e : b = -1
      · rw [if_pos e]
        rw [e, div_m1] at hQ
        exact hQ
      · rw [if_neg e]
        exact ⟨d, hQ⟩
  · unfold jnV at hQ
    simp only [apply_ite Q] at hQ
    repeat rw [if_neg (by decide)]
    repeat rw [if_neg (by decide)] at hQ
    rw [if_pos trivial] at hQ
    rw [if_pos rfl]
    exact hQ
  · unfold jnV at hQ
    simp only [apply_ite Q] at hQ
    repeat rw [if_neg (by decide)]
    repeat rw [if_neg (by decide)] at hQ
    rw [if_pos trivial] at hQ
    rw [if_pos rfl]
    exact hQ
  · unfold jnV at hQ
    simp only [apply_ite Q] at hQ
    repeat rw [if_neg (by decide)]
    repeat rw [if_neg (by decide)] at hQ
    rw [if_pos trivial] at hQ
    rw [if_pos rfl]
    exact hQ
  · unfold jnV at hQ
    simp only [apply_ite Q] at hQ
    repeat rw [if_neg (by decide)]
    repeat rw [if_neg (by decide)] at hQ
    rw [if_pos trivial] at hQ
    exact hQ
/-- the class's machine, on a list -/
def cmR (nm : Nat → Int32) : List Sp2 → List Int32 → Int32 → Int32
  | [], _, _ => 0
  | s :: r, st, f =>
    if s.1 = 0 then cmR nm r (s.2 :: st) f
    else if s.1 = 1 then cmR nm r (nm s.2.toNatClampNeg :: st) f
    else match st with
      | [] => 0
      | x :: t =>
        if s.1 = 2 then cmR nm r (-x :: t) f
        else if s.1 = 33 then cmR nm r ((if x = 0 then 1 else 0) :: t) f
        else if s.1 = 63 then cmR nm r t x
        else if s.1 = 59 then (if f = 0 then cmR nm r t 1 else x)
        else match t with
          | [] => cmR nm r [x] f
          | y :: u => cmR nm r (jnV s.1 y x :: u) f
theorem cmR_c (nm : Nat → Int32) (s : Sp2) (r : List Sp2) (st : List Int32) (f : Int32) : cmR nm (s :: r) st f =
    if s.1 = 0 then cmR nm r (s.2 :: st) f
    else if s.1 = 1 then cmR nm r (nm s.2.toNatClampNeg :: st) f
    else match st with
      | [] => 0
      | x :: t =>
        if s.1 = 2 then cmR nm r (-x :: t) f
        else if s.1 = 33 then cmR nm r ((if x = 0 then 1 else 0) :: t) f
        else if s.1 = 63 then cmR nm r t x
        else if s.1 = 59 then (if f = 0 then cmR nm r t 1 else x)
        else match t with
          | [] => cmR nm r [x] f
          | y :: u => cmR nm r (jnV s.1 y x :: u) f := by
  rw [cmR.eq_def]
/-- a pile in a row, its top first -/
def stk (h : Hp) (c : Nat) : List Int32 → Prop
  | [] => True
  | x :: t => gI h c t.length = x ∧ stk h c t
theorem stk_set {h : Hp} {c k : Nat} {v : Int32} : ∀ st : List Int32, stk h c st → st.length ≤ k → stk (sI h c k v) c st
  | [], _, _ => trivial
  | x :: t, ⟨h1, h2⟩, hl => by
    have hl : t.length + 1 ≤ k := hl
    refine ⟨?_, stk_set t h2 (by omega)⟩
    rw [gI_sI, if_neg (by omega)]
    exact h1
def fr1 (c : Nat) (h0 h : Hp) : Prop := (∀ a k, a ≠ c → gI h a k = gI h0 a k) ∧ ∀ a k, gL h a k = gL h0 a k
theorem fr1.refl (c : Nat) (h : Hp) : fr1 c h h := ⟨fun _ _ _ => rfl, fun _ _ => rfl⟩
theorem fr1.set {c : Nat} {h0 h : Hp} (F : fr1 c h0 h) (k : Nat) (v : Int32) : fr1 c h0 (sI h c k v) := by
  refine ⟨fun a j ha => ?_, F.2⟩
  rw [gI_sI, if_neg (fun q => ha q.1)]
  exact F.1 a j ha
theorem drop_cons {α : Type} {l : List α} {k : Nat} {s : α} (h : l[k]? = some s) : l.drop k = s :: l.drop (k + 1) := by
  obtain ⟨h1, h2⟩ := List.getElem?_eq_some_iff.mp h
  rw [List.drop_eq_getElem_cons h1, h2]
theorem get_lt {α : Type} {l : List α} {k : Nat} (h : k < l.length) : ∃ s, l[k]? = some s := ⟨l[k], List.getElem?_eq_getElem h⟩
theorem c_value {h0 : Hp} {a0 o g sc : Nat} (ra : rf a0 0 = o ∧ rf a0 1 = g ∧ rf a0 2 = sc ∧ ln o = 121 ∧ ln g = 121 ∧ ln sc = 121) (rb : a0 ≠ sc ∧ o ≠ sc ∧ g ≠ sc ∧ 9 ≠ sc) {code : List Sp2} (hl : code.length ≤ 121) (hs : gI h0 a0 3 = nI code.length)
    (hc : ∀ k s, code[k]? = some s → gI h0 o k = s.1 ∧ gI h0 g k = s.2) (wf : ∀ s ∈ code, s.1 = 1 → ∃ j, j < 6 ∧ s.2 = nI j) {Q : Int32 → Hp → Prop}
    (hQ : ∀ h, fr1 sc h0 h → Q (cmR (rI h0 9) code [] 1) h) : wX5_value a0 9 h0 Q := by
  obtain ⟨r0, r1, r2, l0, l1, l2⟩ := ra
  obtain ⟨d0, d1, d2, d3⟩ := rb
  unfold wX5_value
  obtain ⟨V, hV⟩ : ∃ V, V = cmR (rI h0 9) code [] 1 := ⟨_, rfl⟩
  rw [← hV] at hQ
  refine iX5_value_7 (I := fun x2 x3 x4 h => ∃ (k : Nat) (st : List Int32), x2 = nI st.length ∧ x4 = nI k ∧ k ≤ code.length ∧ st.length ≤ k ∧ stk h sc st ∧ fr1 sc h0 h ∧ cmR (rI h0 9) (code.drop k) st x3 = V) (μ := fun _ _ x4 _ => code.length - x4.toNatClampNeg) ?_ 0 1 0 h0 ⟨0, [], rfl, rfl, by omega, by simp, trivial, fr1.refl _ _, hV.symm⟩
  rintro x2 x3 x4 h ⟨k, st, rfl, rfl, hk, hst, S, F, E⟩ K hK
  unfold fX5_value_7
  rw [F.1 a0 3 d0, hs]
  by_cases c : code.length ≤ k
  · rw [if_pos (nI_le c (by omega))]
    rw [List.drop_eq_nil_of_le c] at E
    rw [show (0 : Int32) = V from E]
    exact hQ h F
  · rw [if_neg (nI_ge (by omega) (by omega)), if_neg (show ¬ (121 : Int32) ≤ nI st.length from nI_ge (b := 121) (by omega) (by omega))]
    obtain ⟨s, hs'⟩ := get_lt (show k < code.length by omega)
    rw [drop_cons hs'] at E
    obtain ⟨o1, g1⟩ := hc k s hs'
    rw [← F.1 o k d1] at o1
    rw [← F.1 g k d2] at g1
    have vk : vp_in (nI k) 121 := (vp_nI (by omega)).mpr (by omega)
    have kl : (nI k).toNatClampNeg = k := nI_clamp (by omega)
    have nx : ∀ (st' : List Int32) (f' : Int32) (h' : Hp), st'.length ≤ k + 1 → stk h' sc st' → fr1 sc h0 h' → cmR (rI h0 9) (code.drop (k + 1)) st' f' = V → K (nI st'.length) f' (nI (k + 1)) h' := by
      intro st' f' h' q1 q2 q3 q4
      exact hK _ _ _ _ ⟨k + 1, st', rfl, rfl, by omega, q1, q2, q3, q4⟩ (by rw [nI_clamp (by omega), kl]; omega)
    simp only [r0, r1, r2, l0, l1, l2, kl, o1, g1, forall_eq, nI_1]
    refine ⟨vk, ?_⟩
    by_cases c0 : s.1 = 0
    · rw [if_pos c0]
      rw [cmR_c, if_pos c0] at E
      have sl : (nI st.length).toNatClampNeg = st.length := nI_clamp (by omega)
      refine ⟨vk, (vp_nI (by omega)).mpr (by omega), ?_⟩
      rw [sl]
      exact nx (s.2 :: st) x3 _ (by simp; omega) ⟨by rw [gI_sI, if_pos ⟨rfl, rfl⟩], stk_set st S (Nat.le_refl _)⟩ (F.set _ _) E
    · rw [if_neg c0]
      rw [cmR_c, if_neg c0] at E
      by_cases c1 : s.1 = 1
      · rw [if_pos c1]
        rw [if_pos c1] at E
        obtain ⟨j, hj, ej⟩ := wf s (List.mem_of_getElem? hs') c1
        have sl : (nI st.length).toNatClampNeg = st.length := nI_clamp (by omega)
        refine ⟨vk, ?_⟩
        rw [ej, if_neg (nI_pos (show j < 2 ^ 31 by omega))]
        refine ⟨vk, ?_⟩
        rw [show Int32.ofNat (ln 9) = nI 6 from rfl, if_neg (nI_ge hj (by omega)), nI_clamp (show j < 2 ^ 31 by omega), sl]
        rw [ej, nI_clamp (show j < 2 ^ 31 by omega)] at E
        refine ⟨vk, (vp_nI (by omega)).mpr hj, (vp_nI (by omega)).mpr (by omega), ?_⟩
        rw [F.1 9 j d3]
        exact nx (rI h0 9 j :: st) x3 _ (by simp; omega) ⟨by rw [gI_sI, if_pos ⟨rfl, rfl⟩]; rfl, stk_set st S (Nat.le_refl _)⟩ (F.set _ _) E
      · rw [if_neg c1]
        rw [if_neg c1] at E
        cases st with
        | nil =>
          rw [if_neg (show ¬ (1 : Int32) ≤ nI ([] : List Int32).length by decide)]
          rw [show (0 : Int32) = V from E]
          exact hQ h F
        | cons x t =>
          obtain ⟨S1, S2⟩ := S
          have hst : t.length + 1 ≤ k := hst
          rw [if_pos (show (1 : Int32) ≤ nI (x :: t).length from nI_le (a := 1) (by simp) (by simp; omega))]
          have p1 : nI (x :: t).length - 1 = nI t.length := nI_pred t.length
          have p2 : nI (x :: t).length + -1 = nI t.length := pk_m1 t.length
          have tl : (nI t.length).toNatClampNeg = t.length := nI_clamp (by omega)
          have vt : vp_in (nI t.length) 121 := (vp_nI (by omega)).mpr (by omega)
          simp only [p1, p2, tl, S1]
          dsimp only at E
          by_cases c2 : s.1 = 2
          · rw [if_pos c2]
            rw [if_pos c2] at E
            refine ⟨vt, vt, ?_⟩
            exact nx (-x :: t) x3 _ (by simp; omega) ⟨by rw [gI_sI, if_pos ⟨rfl, rfl⟩], stk_set t S2 (Nat.le_refl _)⟩ (F.set _ _) E
          · rw [if_neg c2]
            rw [if_neg c2] at E
            by_cases c3 : s.1 = 33
            · rw [if_pos c3]
              rw [if_pos c3] at E
              refine ⟨vt, ?_⟩
              by_cases x0 : x = 0
              · rw [if_pos x0]
                rw [if_pos x0] at E
                exact ⟨vt, nx (1 :: t) x3 _ (by simp; omega) ⟨by rw [gI_sI, if_pos ⟨rfl, rfl⟩], stk_set t S2 (Nat.le_refl _)⟩ (F.set _ _) E⟩
              · rw [if_neg x0]
                rw [if_neg x0] at E
                exact ⟨vt, nx (0 :: t) x3 _ (by simp; omega) ⟨by rw [gI_sI, if_pos ⟨rfl, rfl⟩], stk_set t S2 (Nat.le_refl _)⟩ (F.set _ _) E⟩
            · rw [if_neg c3]
              rw [if_neg c3] at E
              by_cases c4 : s.1 = 63
              · rw [if_pos c4]
                rw [if_pos c4] at E
                exact ⟨vt, nx t x h (by omega) S2 F E⟩
              · rw [if_neg c4]
                rw [if_neg c4] at E
                by_cases c5 : s.1 = 59
                · rw [if_pos c5]
                  rw [if_pos c5] at E
                  by_cases f0 : x3 = 0
                  · rw [if_pos f0]
                    rw [if_pos f0] at E
                    exact nx t 1 h (by omega) S2 F E
                  · rw [if_neg f0]
                    rw [if_neg f0] at E
                    rw [E]
                    exact ⟨vt, hQ h F⟩
                · rw [if_neg c5]
                  rw [if_neg c5] at E
                  cases t with
                  | nil =>
                    rw [if_pos (show nI [x].length < 2 from (by decide : nI 1 < 2))]
                    exact nx [x] x3 h (by simp) ⟨S1, S2⟩ F E
                  | cons y u =>
                    obtain ⟨T1, T2⟩ := S2
                    have hst : u.length + 1 + 1 ≤ k := hst
                    rw [if_neg (show ¬ nI (x :: y :: u).length < 2 from nI_nlt (b := 2) (by simp) (by simp; omega))]
                    have p3 : nI (y :: u).length - 1 = nI u.length := nI_pred u.length
                    have ul : (nI u.length).toNatClampNeg = u.length := nI_clamp (by omega)
                    have vu : vp_in (nI u.length) 121 := (vp_nI (by omega)).mpr (by omega)
                    simp only [p3, ul, T1]
                    refine ⟨vu, vt, ?_⟩
                    apply c_joined
                    exact ⟨vu, nx (jnV s.1 y x :: u) x3 _ (by simp; omega) ⟨by rw [gI_sI, if_pos ⟨rfl, rfl⟩], stk_set u T2 (Nat.le_refl _)⟩ (F.set _ _) E⟩
