def satB (g : Nat) (num : Nat → Nat) (M c u v : Nat) (d : Nat → Nat) : Prop := ∀ u' v' w, (u' < u ∨ (u' = u ∧ v' < v)) → EB g num M c u' v' w → d v' ≤ d u' + w
abbrev LvB (hb : Hp) (g : Nat) (num : Nat → Nat) (M c s : Nat) (d0 : Nat → Nat) (u v : Nat) (f : Int32) (h : Hp) : Prop := Lv hb 78 41 (EB g num M c) s d0 (satB g num M c u v) f h
def hasN (num : Nat → Nat) (D : Nat) : Nat → Bool
  | 0 => false
  | j + 1 => hasN num D j || decide (num j = D)
theorem hasN_iff {num : Nat → Nat} {D : Nat} : ∀ g, hasN num D g = true ↔ ∃ j, j < g ∧ num j = D
  | 0 => by
    constructor
    · intro h; exact absurd h Bool.false_ne_true
    · rintro ⟨j, hj, _⟩; omega
  | g + 1 => by
    have ih := hasN_iff (num := num) (D := D) g
    unfold hasN
    simp only [Bool.or_eq_true, decide_eq_true_eq]
    rw [ih]
    constructor
    · rintro (⟨j, hj, h⟩ | h)
      · exact ⟨j, by omega, h⟩
      · exact ⟨g, by omega, h⟩
    · rintro ⟨j, hj, h⟩
      by_cases e : j = g
      · subst e; exact Or.inr h
      · exact Or.inl ⟨j, by omega, h⟩
def cand (num : Nat → Nat) (D c du j : Nat) : Nat := if hasN num D j then du else if D ≤ c then du + 1 else 1000000
theorem m_bt159 {hb h : Hp} {g M c s u v : Nat} {num d0 : Nat → Nat} {f x2 : Int32} (G : GN hb g num) (hM : M ≤ 40) (hu : u ≤ M) (hv : v ≤ M) (hx : x2 / (100 : Int32) = nI c) (hc : c ≤ 9) (L : LvB hb g num M c s d0 u v f h) {K82 : Int32 → Hp → Prop} {K93 K102 : Int32 → Int32 → Hp → Prop} {Q : Int32 → Hp → Prop}
    (hK : ∀ f' h', LvB hb g num M c s d0 u (v + 1) f' h' → K102 f' (nI (v + 1)) h') : jX12_boat_128 55 x2 (nI M) f (nI u) (nI v) (nI (dif u v)) h K82 K93 K102 Q := by
  have hdif : dif u v ≤ 40 := by unfold dif; split <;> omega
  have vu : vp_in (nI u) 41 := (vp_nI (by omega)).mpr (by omega)
  have vv : vp_in (nI v) 41 := (vp_nI (by omega)).mpr (by omega)
  have L0 := L
  obtain ⟨f1, f2, d, h1, h2, h3, h4, h5⟩ := L
  have du := h1 u (by omega)
  have dv := h1 v (by omega)
  have bu := h2 u
  have bv := h2 v
  have G2 := L0.gn G (Or.inl rfl)
  obtain ⟨hg, e1, e2, hn⟩ := G2
  have key : ∀ x8, x8 = nI (cand num (dif u v) c (d u) 0) → eX12_boat_159 55 x2 (nI M) f (nI u) (nI v) (nI (dif u v)) h K82 K93 K102 Q x8 0 := by
    rintro x8 rfl
    refine iX12_boat_159 (I := fun x y => ∃ j : Nat, y = nI j ∧ j ≤ g ∧ x = nI (cand num (dif u v) c (d u) j)) (μ := fun _ y => g - y.toNatClampNeg) ?_ _ 0 ⟨0, rfl, by omega, rfl⟩
    rintro x y ⟨j, rfl, hj, rfl⟩ K hK2
    unfold fX12_boat_159
    rw [e2]
    by_cases q : g ≤ j
    · rw [if_pos (nI_le q (by omega))]
      have : j = g := by omega
      subst this
      simp only [rf_55_39, ln_78, nI_clamp (show v < 2 ^ 31 by omega), dv, forall_eq, nI_1]
      refine ⟨vv, ?_⟩
      by_cases c1 : hasN num (dif u v) j = true
      · have E0 : EB j num M c u v 0 := ⟨hu, hv, Or.inl ⟨rfl, (hasN_iff j).mp c1⟩⟩
        have hcd : cand num (dif u v) c (d u) j = d u := by unfold cand; rw [if_pos c1]
        rw [hcd]
        obtain ⟨du', dv', b1, b2, z1, z2, hr⟩ := L0.relax (sat' := satB j num M c u (v + 1)) (u := u) (v := v) (w := 0) (by omega) (by omega) (by omega) E0
        have w1 : d u = du' := (nI_eq (by omega) (by omega)).mp (du.symm.trans z1)
        have w2 : d v = dv' := (nI_eq (by omega) (by omega)).mp (dv.symm.trans z2)
        subst w1 w2
        rcases hr with ⟨q, hr⟩ | ⟨q, hr⟩
        · rw [if_neg (nI_nlt (by omega) (by omega))]
          refine hK f h (hr (fun d hd hd2 u' v' w q1 q2 => ?_))
          by_cases e : u' = u ∧ v' = v
          · obtain ⟨rfl, rfl⟩ := e
            omega
          · exact hd u' v' w (by omega) q2
        · rw [if_pos (nI_lt (by omega) (by omega))]
          exact ⟨vv, hK 1 _ hr⟩
      · by_cases c2 : dif u v ≤ c
        · have E1 : EB j num M c u v 1 := ⟨hu, hv, Or.inr ⟨rfl, c2⟩⟩
          have hcd : cand num (dif u v) c (d u) j = d u + 1 := by unfold cand; rw [if_neg c1, if_pos c2]
          rw [hcd]
          obtain ⟨du', dv', b1, b2, z1, z2, hr⟩ := L0.relax (sat' := satB j num M c u (v + 1)) (u := u) (v := v) (w := 1) (by omega) (by omega) (by omega) E1
          have w1 : d u = du' := (nI_eq (by omega) (by omega)).mp (du.symm.trans z1)
          have w2 : d v = dv' := (nI_eq (by omega) (by omega)).mp (dv.symm.trans z2)
          subst w1 w2
          rcases hr with ⟨q, hr⟩ | ⟨q, hr⟩
          · rw [if_neg (nI_nlt (by omega) (by omega))]
            refine hK f h (hr (fun d hd hd2 u' v' w q1 q2 => ?_))
            by_cases e : u' = u ∧ v' = v
            · obtain ⟨rfl, rfl⟩ := e
              rcases q2.2.2 with ⟨_, q3⟩ | ⟨rfl, _⟩
              · exact absurd ((hasN_iff j).mpr q3) c1
              · exact hd2
            · exact hd u' v' w (by omega) q2
          · rw [if_pos (nI_lt (by omega) (by omega))]
            exact ⟨vv, hK 1 _ hr⟩
        · have hcd : cand num (dif u v) c (d u) j = 1000000 := by unfold cand; rw [if_neg c1, if_neg c2]
          rw [hcd, if_neg (nI_nlt (by omega) (by omega))]
          refine hK f h (L0.imp (fun d hd u' v' w q1 q2 => ?_))
          by_cases e : u' = u ∧ v' = v
          · obtain ⟨rfl, rfl⟩ := e
            rcases q2.2.2 with ⟨_, q3⟩ | ⟨_, q3⟩
            · exact absurd ((hasN_iff j).mpr q3) c1
            · exact absurd q3 c2
          · exact hd u' v' w (by omega) q2
    · rw [if_neg (nI_ge (by omega) (by omega))]
      obtain ⟨y1, y2, y3, y4⟩ := hn j (by omega)
      simp only [rf_55_2, rf_55_39, ln_56, ln_78, nI_clamp (show j < 2 ^ 31 by omega), nI_clamp (show u < 2 ^ 31 by omega), y2, du, forall_eq, nI_1]
      refine ⟨(vp_nI (by omega)).mpr (by omega), ?_⟩
      have mu : g - (nI (j + 1)).toNatClampNeg < g - (nI j).toNatClampNeg := by
        rw [nI_clamp (by omega), nI_clamp (by omega)]; omega
      by_cases q2 : num j = dif u v
      · rw [if_pos (by rw [q2])]
        refine ⟨vu, hK2 _ _ ⟨j + 1, rfl, by omega, ?_⟩ mu⟩
        unfold cand hasN
        simp [q2]
      · rw [if_neg (fun w => q2 ((nI_eq (by omega) (by omega)).mp w))]
        refine hK2 _ _ ⟨j + 1, rfl, by omega, ?_⟩ mu
        unfold cand
        rw [show hasN num (dif u v) (j + 1) = hasN num (dif u v) j from by
          show (hasN num (dif u v) j || decide (num j = dif u v)) = _
          rw [decide_eq_false q2, Bool.or_false]]
  unfold jX12_boat_128
  rw [hx]
  by_cases q : c < dif u v
  · rw [if_pos (nI_lt q (by omega))]
    apply key
    unfold cand hasN
    rw [if_neg (by decide), if_neg (by omega)]
    rfl
  · rw [if_neg (nI_nlt (by omega) (by omega))]
    simp only [rf_55_39, ln_78, nI_clamp (show u < 2 ^ 31 by omega), du, forall_eq, nI_1]
    refine ⟨vu, key _ ?_⟩
    unfold cand hasN
    rw [if_neg (by decide), if_pos (by omega)]
theorem m_bt102 {hb h : Hp} {g M c s u : Nat} {num d0 : Nat → Nat} {f x2 : Int32} (G : GN hb g num) (hM : M ≤ 40) (hu : u ≤ M) (hx : x2 / (100 : Int32) = nI c) (hc : c ≤ 9) (L : LvB hb g num M c s d0 u 0 f h) {K82 : Int32 → Hp → Prop} {K93 : Int32 → Int32 → Hp → Prop} {Q : Int32 → Hp → Prop}
    (hK : ∀ f' h', LvB hb g num M c s d0 (u + 1) 0 f' h' → K93 f' (nI (u + 1)) h') : eX12_boat_102 55 x2 (nI M) (nI u) K82 K93 Q f 0 h := by
  refine iX12_boat_102 (I := fun f x h => ∃ v : Nat, x = nI v ∧ v ≤ M + 1 ∧ LvB hb g num M c s d0 u v f h) (μ := fun _ x _ => M + 1 - x.toNatClampNeg) ?_ f 0 h ⟨0, rfl, by omega, L⟩
  rintro f x h ⟨v, rfl, hv, L⟩ K hK2
  unfold fX12_boat_102
  by_cases q : M < v
  · rw [if_pos (nI_lt q (by omega))]
    simp only [forall_eq, nI_1]
    exact hK f h (L.imp (fun d hd u' v' w q1 q2 => hd u' v' w (by have := q2.2.1; omega) q2))
  · rw [if_neg (nI_nlt (by omega) (by omega))]
    have go : ∀ f' h', LvB hb g num M c s d0 u (v + 1) f' h' → K f' (nI (v + 1)) h' := fun f' h' L' => hK2 f' _ h' ⟨v + 1, rfl, by omega, L'⟩ (by rw [nI_clamp (by omega), nI_clamp (by omega)]; omega)
    have main := fun (K102 : Int32 → Int32 → Hp → Prop) (hk : ∀ f' h', LvB hb g num M c s d0 u (v + 1) f' h' → K102 f' (nI (v + 1)) h') => m_bt159 (K82 := K82) (K93 := K93) (Q := Q) G hM hu (show v ≤ M by omega) hx hc L hk
    unfold dif at main
    by_cases e : v ≤ u
    · rw [if_pos (nI_le e (by omega)), show nI u - nI v = nI (u - v) by simp (disch := omega) only [lit, nI_ltI, nI_leI, nI_eq, nI_clamp, nI_add, vp_nI, nI_ne_neg, neg_ne_nI, pk_sub, pk_mul, pk_div, Nat.reduceAdd, Nat.reduceMul, Nat.reducePow, e_mn, e_mx, e_rm, lt_t, lt_f, le_t, le_f, eq_f, eq_t, ↓reduceIte, true_and, and_true, and_false, false_and, and_self, or_true, or_false, true_or, false_or, not_true, not_false_iff]]
      have := main K go
      rwa [if_pos e] at this
    · rw [if_neg (nI_ge (by omega) (by omega)), show nI v - nI u = nI (v - u) by simp (disch := omega) only [lit, nI_ltI, nI_leI, nI_eq, nI_clamp, nI_add, vp_nI, nI_ne_neg, neg_ne_nI, pk_sub, pk_mul, pk_div, Nat.reduceAdd, Nat.reduceMul, Nat.reducePow, e_mn, e_mx, e_rm, lt_t, lt_f, le_t, le_f, eq_f, eq_t, ↓reduceIte, true_and, and_true, and_false, false_and, and_self, or_true, or_false, true_or, false_or, not_true, not_false_iff]]
      have := main K go
      rwa [if_neg e] at this
theorem m_bt93 {hb h : Hp} {g M c s : Nat} {num d0 : Nat → Nat} {x2 : Int32} (G : GN hb g num) (hM : M ≤ 40) (hx : x2 / (100 : Int32) = nI c) (hc : c ≤ 9) (L : LvB hb g num M c s d0 0 0 0 h) {K82 : Int32 → Hp → Prop} {Q : Int32 → Hp → Prop}
    (hK : ∀ f' h', LvB hb g num M c s d0 (M + 1) 0 f' h' → K82 f' h') : eX12_boat_93 55 x2 (nI M) K82 Q 0 0 h := by
  refine iX12_boat_93 (I := fun f x h => ∃ u : Nat, x = nI u ∧ u ≤ M + 1 ∧ LvB hb g num M c s d0 u 0 f h) (μ := fun _ x _ => M + 1 - x.toNatClampNeg) ?_ 0 0 h ⟨0, rfl, by omega, L⟩
  rintro f x h ⟨u, rfl, hu, L⟩ K hK2
  unfold fX12_boat_93
  by_cases q : M < u
  · rw [if_pos (nI_lt q (by omega))]
    have : u = M + 1 := by omega
    subst this
    exact hK f h L
  · rw [if_neg (nI_nlt (by omega) (by omega))]
    exact m_bt102 G hM (by omega) hx hc L (fun f' h' L' => hK2 f' _ h' ⟨u + 1, rfl, by omega, L'⟩ (by rw [nI_clamp (by omega), nI_clamp (by omega)]; omega))
theorem m_bt82 {hb h : Hp} {g M c s t : Nat} {num d : Nat → Nat} {x2 : Int32} (G : GN hb g num) (hM : M ≤ 40) (hx : x2 / (100 : Int32) = nI c) (hy : rm x2 (100 : Int32) = nI t) (ht : t ≤ M) (hc : c ≤ 9) (L : Lv0 hb 78 41 (EB g num M c) s d h) {Q : Int32 → Hp → Prop}
    (hQ : ∀ h' d', Lv0 hb 78 41 (EB g num M c) s d' h' → (∀ u v w, EB g num M c u v w → d' v ≤ d' u + w) → Q (if d' t < 1000000 then nI (d' t) else -2) h') : eX12_boat_82 55 x2 (nI M) Q 1 h := by
  refine iX12_boat_82 (I := fun f h => (f = 0 ∨ f = 1) ∧ ∃ d, Lv0 hb 78 41 (EB g num M c) s d h ∧ (f = 0 → ∀ u v w, EB g num M c u v w → d v ≤ d u + w)) (μ := fun f h => 2 * sumT h 78 41 + f.toNatClampNeg) ?_ 1 h ⟨Or.inr rfl, d, L, fun q => absurd q (by decide)⟩
  rintro f h ⟨hf, d, L, hd⟩ K hK
  unfold fX12_boat_82
  by_cases q : f = 0
  · rw [if_pos q, hy]
    simp only [rf_55_39, ln_78, nI_clamp (show t < 2 ^ 31 by omega), L.2.2.1 t (by omega)]
    have vt : vp_in (nI t) 41 := (vp_nI (by omega)).mpr (by omega)
    refine ⟨vt, ?_⟩
    have := hQ h d L (hd q)
    by_cases e : d t < 1000000
    · rw [if_neg (fun q => (m1e6 (L.2.2.2.1 t)).mp q e)]
      rw [if_pos e] at this
      exact ⟨vt, this⟩
    · rw [if_pos ((m1e6 (L.2.2.2.1 t)).mpr e)]
      rw [if_neg e] at this
      exact this
  · rw [if_neg q]
    have f1 : f = 1 := hf.resolve_left q
    subst f1
    apply m_bt93 G hM hx hc (L.go (fun u' v' w q _ => by omega))
    intro f' h' L'
    obtain ⟨d', L0, h1⟩ := L'.done L
    rcases h1 with ⟨q1, q2, q3⟩ | ⟨q1, q2⟩
    · subst q1
      refine hK 0 h' ⟨Or.inl rfl, d', L0, fun _ u v w e => ?_⟩ (by rw [q3]; show _ + 0 < _ + 1; omega)
      exact q2 u v w (by have := e.1; omega) e
    · subst q1
      exact hK 1 h' ⟨Or.inr rfl, d', L0, fun q => absurd q (by decide)⟩ (by show _ + 1 < _ + 1; omega)
theorem m_boat {h : Hp} {g M c s t : Nat} {num : Nat → Nat} {x1 x2 : Int32} (G : GN h g num) (hM : M ≤ 40) (hs : s ≤ M) (hx1 : x1 / (100 : Int32) = nI s) (hx : x2 / (100 : Int32) = nI c) (hy : rm x2 (100 : Int32) = nI t) (ht : t ≤ M) (hc : c ≤ 9) {Q : Int32 → Hp → Prop}
    (hQ : ∀ h' d', Lv0 h 78 41 (EB g num M c) s d' h' → (∀ u v w, EB g num M c u v w → d' v ≤ d' u + w) → Q (if d' t < 1000000 then nI (d' t) else -2) h') : eX12_boat_46 55 x1 x2 (nI M) Q 0 h := by
  refine iX12_boat_46 (I := fun x h2 => ∃ j : Nat, x = nI j ∧ j ≤ 41 ∧ (∀ a k, a ≠ 78 → gI h2 a k = gI h a k) ∧ (∀ a k, gL h2 a k = gL h a k) ∧ ∀ k, k < j → gI h2 78 k = nI 1000000) (μ := fun x _ => 41 - x.toNatClampNeg) ?_ 0 h ⟨0, rfl, by omega, fun _ _ _ => rfl, fun _ _ => rfl, fun k hk => by omega⟩
  rintro x h2 ⟨j, rfl, hj, f1, f2, f3⟩ K hK
  unfold fX12_boat_46
  simp only [rf_55_39, ln_78, forall_eq, hx1]
  by_cases q : 40 < j
  · rw [if_pos (show (40 : Int32) < nI j from nI_lt (a := 40) q (by omega))]
    have : j = 41 := by omega
    subst this
    refine ⟨(vp_nI (by omega)).mpr (by omega), ?_⟩
    rw [nI_clamp (show s < 2 ^ 31 by omega)]
    refine m_bt82 (hb := h) (s := s) (num := num) (g := g) (d := fun k => if k = s then 0 else 1000000) G hM hx hy ht hc ⟨fun a k ha => ?_, fun a k => ?_, fun k hk => ?_, fun k => ?_, ?_, fun v hv hv2 => ?_⟩ hQ
    · rw [gI_sI, if_neg (fun q => ha q.1)]
      exact f1 a k ha
    · rw [gL_sI]
      exact f2 a k
    · rw [gI_sI]
      show _ = nI (if k = s then 0 else 1000000)
      by_cases q : k = s
      · rw [if_pos ⟨rfl, q⟩, if_pos q]
        rfl
      · rw [if_neg (fun w => q w.2), if_neg q]
        exact f3 k hk
    · show (if k = s then 0 else 1000000) ≤ 1000000
      split <;> omega
    · show (if s = s then 0 else 1000000) = 0
      rw [if_pos rfl]
    · have hv2 : (if v = s then 0 else 1000000) < 1000000 := hv2
      by_cases q : v = s
      · subst q
        show Rw _ v (if v = v then 0 else 1000000) v
        rw [if_pos rfl]
        exact Rw.base
      · rw [if_neg q] at hv2
        omega
  · rw [if_neg (show ¬ (40 : Int32) < nI j from nI_nlt (a := 40) (by omega) (by omega))]
    refine ⟨(vp_nI (by omega)).mpr (by omega), ?_⟩
    rw [nI_clamp (show j < 2 ^ 31 by omega), nI_1]
    refine hK _ _ ⟨j + 1, rfl, by omega, fun a k ha => ?_, fun a k => ?_, fun k hk => ?_⟩ (by rw [nI_clamp (by omega), nI_clamp (by omega)]; omega)
    · rw [gI_sI, if_neg (fun q => ha q.1)]
      exact f1 a k ha
    · rw [gL_sI]
      exact f2 a k
    · rw [gI_sI]
      by_cases q : k = j
      · rw [if_pos ⟨rfl, q⟩]
        rfl
      · rw [if_neg (fun w => q w.2)]
        exact f3 k (by omega)
theorem lvb_it {h h2 : Hp} {g M c s : Nat} {num d : Nat → Nat} (hM : M ≤ 40) (hs : s ≤ M) (L : Lv0 h 78 41 (EB g num M c) s d h2) (F : ∀ u v w, EB g num M c u v w → d v ≤ d u + w) :
    (∀ v, v ≤ M → (d v < 1000000 ↔ itB g num M c s M v = true)) ∧ (∀ v k, itB g num M c s k v = true → d v ≤ k) ∧ (∀ v, v ≤ M → d v < 1000000 → itB g num M c s (d v) v = true) := by
  obtain ⟨f1, f2, h1, h2, h3, h4⟩ := L
  have a : ∀ v k, itB g num M c s k v = true → d v ≤ k := by
    intro v k q
    obtain ⟨k', q1, q2⟩ := (itB_iff hs).mp q
    have := Rw_le h3 F q2
    omega
  have b : ∀ v, v ≤ M → d v < 1000000 → itB g num M c s (d v) v = true := fun v hv q => (itB_iff hs).mpr ⟨d v, Nat.le_refl _, h4 v (by omega) q⟩
  refine ⟨fun v hv => ⟨fun q => ?_, fun q => ?_⟩, a, b⟩
  · have := b v hv q
    by_cases z : d v ≤ M
    · exact itN_mono' opB_mono this z
    · rwa [itB_fix hs (by omega)] at this
  · have := a v M q
    omega
-- boat
set_option maxRecDepth 20000 in
set_option maxHeartbeats 1000000 in
theorem ok_boat {h : Hp} (I : Inv h) (x1 : Int32) (x2 : Int32) {A1 : Prop} (b1 : A1) {A2 : Prop} (b2 : A2) {R : Hp → Prop} {Q0 : Prop} (hR : ∀ h', Inv h' → R h') : wX11_boat 0 x1 x2 h (fun v => A1 ∧ (A2 ∧ (wX12_boat 55 x1 x2 h (fun v' h2 => if v = v' then R h2 else Q0)))) := by
  obtain ⟨g, num, G⟩ := I.gates
  unfold wX11_boat
  rw [within_eq]
  rcases counts (x := x1) h with hc0 | ⟨a, b, hab, hb, rfl, hc0⟩
  · apply hc0
    rw [if_pos rfl]
    refine ⟨b1, b2, ?_⟩
    unfold wX12_boat
    apply hc0
    rw [if_pos rfl]
    exact fin rfl (hR h I)
  · apply hc0
    rw [if_neg (by decide)]
    obtain ⟨e1, e2⟩ := cnt_ab hab hb
    rw [e1, e2]
    have open_m : ∀ Q : Int32 → Hp → Prop, (if x2 < 0 then Q (-1) h else (if x2 / (100 : Int32) < 1 ∨ 9 < x2 / (100 : Int32) then Q (-1) h else if rm x2 (100 : Int32) ≤ nI b then eX12_boat_46 55 (nI (100 * a + b)) x2 (nI b) Q 0 h else Q (-1) h)) → wX12_boat 55 (nI (100 * a + b)) x2 h Q := by
      intro Q hQ
      unfold wX12_boat
      apply hc0
      rw [if_neg (by decide), e1]
      by_cases q1 : x2 < 0
      · rw [if_pos q1] at hQ ⊢
        exact hQ
      · rw [if_neg q1] at hQ ⊢
        rw [e_in]
        by_cases q2 : x2 / (100 : Int32) < 1 ∨ 9 < x2 / (100 : Int32)
        · rw [if_pos q2] at hQ ⊢
          rw [if_pos rfl]
          exact hQ
        · rw [if_neg q2] at hQ ⊢
          rw [if_neg (by decide)]
          by_cases q3 : rm x2 (100 : Int32) ≤ nI b
          · rw [if_pos q3] at hQ ⊢
            intro v hv
            subst hv
            exact hQ
          · rw [if_neg q3] at hQ ⊢
            exact hQ
    by_cases x0 : x2 < 0
    · rw [if_pos (show x2 < 100 from Int32.lt_trans x0 (by decide))]
      refine ⟨b1, b2, open_m _ ?_⟩
      rw [if_pos x0]
      exact fin rfl (hR h I)
    · obtain ⟨n, hn, rfl⟩ := nI_of x0
      have r1 : rm (nI n) (100 : Int32) = nI (n % 100) := e_rm (d := 100) hn (by omega) (by omega)
      have r2 : nI n / (100 : Int32) = nI (n / 100) := pk_div (d := 100) hn (by omega) (by omega)
      simp only [if_neg x0, r1, r2] at open_m
      rw [r1, r2]
      by_cases n1 : n < 100
      · rw [if_pos (show nI n < 100 from nI_lt (b := 100) n1 (by omega))]
        refine ⟨b1, b2, open_m _ ?_⟩
        rw [if_pos (Or.inl (show nI (n / 100) < 1 from nI_lt (b := 1) (by omega) (by omega)))]
        exact fin rfl (hR h I)
      · rw [if_neg (show ¬ nI n < 100 from nI_nlt (b := 100) (by omega) (by omega))]
        by_cases n2 : 9 < n / 100
        · have n2' : (9 : Int32) < nI (n / 100) := nI_lt (a := 9) n2 (by omega)
          rw [if_pos n2']
          refine ⟨b1, b2, open_m _ ?_⟩
          rw [if_pos (Or.inr n2')]
          exact fin rfl (hR h I)
        · have n2' : ¬ (9 : Int32) < nI (n / 100) := nI_nlt (a := 9) (by omega) (by omega)
          rw [if_neg n2']
          have n3 : ¬ (nI (n / 100) < 1 ∨ (9 : Int32) < nI (n / 100)) := fun q => q.elim (fun q => by
            have := (nI_ltI (b := 1) (by omega) (by omega)).mp q
            omega) n2'
          simp only [if_neg n3] at open_m
          by_cases n4 : n % 100 ≤ b
          · simp only [if_pos (nI_le n4 (show b < 2 ^ 31 by omega))] at open_m
            rw [if_pos (nI_le n4 (by omega)), rf_0_0]
            apply c_trips G hb (by omega) hab n4
            · intro k hk h1 h2
              refine ⟨b1, b2, open_m _ ?_⟩
              apply m_boat (c := n / 100) (t := n % 100) G hb hab e2 r2 r1 n4 (by omega)
              intro h2' d' L F
              obtain ⟨l1, l2, l3⟩ := lvb_it hb hab L F
              have hd : d' (n % 100) = k := by
                have q1 := l2 _ k h1
                have q2 := l3 _ n4 (by omega)
                by_cases q : d' (n % 100) < k
                · rw [h2 _ q] at q2
                  exact absurd q2 (by decide)
                · omega
              rw [hd, if_pos (show k < 1000000 by omega)]
              exact fin rfl (hR h2' (L.inv I (Or.inl rfl)))
            · intro h1
              refine ⟨b1, b2, open_m _ ?_⟩
              apply m_boat (c := n / 100) (t := n % 100) G hb hab e2 r2 r1 n4 (by omega)
              intro h2' d' L F
              obtain ⟨l1, l2, l3⟩ := lvb_it hb hab L F
              have hd : ¬ d' (n % 100) < 1000000 := by
                intro q
                have := (l1 _ n4).mp q
                rw [h1 b (Nat.le_refl _)] at this
                exact absurd this (by decide)
              rw [if_neg hd]
              exact fin rfl (hR h2' (L.inv I (Or.inl rfl)))
          · have n5 : ¬ nI (n % 100) ≤ nI b := nI_ge (by omega) (by omega)
            simp only [if_neg n5] at open_m
            rw [if_neg n5]
            exact ⟨b1, b2, open_m _ (fin rfl (hR h I))⟩
