/-! the reference's levels -/
def EL (g : Nat) (num : Nat → Nat) (M : Nat) (u v w : Nat) : Prop := w = 1 ∧ u ≤ M ∧ v ≤ M ∧ ∃ j, j < g ∧ (u = v + num j ∨ v = u + num j)
def satL (g : Nat) (num : Nat → Nat) (M u j : Nat) (d : Nat → Nat) : Prop := ∀ u' j', (u' < u ∨ (u' = u ∧ j' < j)) → j' < g → (num j' ≤ u' → d (u' - num j') ≤ d u' + 1) ∧ (u' + num j' ≤ M → d (u' + num j') ≤ d u' + 1)
abbrev LvL (hb : Hp) (g : Nat) (num : Nat → Nat) (M s : Nat) (d0 : Nat → Nat) (u j : Nat) (f : Int32) (h : Hp) : Prop := Lv hb 78 41 (EL g num M) s d0 (satL g num M u j) f h
theorem GN.kept {h h2 : Hp} {g : Nat} {num : Nat → Nat} (G : GN h g num) (f1 : gI h2 1 1 = gI h 1 1) (f2 : gI h2 55 1 = gI h 55 1) (f3 : ∀ k, gI h2 2 k = gI h 2 k) (f4 : ∀ k, gI h2 56 k = gI h 56 k) : GN h2 g num := by
  obtain ⟨hg, e1, e2, hn⟩ := G
  refine ⟨hg, f1.trans e1, f2.trans e2, fun k hk => ?_⟩
  rw [f3, f4]
  exact hn k hk
theorem Lv.gn {hb h : Hp} {n g c : Nat} {num : Nat → Nat} {E : Nat → Nat → Nat → Prop} {s : Nat} {d0 : Nat → Nat} {sat : (Nat → Nat) → Prop} {f : Int32} (L : Lv hb c n E s d0 sat f h) (G : GN hb g num) (hc : c = 78 ∨ c = 79) : GN h g num :=
  G.kept (L.1 _ _ (by omega)) (L.1 _ _ (by omega)) (fun k => L.1 _ _ (by omega)) (fun k => L.1 _ _ (by omega))
theorem m_lv118 {hb h : Hp} {g M s u j : Nat} {num d0 : Nat → Nat} {f : Int32} (hM : M ≤ 40) (hu : u ≤ M) (hj : j < g) (hn : num j ≤ 6)
    (L : Lv hb 78 41 (EL g num M) s d0 (fun d => satL g num M u j d ∧ (num j ≤ u → d (u - num j) ≤ d u + 1)) f h) {K32 : Int32 → Hp → Prop} {K41 K50 : Int32 → Int32 → Hp → Prop} {Q : Hp → Prop}
    (hK : ∀ f' h', LvL hb g num M s d0 u (j + 1) f' h' → K50 f' (nI j + 1) h') : jX12_findLevels_118 55 (nI M) f (nI u) (nI j) (nI (num j)) h K32 K41 K50 Q := by
  unfold jX12_findLevels_118
  simp only [rf_55_39, ln_78, nI_add, forall_eq]
  by_cases c : M < u + num j
  · rw [if_pos (nI_lt c (by omega))]
    refine hK f h (L.imp (fun d hd u' j' q1 q2 => ?_))
    by_cases e : u' = u ∧ j' = j
    · obtain ⟨rfl, rfl⟩ := e
      exact ⟨hd.2, fun q => by omega⟩
    · exact hd.1 u' j' (by omega) q2
  · rw [if_neg (nI_nlt (by omega) (by omega))]
    have vu : vp_in (nI u) 41 := (vp_nI (by omega)).mpr (by omega)
    have vv : vp_in (nI (u + num j)) 41 := (vp_nI (by omega)).mpr (by omega)
    refine ⟨vu, vv, ?_⟩
    rw [nI_clamp (show u < 2 ^ 31 by omega), nI_clamp (show u + num j < 2 ^ 31 by omega)]
    obtain ⟨du, dv, b1, b2, e1, e2, hr⟩ := L.relax (sat' := satL g num M u (j + 1)) (u := u) (v := u + num j) (w := 1) (by omega) (by omega) (by omega) ⟨rfl, hu, by omega, j, hj, Or.inr rfl⟩
    rw [e1, e2, nI_1]
    rcases hr with ⟨q, hr⟩ | ⟨q, hr⟩
    · rw [if_pos (nI_le q (by omega))]
      refine hK f h (hr (fun d hd hd2 u' j' q1 q2 => ?_))
      by_cases e : u' = u ∧ j' = j
      · obtain ⟨rfl, rfl⟩ := e
        exact ⟨hd.2, fun _ => hd2⟩
      · exact hd.1 u' j' (by omega) q2
    · rw [if_neg (nI_ge (by omega) (by omega))]
      exact ⟨vu, vv, hK 1 _ hr⟩
theorem m_lv50 {hb h : Hp} {g M s u : Nat} {num d0 : Nat → Nat} {f : Int32} (G : GN hb g num) (hM : M ≤ 40) (hu : u ≤ M) (L : LvL hb g num M s d0 u 0 f h) {K32 : Int32 → Hp → Prop} {K41 : Int32 → Int32 → Hp → Prop} {Q : Hp → Prop}
    (hK : ∀ f' h', LvL hb g num M s d0 (u + 1) 0 f' h' → K41 f' (nI (u + 1)) h') : eX12_findLevels_50 55 (nI M) (nI u) K32 K41 Q f 0 h := by
  refine iX12_findLevels_50 (I := fun f x h => ∃ j : Nat, x = nI j ∧ j ≤ g ∧ LvL hb g num M s d0 u j f h) (μ := fun _ x _ => g - x.toNatClampNeg) ?_ f 0 h ⟨0, rfl, by omega, L⟩
  rintro f x h ⟨j, rfl, hj, L⟩ K hK2
  unfold fX12_findLevels_50
  have G2 := L.gn G (Or.inl rfl)
  obtain ⟨hg, e1, e2, hn⟩ := G2
  rw [e2]
  by_cases c : g ≤ j
  · rw [if_pos (nI_le c (by omega))]
    simp only [forall_eq, nI_1]
    refine hK f h (L.imp (fun d hd u' j' q1 q2 => hd u' j' (by omega) q2))
  · rw [if_neg (nI_ge (by omega) (by omega))]
    obtain ⟨y1, y2, y3, y4⟩ := hn j (by omega)
    simp only [rf_55_2, rf_55_39, ln_56, ln_78, nI_clamp (show j < 2 ^ 31 by omega), y2, forall_eq]
    refine ⟨(vp_nI (by omega)).mpr (by omega), ?_⟩
    have go : ∀ f' h', LvL hb g num M s d0 u (j + 1) f' h' → K f' (nI j + 1) h' := fun f' h' L' => by
      rw [nI_1]
      exact hK2 f' _ h' ⟨j + 1, rfl, by omega, L'⟩ (by rw [nI_clamp (by omega), nI_clamp (by omega)]; omega)
    by_cases d : u < num j
    · rw [if_pos (nI_lt d (by omega))]
      exact m_lv118 hM hu (by omega) y4 (L.imp (fun d' hd => ⟨hd, fun q => by omega⟩)) go
    · rw [if_neg (nI_nlt (by omega) (by omega))]
      have es : nI u - nI (num j) = nI (u - num j) := by simp (disch := omega) only [lit, nI_ltI, nI_leI, nI_eq, nI_clamp, nI_add, vp_nI, nI_ne_neg, neg_ne_nI, pk_sub, pk_mul, pk_div, Nat.reduceAdd, Nat.reduceMul, Nat.reducePow, e_mn, e_mx, e_rm, lt_t, lt_f, le_t, le_f, eq_f, eq_t, ↓reduceIte, true_and, and_true, and_false, false_and, and_self, or_true, or_false, true_or, false_or, not_true, not_false_iff]
      rw [es]
      have vu : vp_in (nI u) 41 := (vp_nI (by omega)).mpr (by omega)
      have vv : vp_in (nI (u - num j)) 41 := (vp_nI (by omega)).mpr (by omega)
      refine ⟨vu, vv, ?_⟩
      rw [nI_clamp (show u < 2 ^ 31 by omega), nI_clamp (show u - num j < 2 ^ 31 by omega)]
      obtain ⟨du, dv, b1, b2, e1, e2, hr⟩ := L.relax (sat' := fun d => satL g num M u j d ∧ (num j ≤ u → d (u - num j) ≤ d u + 1)) (u := u) (v := u - num j) (w := 1) (by omega) (by omega) (by omega) ⟨rfl, hu, by omega, j, by omega, Or.inl (by omega)⟩
      rw [e1, e2, nI_1]
      rcases hr with ⟨q, hr⟩ | ⟨q, hr⟩
      · rw [if_pos (nI_le q (by omega))]
        exact m_lv118 hM hu (by omega) y4 (hr (fun d hd hd2 => ⟨hd, fun _ => hd2⟩)) go
      · rw [if_neg (nI_ge (by omega) (by omega))]
        exact ⟨vu, vv, m_lv118 hM hu (by omega) y4 hr go⟩
theorem m_lv41 {hb h : Hp} {g M s : Nat} {num d0 : Nat → Nat} (G : GN hb g num) (hM : M ≤ 40) (L : LvL hb g num M s d0 0 0 0 h) {K32 : Int32 → Hp → Prop} {Q : Hp → Prop}
    (hK : ∀ f' h', LvL hb g num M s d0 (M + 1) 0 f' h' → K32 f' h') : eX12_findLevels_41 55 (nI M) K32 Q 0 0 h := by
  refine iX12_findLevels_41 (I := fun f x h => ∃ u : Nat, x = nI u ∧ u ≤ M + 1 ∧ LvL hb g num M s d0 u 0 f h) (μ := fun _ x _ => M + 1 - x.toNatClampNeg) ?_ 0 0 h ⟨0, rfl, by omega, L⟩
  rintro f x h ⟨u, rfl, hu, L⟩ K hK2
  unfold fX12_findLevels_41
  by_cases c : M < u
  · rw [if_pos (nI_lt c (by omega))]
    have : u = M + 1 := by omega
    subst this
    exact hK f h L
  · rw [if_neg (nI_nlt (by omega) (by omega))]
    exact m_lv50 G hM (by omega) L (fun f' h' L' => hK2 f' _ h' ⟨u + 1, rfl, by omega, L'⟩ (by rw [nI_clamp (by omega), nI_clamp (by omega)]; omega))
theorem m_lv32 {hb h : Hp} {g M s : Nat} {num d : Nat → Nat} (G : GN hb g num) (hM : M ≤ 40) (L : Lv0 hb 78 41 (EL g num M) s d h) {Q : Hp → Prop}
    (hQ : ∀ h' d', Lv0 hb 78 41 (EL g num M) s d' h' → (∀ u v w, EL g num M u v w → d' v ≤ d' u + w) → Q h') : eX12_findLevels_32 55 (nI M) Q 1 h := by
  refine iX12_findLevels_32 (I := fun f h => (f = 0 ∨ f = 1) ∧ ∃ d, Lv0 hb 78 41 (EL g num M) s d h ∧ (f = 0 → ∀ u v w, EL g num M u v w → d v ≤ d u + w)) (μ := fun f h => 2 * sumT h 78 41 + f.toNatClampNeg) ?_ 1 h ⟨Or.inr rfl, d, L, fun q => absurd q (by decide)⟩
  rintro f h ⟨hf, d, L, hd⟩ K hK
  unfold fX12_findLevels_32
  by_cases c : f = 0
  · rw [if_pos c]
    exact hQ h d L (hd c)
  · rw [if_neg c]
    have f1 : f = 1 := hf.resolve_left c
    subst f1
    apply m_lv41 G hM (L.go (fun u' j' q _ => by omega))
    intro f' h' L'
    obtain ⟨d', L0, h1⟩ := L'.done L
    rcases h1 with ⟨q1, q2, q3⟩ | ⟨q1, q2⟩
    · subst q1
      refine hK 0 h' ⟨Or.inl rfl, d', L0, fun _ => ?_⟩ (by rw [q3]; show _ + 0 < _ + 1; omega)
      rintro u v w ⟨rfl, hu, hv, j, hj, e | e⟩
      · subst e
        have := (q2 (v + num j) j (by omega) hj).1 (by omega)
        rwa [Nat.add_sub_cancel] at this
      · subst e
        exact (q2 u j (by omega) hj).2 (by omega)
    · subst q1
      exact hK 1 h' ⟨Or.inr rfl, d', L0, fun q => absurd q (by decide)⟩ (by show _ + 1 < _ + 1; omega)
theorem m_levels {h : Hp} {g M s : Nat} {num : Nat → Nat} (G : GN h g num) (hM : M ≤ 40) (hs : s ≤ M) {Q : Hp → Prop}
    (hQ : ∀ h' d', Lv0 h 78 41 (EL g num M) s d' h' → (∀ u v w, EL g num M u v w → d' v ≤ d' u + w) → Q h') : wX12_findLevels 55 (nI s) (nI M) h Q := by
  unfold wX12_findLevels
  refine iX12_findLevels_2 (I := fun x h2 => ∃ j : Nat, x = nI j ∧ j ≤ 41 ∧ (∀ a k, a ≠ 78 → gI h2 a k = gI h a k) ∧ (∀ a k, gL h2 a k = gL h a k) ∧ ∀ k, k < j → gI h2 78 k = nI 1000000) (μ := fun x _ => 41 - x.toNatClampNeg) ?_ 0 h ⟨0, rfl, by omega, fun _ _ _ => rfl, fun _ _ => rfl, fun k hk => by omega⟩
  rintro x h2 ⟨j, rfl, hj, f1, f2, f3⟩ K hK
  unfold fX12_findLevels_2
  simp only [rf_55_39, ln_78, forall_eq]
  by_cases c : 40 < j
  · rw [if_pos (show (40 : Int32) < nI j from nI_lt (a := 40) c (by omega))]
    have : j = 41 := by omega
    subst this
    refine ⟨(vp_nI (by omega)).mpr (by omega), ?_⟩
    rw [nI_clamp (show s < 2 ^ 31 by omega)]
    refine m_lv32 (hb := h) (s := s) (num := num) (g := g) (d := fun k => if k = s then 0 else 1000000) G hM ⟨fun a k ha => ?_, fun a k => ?_, fun k hk => ?_, fun k => ?_, ?_, fun v hv hv2 => ?_⟩ hQ
    · rw [gI_sI, if_neg (fun q => ha q.1)]
      exact f1 a k ha
    · rw [gL_sI]
      exact f2 a k
    · rw [gI_sI]
      show _ = nI (if k = s then 0 else 1000000)
      by_cases q : k = s
      · rw [if_pos ⟨rfl, q⟩, if_pos q]
        rfl
      · rw [if_neg (fun w => q w.2), if_neg q]
        exact f3 k hk
    · show (if k = s then 0 else 1000000) ≤ 1000000
      split <;> omega
    · show (if s = s then 0 else 1000000) = 0
      rw [if_pos rfl]
    · have hv2 : (if v = s then 0 else 1000000) < 1000000 := hv2
      by_cases q : v = s
      · subst q
        show Rw _ v (if v = v then 0 else 1000000) v
        rw [if_pos rfl]
        exact Rw.base
      · rw [if_neg q] at hv2
        omega
  · rw [if_neg (show ¬ (40 : Int32) < nI j from nI_nlt (a := 40) (by omega) (by omega))]
    refine ⟨(vp_nI (by omega)).mpr (by omega), ?_⟩
    rw [nI_clamp (show j < 2 ^ 31 by omega), nI_1]
    refine hK _ _ ⟨j + 1, rfl, by omega, fun a k ha => ?_, fun a k => ?_, fun k hk => ?_⟩ (by rw [nI_clamp (by omega), nI_clamp (by omega)]; omega)
    · rw [gI_sI, if_neg (fun q => ha q.1)]
      exact f1 a k ha
    · rw [gL_sI]
      exact f2 a k
    · rw [gI_sI]
      by_cases q : k = j
      · rw [if_pos ⟨rfl, q⟩]
        rfl
      · rw [if_neg (fun w => q w.2)]
        exact f3 k (by omega)
