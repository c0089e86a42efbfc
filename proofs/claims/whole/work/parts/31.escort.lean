/-! walkers who go along -/
def EE (n p e : Nat) (u v w : Nat) : Prop := w = 1 ∧ ∃ a b t, a ≤ p ∧ b ≤ e ∧ t ≤ n ∧ u = 10 * a + b ∧ ((t ≤ a ∧ n - t ≤ b ∧ v = 10 * (a - t) + (b - (n - t))) ∨ (a + t ≤ p ∧ b + (n - t) ≤ e ∧ v = 10 * (a + t) + (b + (n - t))))
def sD (n : Nat) (a b t : Nat) (d : Nat → Nat) : Prop := t ≤ a → n - t ≤ b → d (10 * (a - t) + (b - (n - t))) ≤ d (10 * a + b) + 1
def sU (n p e : Nat) (a b t : Nat) (d : Nat → Nat) : Prop := a + t ≤ p → b + (n - t) ≤ e → d (10 * (a + t) + (b + (n - t))) ≤ d (10 * a + b) + 1
def satE (n p e : Nat) (a b t : Nat) (d : Nat → Nat) : Prop := ∀ a' b' t', (a' < a ∨ (a' = a ∧ (b' < b ∨ (b' = b ∧ t' < t)))) → b' ≤ e → t' ≤ n → sD n a' b' t' d ∧ sU n p e a' b' t' d
abbrev LvE (hb : Hp) (n p e s : Nat) (d0 : Nat → Nat) (a b t : Nat) (f : Int32) (h : Hp) : Prop := Lv hb 79 100 (EE n p e) s d0 (satE n p e a b t) f h
theorem Lv.imp2 {hb : Hp} {c n : Nat} {E : Nat → Nat → Nat → Prop} {s : Nat} {d0 : Nat → Nat} {sat sat' : (Nat → Nat) → Prop} {f : Int32} {h : Hp} (L : Lv hb c n E s d0 sat f h) (hs : ∀ d : Nat → Nat, (∀ k, k < n → gI h c k = nI (d k)) → (∀ k, d k ≤ 1000000) → sat d → sat' d) : Lv hb c n E s d0 sat' f h := by
  obtain ⟨f1, f2, d, h1, h2, h3, h4, h5⟩ := L
  refine ⟨f1, f2, d, h1, h2, h3, h4, ?_⟩
  rcases h5 with ⟨q1, q2, q3⟩ | q
  · exact Or.inl ⟨q1, q2, hs d h1 h2 q3⟩
  · exact Or.inr q
theorem m_relax {hb h : Hp} {E : Nat → Nat → Nat → Prop} {s : Nat} {d0 : Nat → Nat} {sat sat' : (Nat → Nat) → Prop} {f : Int32} (L : Lv hb 79 100 E s d0 sat f h) {u a b : Nat} (hu : u < 100) (hv : 10 * a + b < 100) (e : E u (10 * a + b) 1) (hs : ∀ d, sat d → d (10 * a + b) ≤ d u + 1 → sat' d) {Q : Int32 → Hp → Prop}
    (h0 : Lv hb 79 100 E s d0 sat' f h → Q 0 h) (h1 : ∀ h', Lv hb 79 100 E s d0 sat' 1 h' → Q 1 h') : wX12_relax 55 (nI u) (nI a) (nI b) h Q := by
  unfold wX12_relax
  have ev : (10 : Int32) * nI a + nI b = nI (10 * a + b) := by simp (disch := omega) only [lit, nI_ltI, nI_leI, nI_eq, nI_clamp, nI_add, vp_nI, nI_ne_neg, neg_ne_nI, pk_sub, pk_mul, pk_div, Nat.reduceAdd, Nat.reduceMul, Nat.reducePow, e_mn, e_mx, e_rm, lt_t, lt_f, le_t, le_f, eq_f, eq_t, ↓reduceIte, true_and, and_true, and_false, false_and, and_self, or_true, or_false, true_or, false_or, not_true, not_false_iff]
  obtain ⟨du, dv, k1, k2, e1, e2, hr⟩ := L.relax (sat' := sat') hu hv (by omega) e
  have vv : vp_in (nI (10 * a + b)) 100 := (vp_nI (by omega)).mpr hv
  rw [ev]
  simp only [rf_55_40, ln_79, nI_clamp (show u < 2 ^ 31 by omega), nI_clamp (show 10 * a + b < 2 ^ 31 by omega), e1, e2, forall_eq, nI_1]
  refine ⟨(vp_nI (by omega)).mpr hu, vv, ?_⟩
  rcases hr with ⟨q, hr⟩ | ⟨q, hr⟩
  · rw [if_neg (nI_nlt (by omega) (by omega))]
    exact h0 (hr hs)
  · rw [if_pos (nI_lt (by omega) (by omega))]
    exact ⟨vv, h1 _ hr⟩
theorem m_es146 {hb h : Hp} {n p e s a b t : Nat} {d0 : Nat → Nat} {f : Int32} (hp : p ≤ 9) (he : e ≤ 9) (hn : n ≤ 6) (ha : a ≤ p) (hb1 : b ≤ e) (ht : t ≤ n) (L : Lv hb 79 100 (EE n p e) s d0 (fun d => satE n p e a b t d ∧ sD n a b t d) f h) {K41 : Int32 → Hp → Prop} {K52 K61 K92 : Int32 → Int32 → Hp → Prop} {Q : Int32 → Hp → Prop}
    (hK : ∀ f' h', LvE hb n p e s d0 a b (t + 1) f' h' → K92 f' (nI (t + 1)) h') : jX12_escorted_146 55 (nI n) (nI p) (nI e) f (nI a) (nI b) (nI t) (nI (n - t)) h K41 K52 K61 K92 Q := by
  unfold jX12_escorted_146
  have ep : nI p - nI a = nI (p - a) := by simp (disch := omega) only [lit, nI_ltI, nI_leI, nI_eq, nI_clamp, nI_add, vp_nI, nI_ne_neg, neg_ne_nI, pk_sub, pk_mul, pk_div, Nat.reduceAdd, Nat.reduceMul, Nat.reducePow, e_mn, e_mx, e_rm, lt_t, lt_f, le_t, le_f, eq_f, eq_t, ↓reduceIte, true_and, and_true, and_false, false_and, and_self, or_true, or_false, true_or, false_or, not_true, not_false_iff]
  have ee : nI e - nI b = nI (e - b) := by simp (disch := omega) only [lit, nI_ltI, nI_leI, nI_eq, nI_clamp, nI_add, vp_nI, nI_ne_neg, neg_ne_nI, pk_sub, pk_mul, pk_div, Nat.reduceAdd, Nat.reduceMul, Nat.reducePow, e_mn, e_mx, e_rm, lt_t, lt_f, le_t, le_f, eq_f, eq_t, ↓reduceIte, true_and, and_true, and_false, false_and, and_self, or_true, or_false, true_or, false_or, not_true, not_false_iff]
  have eu : (10 : Int32) * nI a + nI b = nI (10 * a + b) := by simp (disch := omega) only [lit, nI_ltI, nI_leI, nI_eq, nI_clamp, nI_add, vp_nI, nI_ne_neg, neg_ne_nI, pk_sub, pk_mul, pk_div, Nat.reduceAdd, Nat.reduceMul, Nat.reducePow, e_mn, e_mx, e_rm, lt_t, lt_f, le_t, le_f, eq_f, eq_t, ↓reduceIte, true_and, and_true, and_false, false_and, and_self, or_true, or_false, true_or, false_or, not_true, not_false_iff]
  simp only [ep, ee, eu, nI_add, nI_1, forall_eq]
  have ext : ∀ d : Nat → Nat, satE n p e a b t d → sD n a b t d → sU n p e a b t d → satE n p e a b (t + 1) d := by
    intro d hd h1 h2 a' b' t' q1 q2 q3
    by_cases z : a' = a ∧ b' = b ∧ t' = t
    · obtain ⟨rfl, rfl, rfl⟩ := z
      exact ⟨h1, h2⟩
    · exact hd a' b' t' (by omega) q2 q3
  by_cases c1 : p - a < t
  · rw [if_pos (nI_lt c1 (by omega))]
    exact hK f h (L.imp (fun d hd => ext d hd.1 hd.2 (fun q _ => by omega)))
  · rw [if_neg (nI_nlt (by omega) (by omega))]
    by_cases c2 : e - b < n - t
    · rw [if_pos (nI_lt c2 (by omega))]
      exact hK f h (L.imp (fun d hd => ext d hd.1 hd.2 (fun _ q => by omega)))
    · rw [if_neg (nI_nlt (by omega) (by omega))]
      apply m_relax L (sat' := satE n p e a b (t + 1)) (by omega) (by omega) ⟨rfl, a, b, t, ha, hb1, ht, rfl, Or.inr ⟨by omega, by omega, rfl⟩⟩ (fun d hd q => ext d hd.1 hd.2 (fun _ _ => q))
      · intro L'
        rw [if_pos rfl]
        exact hK f h L'
      · intro h' L'
        rw [if_neg (by decide)]
        exact hK 1 h' L'
theorem m_es92 {hb h : Hp} {n p e s a b : Nat} {d0 : Nat → Nat} {f : Int32} (hp : p ≤ 9) (he : e ≤ 9) (hn : n ≤ 6) (ha : a ≤ p) (hb1 : b ≤ e) (L : LvE hb n p e s d0 a b 0 f h) {K41 : Int32 → Hp → Prop} {K52 K61 : Int32 → Int32 → Hp → Prop} {Q : Int32 → Hp → Prop}
    (hK : ∀ f' h', LvE hb n p e s d0 a (b + 1) 0 f' h' → K61 f' (nI (b + 1)) h') : eX12_escorted_92 55 (nI n) (nI p) (nI e) (nI a) (nI b) K41 K52 K61 Q f 0 h := by
  refine iX12_escorted_92 (I := fun f x h => ∃ t : Nat, x = nI t ∧ t ≤ n + 1 ∧ LvE hb n p e s d0 a b t f h) (μ := fun _ x _ => n + 1 - x.toNatClampNeg) ?_ f 0 h ⟨0, rfl, by omega, L⟩
  rintro f x h ⟨t, rfl, ht, L⟩ K hK2
  unfold fX12_escorted_92
  by_cases c : n < t
  · rw [if_pos (nI_lt c (by omega))]
    simp only [forall_eq, nI_1]
    exact hK f h (L.imp (fun d hd a' b' t' q1 q2 q3 => hd a' b' t' (by omega) q2 q3))
  · rw [if_neg (nI_nlt (by omega) (by omega))]
    have en : nI n - nI t = nI (n - t) := by simp (disch := omega) only [lit, nI_ltI, nI_leI, nI_eq, nI_clamp, nI_add, vp_nI, nI_ne_neg, neg_ne_nI, pk_sub, pk_mul, pk_div, Nat.reduceAdd, Nat.reduceMul, Nat.reducePow, e_mn, e_mx, e_rm, lt_t, lt_f, le_t, le_f, eq_f, eq_t, ↓reduceIte, true_and, and_true, and_false, false_and, and_self, or_true, or_false, true_or, false_or, not_true, not_false_iff]
    have eu : (10 : Int32) * nI a + nI b = nI (10 * a + b) := by simp (disch := omega) only [lit, nI_ltI, nI_leI, nI_eq, nI_clamp, nI_add, vp_nI, nI_ne_neg, neg_ne_nI, pk_sub, pk_mul, pk_div, Nat.reduceAdd, Nat.reduceMul, Nat.reducePow, e_mn, e_mx, e_rm, lt_t, lt_f, le_t, le_f, eq_f, eq_t, ↓reduceIte, true_and, and_true, and_false, false_and, and_self, or_true, or_false, true_or, false_or, not_true, not_false_iff]
    simp only [forall_eq, en, eu]
    have go : ∀ f' h', LvE hb n p e s d0 a b (t + 1) f' h' → K f' (nI (t + 1)) h' := fun f' h' L' => hK2 f' _ h' ⟨t + 1, rfl, by omega, L'⟩ (by rw [nI_clamp (by omega), nI_clamp (by omega)]; omega)
    by_cases c1 : a < t
    · rw [if_pos (nI_lt c1 (by omega))]
      exact m_es146 hp he hn ha hb1 (by omega) (L.imp (fun d hd => ⟨hd, fun q _ => by omega⟩)) go
    · rw [if_neg (nI_nlt (by omega) (by omega))]
      by_cases c2 : b < n - t
      · rw [if_pos (nI_lt c2 (by omega))]
        exact m_es146 hp he hn ha hb1 (by omega) (L.imp (fun d hd => ⟨hd, fun _ q => by omega⟩)) go
      · rw [if_neg (nI_nlt (by omega) (by omega)), show nI a - nI t = nI (a - t) by simp (disch := omega) only [lit, nI_ltI, nI_leI, nI_eq, nI_clamp, nI_add, vp_nI, nI_ne_neg, neg_ne_nI, pk_sub, pk_mul, pk_div, Nat.reduceAdd, Nat.reduceMul, Nat.reducePow, e_mn, e_mx, e_rm, lt_t, lt_f, le_t, le_f, eq_f, eq_t, ↓reduceIte, true_and, and_true, and_false, false_and, and_self, or_true, or_false, true_or, false_or, not_true, not_false_iff], show nI b - nI (n - t) = nI (b - (n - t)) by simp (disch := omega) only [lit, nI_ltI, nI_leI, nI_eq, nI_clamp, nI_add, vp_nI, nI_ne_neg, neg_ne_nI, pk_sub, pk_mul, pk_div, Nat.reduceAdd, Nat.reduceMul, Nat.reducePow, e_mn, e_mx, e_rm, lt_t, lt_f, le_t, le_f, eq_f, eq_t, ↓reduceIte, true_and, and_true, and_false, false_and, and_self, or_true, or_false, true_or, false_or, not_true, not_false_iff]]
        apply m_relax L (sat' := fun d => satE n p e a b t d ∧ sD n a b t d) (by omega) (by omega) ⟨rfl, a, b, t, ha, hb1, by omega, rfl, Or.inl ⟨by omega, by omega, rfl⟩⟩ (fun d hd q => ⟨hd, fun _ _ => q⟩)
        · intro L'
          rw [if_pos rfl]
          exact m_es146 hp he hn ha hb1 (by omega) L' go
        · intro h' L'
          rw [if_neg (by decide)]
          exact m_es146 hp he hn ha hb1 (by omega) L' go
theorem m_es61 {hb h : Hp} {n p e s a : Nat} {d0 : Nat → Nat} {f : Int32} (hp : p ≤ 9) (he : e ≤ 9) (hn : n ≤ 6) (ha : a ≤ p) (L : LvE hb n p e s d0 a 0 0 f h) {K41 : Int32 → Hp → Prop} {K52 : Int32 → Int32 → Hp → Prop} {Q : Int32 → Hp → Prop}
    (hK : ∀ f' h', LvE hb n p e s d0 (a + 1) 0 0 f' h' → K52 f' (nI (a + 1)) h') : eX12_escorted_61 55 (nI n) (nI p) (nI e) (nI a) K41 K52 Q f 0 h := by
  refine iX12_escorted_61 (I := fun f x h => ∃ b : Nat, x = nI b ∧ b ≤ e + 1 ∧ LvE hb n p e s d0 a b 0 f h) (μ := fun _ x _ => e + 1 - x.toNatClampNeg) ?_ f 0 h ⟨0, rfl, by omega, L⟩
  rintro f x h ⟨b, rfl, hb1, L⟩ K hK2
  unfold fX12_escorted_61
  by_cases c : e < b
  · rw [if_pos (nI_lt c (by omega))]
    simp only [forall_eq, nI_1]
    exact hK f h (L.imp (fun d hd a' b' t' q1 q2 q3 => hd a' b' t' (by omega) q2 q3))
  · rw [if_neg (nI_nlt (by omega) (by omega))]
    have eu : (10 : Int32) * nI a + nI b = nI (10 * a + b) := by simp (disch := omega) only [lit, nI_ltI, nI_leI, nI_eq, nI_clamp, nI_add, vp_nI, nI_ne_neg, neg_ne_nI, pk_sub, pk_mul, pk_div, Nat.reduceAdd, Nat.reduceMul, Nat.reducePow, e_mn, e_mx, e_rm, lt_t, lt_f, le_t, le_f, eq_f, eq_t, ↓reduceIte, true_and, and_true, and_false, false_and, and_self, or_true, or_false, true_or, false_or, not_true, not_false_iff]
    have go : ∀ f' h', LvE hb n p e s d0 a (b + 1) 0 f' h' → K f' (nI (b + 1)) h' := fun f' h' L' => hK2 f' _ h' ⟨b + 1, rfl, by omega, L'⟩ (by rw [nI_clamp (by omega), nI_clamp (by omega)]; omega)
    have L0 := L
    obtain ⟨f1, f2, d, h1, h2, h3, h4, h5⟩ := L
    have bu := h2 (10 * a + b)
    have du := h1 (10 * a + b) (by omega)
    simp only [eu, rf_55_40, ln_79, nI_clamp (show 10 * a + b < 2 ^ 31 by omega), du, forall_eq, nI_1]
    refine ⟨(vp_nI (by omega)).mpr (by omega), ?_⟩
    by_cases c1 : d (10 * a + b) < 1000000
    · rw [if_pos (show nI (d (10 * a + b)) < 1000000 from nI_lt (b := 1000000) c1 (by omega))]
      exact m_es92 hp he hn ha (by omega) L0 go
    · rw [if_neg (show ¬ nI (d (10 * a + b)) < 1000000 from nI_nlt (a := d (10 * a + b)) (b := 1000000) (by omega) (by omega))]
      refine go f h (L0.imp2 (fun d' k1 k2 hd a' b' t' q1 q2 q3 => ?_))
      by_cases z : a' = a ∧ b' = b
      · obtain ⟨rfl, rfl⟩ := z
        have : d' (10 * a' + b') = d (10 * a' + b') := (nI_eq (by have := k2 (10 * a' + b'); omega) (by omega)).mp ((k1 _ (by omega)).symm.trans du)
        exact ⟨fun _ _ => by have := k2 (10 * (a' - t') + (b' - (n - t'))); omega, fun _ _ => by have := k2 (10 * (a' + t') + (b' + (n - t'))); omega⟩
      · exact hd a' b' t' (by omega) q2 q3
theorem m_es52 {hb h : Hp} {n p e s : Nat} {d0 : Nat → Nat} (hp : p ≤ 9) (he : e ≤ 9) (hn : n ≤ 6) (L : LvE hb n p e s d0 0 0 0 0 h) {K41 : Int32 → Hp → Prop} {Q : Int32 → Hp → Prop}
    (hK : ∀ f' h', LvE hb n p e s d0 (p + 1) 0 0 f' h' → K41 f' h') : eX12_escorted_52 55 (nI n) (nI p) (nI e) K41 Q 0 0 h := by
  refine iX12_escorted_52 (I := fun f x h => ∃ a : Nat, x = nI a ∧ a ≤ p + 1 ∧ LvE hb n p e s d0 a 0 0 f h) (μ := fun _ x _ => p + 1 - x.toNatClampNeg) ?_ 0 0 h ⟨0, rfl, by omega, L⟩
  rintro f x h ⟨a, rfl, ha, L⟩ K hK2
  unfold fX12_escorted_52
  by_cases c : p < a
  · rw [if_pos (nI_lt c (by omega))]
    have : a = p + 1 := by omega
    subst this
    exact hK f h L
  · rw [if_neg (nI_nlt (by omega) (by omega))]
    exact m_es61 hp he hn (by omega) L (fun f' h' L' => hK2 f' _ h' ⟨a + 1, rfl, by omega, L'⟩ (by rw [nI_clamp (by omega), nI_clamp (by omega)]; omega))
theorem m_es41 {hb h : Hp} {n p e s : Nat} {d : Nat → Nat} (hp : p ≤ 9) (he : e ≤ 9) (hn : n ≤ 6) (L : Lv0 hb 79 100 (EE n p e) s d h) {Q : Int32 → Hp → Prop}
    (hQ : ∀ h' d', Lv0 hb 79 100 (EE n p e) s d' h' → (∀ u v w, EE n p e u v w → d' v ≤ d' u + w) → Q (nI (d' e)) h') : eX12_escorted_41 55 (nI n) (nI p) (nI e) Q 1 h := by
  refine iX12_escorted_41 (I := fun f h => (f = 0 ∨ f = 1) ∧ ∃ d, Lv0 hb 79 100 (EE n p e) s d h ∧ (f = 0 → ∀ u v w, EE n p e u v w → d v ≤ d u + w)) (μ := fun f h => 2 * sumT h 79 100 + f.toNatClampNeg) ?_ 1 h ⟨Or.inr rfl, d, L, fun q => absurd q (by decide)⟩
  rintro f h ⟨hf, d, L, hd⟩ K hK
  unfold fX12_escorted_41
  by_cases q : f = 0
  · rw [if_pos q]
    simp only [rf_55_40, ln_79, nI_clamp (show e < 2 ^ 31 by omega), L.2.2.1 e (by omega)]
    exact ⟨(vp_nI (by omega)).mpr (by omega), hQ h d L (hd q)⟩
  · rw [if_neg q]
    have f1 : f = 1 := hf.resolve_left q
    subst f1
    apply m_es52 hp he hn (L.go (fun a' b' t' q _ _ => by omega))
    intro f' h' L'
    obtain ⟨d', L0, h1⟩ := L'.done L
    rcases h1 with ⟨q1, q2, q3⟩ | ⟨q1, q2⟩
    · subst q1
      refine hK 0 h' ⟨Or.inl rfl, d', L0, fun _ u v w e => ?_⟩ (by rw [q3]; show _ + 0 < _ + 1; omega)
      obtain ⟨rfl, a, b, t, ha, hb1, ht, rfl, ⟨y1, y2, rfl⟩ | ⟨y1, y2, rfl⟩⟩ := e
      · exact (q2 a b t (by omega) hb1 ht).1 y1 y2
      · exact (q2 a b t (by omega) hb1 ht).2 y1 y2
    · subst q1
      exact hK 1 h' ⟨Or.inr rfl, d', L0, fun q => absurd q (by decide)⟩ (by show _ + 1 < _ + 1; omega)
theorem m_escorted {h : Hp} {n p e : Nat} (hp : p ≤ 9) (he : e ≤ 9) (hn : n ≤ 6) {Q : Int32 → Hp → Prop}
    (hQ : ∀ h' d', Lv0 h 79 100 (EE n p e) (10 * p + e) d' h' → (∀ u v w, EE n p e u v w → d' v ≤ d' u + w) → Q (nI (d' e)) h') : wX12_escorted 55 (nI n) (nI p) (nI e) h Q := by
  unfold wX12_escorted
  refine iX12_escorted_3 (I := fun x h2 => ∃ j : Nat, x = nI j ∧ j ≤ 100 ∧ (∀ a k, a ≠ 79 → gI h2 a k = gI h a k) ∧ (∀ a k, gL h2 a k = gL h a k) ∧ ∀ k, k < j → gI h2 79 k = nI 1000000) (μ := fun x _ => 100 - x.toNatClampNeg) ?_ 0 h ⟨0, rfl, by omega, fun _ _ _ => rfl, fun _ _ => rfl, fun k hk => by omega⟩
  rintro x h2 ⟨j, rfl, hj, f1, f2, f3⟩ K hK
  unfold fX12_escorted_3
  have eu : (10 : Int32) * nI p + nI e = nI (10 * p + e) := by simp (disch := omega) only [lit, nI_ltI, nI_leI, nI_eq, nI_clamp, nI_add, vp_nI, nI_ne_neg, neg_ne_nI, pk_sub, pk_mul, pk_div, Nat.reduceAdd, Nat.reduceMul, Nat.reducePow, e_mn, e_mx, e_rm, lt_t, lt_f, le_t, le_f, eq_f, eq_t, ↓reduceIte, true_and, and_true, and_false, false_and, and_self, or_true, or_false, true_or, false_or, not_true, not_false_iff]
  simp only [rf_55_40, ln_79, forall_eq, eu]
  by_cases q : 100 ≤ j
  · rw [if_pos (show (100 : Int32) ≤ nI j from nI_le (a := 100) q (by omega))]
    have : j = 100 := by omega
    subst this
    refine ⟨(vp_nI (by omega)).mpr (by omega), ?_⟩
    rw [nI_clamp (show 10 * p + e < 2 ^ 31 by omega)]
    generalize hs : 10 * p + e = s at hQ ⊢
    refine m_es41 (hb := h) (s := s) (d := fun k => if k = s then 0 else 1000000) hp he hn ⟨fun a k ha => ?_, fun a k => ?_, fun k hk => ?_, fun k => ?_, ?_, fun v hv hv2 => ?_⟩ hQ
    · rw [gI_sI, if_neg (fun q => ha q.1)]
      exact f1 a k ha
    · rw [gL_sI]
      exact f2 a k
    · rw [gI_sI]
      show _ = nI (if k = s then 0 else 1000000)
      by_cases q : k = s
      · rw [if_pos ⟨rfl, q⟩, if_pos q]
        rfl
      · rw [if_neg (fun w => q w.2), if_neg q]
        exact f3 k hk
    · show (if k = s then 0 else 1000000) ≤ 1000000
      split <;> omega
    · show (if s = s then 0 else 1000000) = 0
      rw [if_pos rfl]
    · have hv2 : (if v = s then 0 else 1000000) < 1000000 := hv2
      by_cases q : v = s
      · subst q
        show Rw _ v (if v = v then 0 else 1000000) v
        rw [if_pos rfl]
        exact Rw.base
      · rw [if_neg q] at hv2
        omega
  · rw [if_neg (show ¬ (100 : Int32) ≤ nI j from nI_ge (b := 100) (by omega) (by omega))]
    refine ⟨(vp_nI (by omega)).mpr (by omega), ?_⟩
    rw [nI_clamp (show j < 2 ^ 31 by omega), nI_1]
    refine hK _ _ ⟨j + 1, rfl, by omega, fun a k ha => ?_, fun a k => ?_, fun k hk => ?_⟩ (by rw [nI_clamp (by omega), nI_clamp (by omega)]; omega)
    · rw [gI_sI, if_neg (fun q => ha q.1)]
      exact f1 a k ha
    · rw [gL_sI]
      exact f2 a k
    · rw [gI_sI]
      by_cases q : k = j
      · rw [if_pos ⟨rfl, q⟩]
        rfl
      · rw [if_neg (fun w => q w.2)]
        exact f3 k (by omega)
theorem es_mod {n p e : Nat} (he : e ≤ 9) {k v : Nat} (h : Rw (EE n p e) (10 * p + e) k v) : (v / 10 + v % 10) % n = (p + e) % n := by
  refine h (fun _ v => (v / 10 + v % 10) % n = (p + e) % n) (by rw [show (10 * p + e) / 10 + (10 * p + e) % 10 = p + e by omega]) (fun k u v w ih ed => ?_)
  obtain ⟨rfl, a, b, t, ha, hb1, ht, rfl, ⟨y1, y2, rfl⟩ | ⟨y1, y2, rfl⟩⟩ := ed
  · rw [← ih, show (10 * a + b) / 10 + (10 * a + b) % 10 = ((10 * (a - t) + (b - (n - t))) / 10 + (10 * (a - t) + (b - (n - t))) % 10) + n by omega, Nat.add_mod_right]
  · rw [← ih, show (10 * (a + t) + (b + (n - t))) / 10 + (10 * (a + t) + (b + (n - t))) % 10 = ((10 * a + b) / 10 + (10 * a + b) % 10) + n by omega, Nat.add_mod_right]
theorem es_low {n p e : Nat} (he : e ≤ 9) {k v : Nat} (h : Rw (EE n p e) (10 * p + e) k v) : p + e ≤ v / 10 + v % 10 + n * k := by
  refine h (fun k v => p + e ≤ v / 10 + v % 10 + n * k) (by omega) (fun k u v w ih ed => ?_)
  obtain ⟨rfl, a, b, t, ha, hb1, ht, rfl, ⟨y1, y2, rfl⟩ | ⟨y1, y2, rfl⟩⟩ := ed
  · rw [Nat.mul_succ]
    omega
  · rw [Nat.mul_succ]
    omega
theorem es_up {n p : Nat} {d : Nat → Nat} (hp : p ≤ 9) (h0 : d (10 * p + 0) = 0) (F : ∀ u v w, EE n p 0 u v w → d v ≤ d u + w) : ∀ i, n * i ≤ p → d (10 * (p - n * i) + 0) ≤ i
  | 0, _ => by rw [Nat.mul_zero, Nat.sub_zero, h0]; omega
  | i + 1, hi => by
    rw [Nat.mul_add, Nat.mul_one] at hi
    have ih := es_up hp h0 F i (by omega)
    have := F (10 * (p - n * i) + 0) (10 * (p - n * i - n) + (0 - (n - n))) 1 ⟨rfl, p - n * i, 0, n, by omega, by omega, by omega, rfl, Or.inl ⟨by omega, by omega, rfl⟩⟩
    rw [Nat.mul_add, Nat.mul_one, show p - (n * i + n) = p - n * i - n by omega]
    have e : 0 - (n - n) = 0 := by omega
    rw [e] at this
    omega
-- escort
theorem es_dec : ∀ p, p < 10 → ∀ e, e < 10 → ∀ n, n < 7 → e % n = (p + e) % n → p % n = 0 := by decide
theorem m_esN {h : Hp} {n p i : Nat} {x2 x1 : Int32} (hx : x1 / (10 : Int32) = nI i) (hi : i < 3) (hn0 : gI h 56 i = nI n) (hy : rm x1 (10 : Int32) = nI p) (hp : p ≤ 9) (hn1 : 1 ≤ n) (hn : n ≤ 6) (hm : p % n ≠ 0) {Q : Int32 → Hp → Prop}
    (hQ : ∀ h2 : Hp, (∀ a k, a ≠ 79 → gI h2 a k = gI h a k) → (∀ a k, gL h2 a k = gL h a k) → Q (-2) h2) : eX12_escort_28 55 x1 x2 Q 0 h := by
  refine iX12_escort_28 (I := fun x h2 => ∃ e : Nat, x = nI e ∧ e ≤ 10 ∧ (∀ a k, a ≠ 79 → gI h2 a k = gI h a k) ∧ (∀ a k, gL h2 a k = gL h a k)) (μ := fun x _ => 10 - x.toNatClampNeg) ?_ 0 h ⟨0, rfl, by omega, fun _ _ _ => rfl, fun _ _ => rfl⟩
  rintro x h2 ⟨e, rfl, he, f1, f2⟩ K hK
  unfold fX12_escort_28
  by_cases q : 9 < e
  · rw [if_pos (show (9 : Int32) < nI e from nI_lt (a := 9) q (by omega))]
    exact hQ h2 f1 f2
  · rw [if_neg (show ¬ (9 : Int32) < nI e from nI_nlt (a := 9) (by omega) (by omega))]
    simp only [hx, hy, rf_55_2, ln_56, nI_clamp (show i < 2 ^ 31 by omega), f1 56 i (by decide), hn0]
    refine ⟨(vp_nI (by omega)).mpr hi, ?_⟩
    apply m_escorted hp (by omega) hn
    intro h3 d L F
    have : ¬ d e < 1000000 := by
      intro q
      have := es_mod (by omega) (L.2.2.2.2.2 e (by omega) q)
      rw [show e / 10 + e % 10 = e by omega] at this
      exact hm (es_dec p (by omega) e (by omega) n (by omega) this)
    rw [if_pos ((m1e6 (L.2.2.2.1 e)).mpr this)]
    simp only [forall_eq, nI_1]
    exact hK _ h3 ⟨e + 1, rfl, by omega, fun a k ha => (L.1 a k ha).trans (f1 a k ha), fun a k => (L.2.1 a k).trans (f2 a k)⟩ (by rw [nI_clamp (by omega), nI_clamp (by omega)]; omega)
theorem m_es0 {h : Hp} {n p i : Nat} {x2 x1 : Int32} (hx : x1 / (10 : Int32) = nI i) (hi : i < 3) (hn0 : gI h 56 i = nI n) (hy : rm x1 (10 : Int32) = nI p) (hp : p ≤ 9) (hn1 : 1 ≤ n) (hn : n ≤ 6) (hm : p % n = 0) {Q : Int32 → Hp → Prop}
    (hQ : ∀ h2 : Hp, (∀ a k, a ≠ 79 → gI h2 a k = gI h a k) → (∀ a k, gL h2 a k = gL h a k) → Q (if x2 = 0 then 0 else nI (p / n)) h2) : eX12_escort_28 55 x1 x2 Q 0 h := by
  refine iX12_escort_28 (I := fun x h2 => x = nI 0 ∧ h2 = h) (μ := fun x _ => 0) ?_ 0 h ⟨rfl, rfl⟩
  rintro x h2 ⟨rfl, rfl⟩ K hK
  unfold fX12_escort_28
  rw [if_neg (show ¬ (9 : Int32) < nI 0 by decide)]
  simp only [hx, hy, rf_55_2, ln_56, nI_clamp (show i < 2 ^ 31 by omega), hn0]
  refine ⟨(vp_nI (by omega)).mpr hi, ?_⟩
  apply m_escorted hp (by omega) hn
  intro h3 d L F
  have e : n * (p / n) = p := by
    have := Nat.div_add_mod p n
    omega
  have up := es_up hp L.2.2.2.2.1 F (p / n) (by omega)
  rw [e, Nat.sub_self] at up
  have le9 : p / n ≤ 9 := Nat.le_trans (Nat.div_le_self _ _) hp
  have up : d 0 ≤ p / n := up
  have low := es_low (by omega) (L.2.2.2.2.2 0 (by omega) (by omega))
  have d0 : d 0 = p / n := by
    have low : p ≤ n * d 0 := by omega
    apply Nat.le_antisymm up
    apply Nat.le_of_not_lt
    intro q
    have : n * (d 0 + 1) ≤ n * (p / n) := Nat.mul_le_mul_left n q
    rw [e, Nat.mul_succ] at this
    omega
  rw [d0, if_neg (fun q => (m1e6 (by omega)).mp q (by omega))]
  have := hQ h3 L.1 L.2.1
  by_cases z : x2 = 0
  · rw [if_pos z] at this ⊢
    exact this
  · rw [if_neg z] at this ⊢
    exact this
theorem Inv.f79 {h h2 : Hp} (I : Inv h) (f1 : ∀ a k, a ≠ 79 → gI h2 a k = gI h a k) (f2 : ∀ a k, gL h2 a k = gL h a k) : Inv h2 :=
  I.same (fun a k q => f1 a k (by rintro rfl; simp [usd, usD] at q)) (fun a k _ => f2 a k)
set_option maxRecDepth 20000 in
set_option maxHeartbeats 1000000 in
theorem ok_escort {h : Hp} (I : Inv h) (x1 : Int32) (x2 : Int32) {A1 : Prop} (b1 : A1) {A2 : Prop} (b2 : A2) {R : Hp → Prop} {Q0 : Prop} (hR : ∀ h', Inv h' → R h') : wX11_escort 0 x1 x2 h (fun v => A1 ∧ (A2 ∧ (wX12_escort 55 x1 x2 h (fun v' h2 => if v = v' then R h2 else Q0)))) := by
  obtain ⟨g, num, G⟩ := I.gates
  have G0 := G
  obtain ⟨hg, e1, e2, hn⟩ := G0
  unfold wX11_escort
  by_cases x0 : x1 < 0
  · rw [if_pos x0]
    refine ⟨b1, b2, ?_⟩
    unfold wX12_escort
    rw [if_pos x0]
    exact fin rfl (hR h I)
  · rw [if_neg x0]
    have open_m : ∀ Q : Int32 → Hp → Prop, (if x1 / (10 : Int32) < 0 ∨ ¬ x1 / (10 : Int32) < nI g then Q (-1) h else if x2 < 0 ∨ 1 < x2 then Q (-1) h else eX12_escort_28 55 x1 x2 Q 0 h) → wX12_escort 55 x1 x2 h Q := by
      intro Q hQ
      unfold wX12_escort
      rw [if_neg x0, e_isGate _ e2 (by omega)]
      by_cases q : x1 / (10 : Int32) < 0 ∨ ¬ x1 / (10 : Int32) < nI g
      · rw [if_pos q] at hQ ⊢
        rw [if_pos rfl]
        exact hQ
      · rw [if_neg q] at hQ ⊢
        rw [if_neg (by decide), e_in]
        by_cases q2 : x2 < 0 ∨ 1 < x2
        · rw [if_pos q2] at hQ ⊢
          rw [if_pos rfl]
          exact hQ
        · rw [if_neg q2] at hQ ⊢
          rw [if_neg (by decide)]
          exact hQ
    rw [rf_0_0, e_gHas, e1]
    rcases ix (x1 / (10 : Int32)) g (by omega) with c | ⟨i, hi, hx, c⟩
    · rw [if_pos c, if_pos rfl]
      refine ⟨b1, b2, open_m _ ?_⟩
      rw [if_pos c]
      exact fin rfl (hR h I)
    · rw [hx] at open_m ⊢
      rw [if_neg c, if_neg (by decide)]
      simp only [if_neg c] at open_m
      rcases bd x2 0 1 (l := 0) (u := 1) rfl rfl (by omega) (by omega) with d | ⟨y, d1, d2, rfl, d⟩
      · simp only [if_pos d] at open_m
        by_cases d0 : x2 < 0
        · rw [if_pos d0]
          exact ⟨b1, b2, open_m _ (fin rfl (hR h I))⟩
        · rw [if_neg d0, if_neg (Int32.not_le.mpr (d.resolve_left d0))]
          exact ⟨b1, b2, open_m _ (fin rfl (hR h I))⟩
      · simp only [if_neg d] at open_m
        rw [if_neg (show ¬ nI y < 0 from fun q => d (Or.inl q)), if_pos (nl (show ¬ (1 : Int32) < nI y from fun q => d (Or.inr q)))]
        obtain ⟨m, hm, rfl⟩ := nI_of x0
        have hy : rm (nI m) (10 : Int32) = nI (m % 10) := e_rm (d := 10) hm (by omega) (by omega)
        obtain ⟨y1, y2, y3, y4⟩ := hn i hi
        unfold wX4_numberOf
        rw [e_gHas, e1, if_neg c, if_neg (by decide), rf_1_0, ln_2, nI_clamp (show i < 2 ^ 31 by omega), y1, hy]
        simp only []
        rw [e_rm (by omega) (by omega) (by omega), pk_div (by omega) (by omega) (by omega)]
        have n0 : ¬ nI (num i) = 0 := nI_ne0 (by omega) (by omega)
        refine ⟨(vp_nI (by omega)).mpr (by omega), n0, ?_⟩
        by_cases z : m % 10 % num i = 0
        · rw [if_pos (show nI (m % 10 % num i) = 0 by rw [z]; rfl)]
          have go : ∀ v : Int32, v = (if nI y = 0 then 0 else nI (m % 10 / num i)) → wX12_escort 55 (nI m) (nI y) h (fun v' h2 => if v = v' then R h2 else Q0) := by
            intro v hv
            apply open_m
            apply m_es0 hx (by omega) y2 hy (by omega) y3 y4 z
            intro h2 f1 f2
            exact fin hv (hR h2 (I.f79 f1 f2))
          by_cases w : nI y = 0
          · rw [if_pos w]
            exact ⟨b1, b2, go 0 (by rw [if_pos w])⟩
          · rw [if_neg w]
            exact ⟨n0, b1, b2, go _ (by rw [if_neg w])⟩
        · rw [if_neg (nI_ne0 (by omega) (by have := Nat.mod_lt (m % 10) (show num i > 0 by omega); omega))]
          refine ⟨b1, b2, open_m _ ?_⟩
          apply m_esN hx (by omega) y2 hy (by omega) y3 y4 z
          intro h2 f1 f2
          exact fin rfl (hR h2 (I.f79 f1 f2))
