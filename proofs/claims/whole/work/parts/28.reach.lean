def st1 (s : Nat) : Nat → Bool := fun i => decide (i = s)
theorem st1_bd {s M : Nat} (h : s ≤ M) : ∀ i, st1 s i = true → i < M + 1 := by
  intro i hi
  have : i = s := of_decide_eq_true hi
  omega
theorem st1_s (s : Nat) : st1 s s = true := decide_eq_true rfl
theorem isS_st1 {s : Nat} (h : s < 64) : isS (shlL 1 (nI s)) (st1 s) := fun i => bL_s1 h i
theorem it_iff {g M s : Nat} {num : Nat → Nat} (hs : s ≤ M) {k v : Nat} : itP g num M (st1 s) k v = true ↔ ∃ k', k' ≤ k ∧ Rw (EL g num M) s k' v := by
  constructor
  · induction k generalizing v with
    | zero =>
      intro h
      have : v = s := of_decide_eq_true h
      subst this
      exact ⟨0, Nat.le_refl _, Rw.base⟩
    | succ k ih =>
      intro h
      have hb : v < M + 1 := itP_bd (st1_bd hs) (k + 1) v h
      rcases (one_iff g).mp h with h | ⟨j, hj, h | ⟨h1, h2, h3⟩⟩
      · obtain ⟨k', q1, q2⟩ := ih h
        exact ⟨k', by omega, q2⟩
      · obtain ⟨k', q1, q2⟩ := ih h
        have hb2 : v + num j < M + 1 := itP_bd (st1_bd hs) k _ h
        exact ⟨k' + 1, by omega, q2.step ⟨rfl, by omega, by omega, j, hj, Or.inl rfl⟩⟩
      · obtain ⟨k', q1, q2⟩ := ih h3
        exact ⟨k' + 1, by omega, q2.step ⟨rfl, by omega, by omega, j, hj, Or.inr (by omega)⟩⟩
  · rintro ⟨k', hk, h⟩
    refine itN_mono' op_mono (h (fun k v => itP g num M (st1 s) k v = true) (st1_s s) (fun k u v w ih e => ?_)) hk
    obtain ⟨rfl, hu, hv, j, hj, e | e⟩ := e
    · subst e
      exact (one_iff g).mpr (Or.inr ⟨j, hj, Or.inl ih⟩)
    · subst e
      exact (one_iff g).mpr (Or.inr ⟨j, hj, Or.inr ⟨by omega, hv, by rwa [Nat.add_sub_cancel]⟩⟩)
/-- the table of the reference and the sets of the class -/
theorem lv_it {h h2 : Hp} {g M s : Nat} {num d : Nat → Nat} (hM : M ≤ 40) (hs : s ≤ M) (L : Lv0 h 78 41 (EL g num M) s d h2) (F : ∀ u v w, EL g num M u v w → d v ≤ d u + w) :
    (∀ v, v ≤ M → (d v < 1000000 ↔ itP g num M (st1 s) M v = true)) ∧ (∀ v k, itP g num M (st1 s) k v = true → d v ≤ k) ∧ (∀ v, v ≤ M → d v < 1000000 → itP g num M (st1 s) (d v) v = true) := by
  obtain ⟨f1, f2, h1, h2, h3, h4⟩ := L
  have a : ∀ v k, itP g num M (st1 s) k v = true → d v ≤ k := by
    intro v k q
    obtain ⟨k', q1, q2⟩ := (it_iff hs).mp q
    have := Rw_le h3 F q2
    omega
  have b : ∀ v, v ≤ M → d v < 1000000 → itP g num M (st1 s) (d v) v = true := fun v hv q => (it_iff hs).mpr ⟨d v, Nat.le_refl _, h4 v (by omega) q⟩
  refine ⟨fun v hv => ⟨fun q => ?_, fun q => ?_⟩, a, b⟩
  · have := b v hv q
    by_cases c : d v ≤ M
    · exact itN_mono' op_mono this c
    · rwa [itP_fix (st1_bd hs) (st1_s s) (by omega)] at this
  · have := a v M q
    omega
theorem Lv0.inv {h h2 : Hp} {c n s : Nat} {E : Nat → Nat → Nat → Prop} {d : Nat → Nat} (L : Lv0 h c n E s d h2) (I : Inv h) (hc : c = 78 ∨ c = 79) : Inv h2 :=
  I.same (fun a k q => L.1 a k (by rintro rfl; rcases hc with rfl | rfl <;> simp [usd, usD] at q)) (fun a k _ => L.2.1 a k)
theorem c_steps {h : Hp} {g M s v : Nat} {num : Nat → Nat} (G : GN h g num) (hM : M ≤ 40) (hs : s ≤ M) (hv : v ≤ M) {Q : Int32 → Prop}
    (h1 : ∀ k, k ≤ M → itP g num M (st1 s) k v = true → (∀ k', k' < k → itP g num M (st1 s) k' v = false) → Q (nI k)) (h2 : (∀ k, k ≤ M → itP g num M (st1 s) k v = false) → Q (-2)) : wX4_fewestPassings 1 (nI s) (nI M) (nI v) h Q := by
  unfold wX4_fewestPassings
  simp only [forall_eq]
  refine iX4_fewestPassings_8 (I := fun x y => ∃ k : Nat, y = nI k ∧ k ≤ M + 1 ∧ isS x (itP g num M (st1 s) k) ∧ ∀ k', k' < k → itP g num M (st1 s) k' v = false) (μ := fun _ y => M + 1 - y.toNatClampNeg) ?_ _ 0 ⟨0, rfl, by omega, isS_st1 (by omega), fun k' hk => by omega⟩
  rintro x y ⟨k, rfl, hk, hx, hn⟩ K hK
  unfold fX4_fewestPassings_8
  by_cases c : M < k
  · rw [if_pos (nI_lt c (by omega))]
    exact h2 (fun k' hk' => hn k' (by omega))
  · rw [if_neg (nI_nlt (by omega) (by omega)), e_hold hx (by omega)]
    cases q : itP g num M (st1 s) k v
    · simp only [Bool.false_eq_true, ↓reduceIte]
      apply c_one G hM hx (itP_bd (st1_bd hs) k)
      intro z hz
      simp only [forall_eq, nI_1]
      refine hK z _ ⟨k + 1, rfl, by omega, hz, fun k' hk' => ?_⟩ (by rw [nI_clamp (by omega), nI_clamp (by omega)]; omega)
      by_cases e : k' = k
      · subst e; exact q
      · exact hn k' (by omega)
    · simp only [↓reduceIte, ne10]
      exact h1 k (by omega) q hn
theorem cnt_ab {a b : Nat} (h1 : a ≤ b) (h2 : b ≤ 40) : rm (nI (100 * a + b)) (100 : Int32) = nI b ∧ nI (100 * a + b) / (100 : Int32) = nI a := by
  constructor
  · show rm (nI (100 * a + b)) (nI 100) = nI b
    rw [e_rm (by omega) (by omega) (by omega)]
    congr 1; omega
  · show nI (100 * a + b) / nI 100 = nI a
    rw [pk_div (by omega) (by omega) (by omega)]
    congr 1; omega
theorem m1e6 {n : Nat} (h : n ≤ 1000000) : ((1000000 : Int32) ≤ nI n) ↔ ¬ n < 1000000 := by
  show nI 1000000 ≤ nI n ↔ _
  rw [nI_leI (by omega) (by omega)]
  omega
-- steps
set_option maxRecDepth 20000 in
set_option maxHeartbeats 1000000 in
theorem ok_steps {h : Hp} (I : Inv h) (x1 : Int32) (x2 : Int32) {A1 : Prop} (b1 : A1) {A2 : Prop} (b2 : A2) {R : Hp → Prop} {Q0 : Prop} (hR : ∀ h', Inv h' → R h') : wX11_steps 0 x1 x2 h (fun v => A1 ∧ (A2 ∧ (wX12_steps 55 x1 x2 h (fun v' h2 => if v = v' then R h2 else Q0)))) := by
  obtain ⟨g, num, G⟩ := I.gates
  unfold wX11_steps
  rw [within_eq]
  rcases counts (x := x1) h with hc0 | ⟨a, b, hab, hb, rfl, hc0⟩
  · apply hc0
    rw [if_pos rfl]
    refine ⟨b1, b2, ?_⟩
    unfold wX12_steps
    apply hc0
    rw [if_pos rfl]
    exact fin rfl (hR h I)
  · apply hc0
    rw [if_neg (by decide)]
    obtain ⟨e1, e2⟩ := cnt_ab hab hb
    rw [e1, e2]
    have open_m : ∀ Q : Int32 → Hp → Prop, (wX12_in x2 0 (nI b) h (fun v2 => if v2 = 0 then (Q (-1 : Int32) h) else (wX12_findLevels 55 (nI a) (nI b) h (fun h4 => vp_in x2 41 ∧ (if (1000000 : Int32) ≤ (gI h4 78 x2.toNatClampNeg) then (Q (-2 : Int32) h4) else (vp_in x2 41 ∧ (Q (gI h4 78 x2.toNatClampNeg) h4))))))) → wX12_steps 55 (nI (100 * a + b)) x2 h Q := by
      intro Q hQ
      unfold wX12_steps
      apply hc0
      rw [if_neg (by decide), e1, e2]
      exact hQ
    rcases bd x2 0 (nI b) (l := 0) (u := b) rfl rfl (by omega) (by omega) with d | ⟨v, d1, d2, rfl, d⟩
    · have key : wX12_steps 55 (nI (100 * a + b)) x2 h (fun v' h2 => if -1 = v' then R h2 else Q0) := by
        apply open_m
        rw [e_in, if_pos d, if_pos rfl]
        exact fin rfl (hR h I)
      by_cases d0 : x2 < 0
      · rw [if_pos d0]
        exact ⟨b1, b2, key⟩
      · rw [if_neg d0, if_neg (Int32.not_le.mpr (d.resolve_left d0))]
        exact ⟨b1, b2, key⟩
    · rw [if_neg (show ¬ nI v < 0 from fun q => d (Or.inl q)), if_pos (nl (show ¬ nI b < nI v from fun q => d (Or.inr q))), rf_0_0]
      have vv : vp_in (nI v) 41 := (vp_nI (by omega)).mpr (by omega)
      apply c_steps G hb hab d2
      · intro k hk h1 h2
        refine ⟨b1, b2, open_m _ ?_⟩
        rw [e_in, if_neg d, if_neg (by decide)]
        apply m_levels G hb hab
        intro h2' d' L F
        obtain ⟨l1, l2, l3⟩ := lv_it hb hab L F
        refine ⟨vv, ?_⟩
        have hd : d' v = k := by
          have q1 := l2 v k h1
          have q2 := l3 v d2 (by omega)
          by_cases q : d' v < k
          · rw [h2 _ q] at q2
            exact absurd q2 (by decide)
          · omega
        rw [nI_clamp (show v < 2 ^ 31 by omega), L.2.2.1 v (by omega), hd, if_neg (fun q => (m1e6 (by omega)).mp q (by omega))]
        exact ⟨vv, fin rfl (hR h2' (L.inv I (Or.inl rfl)))⟩
      · intro h1
        refine ⟨b1, b2, open_m _ ?_⟩
        rw [e_in, if_neg d, if_neg (by decide)]
        apply m_levels G hb hab
        intro h2' d' L F
        obtain ⟨l1, l2, l3⟩ := lv_it hb hab L F
        refine ⟨vv, ?_⟩
        have hd : ¬ d' v < 1000000 := by
          intro q
          have := (l1 v d2).mp q
          rw [h1 b (Nat.le_refl _)] at this
          exact absurd this (by decide)
        rw [nI_clamp (show v < 2 ^ 31 by omega), L.2.2.1 v (by omega), if_pos ((m1e6 (L.2.2.2.1 v)).mpr hd)]
        exact fin rfl (hR h2' (L.inv I (Or.inl rfl)))
-- reach
theorem m_bits {h : Hp} {b : Nat} {d : Nat → Nat} (hb : b ≤ 40) (hd : ∀ k, k < 41 → gI h 78 k = nI (d k)) (hd2 : ∀ k, d k ≤ 1000000) {x : Int32} (ex : rm x (100 : Int32) = nI b) {Q : Int64 → Hp → Prop} (hQ : ∀ y, isS y (fun i => decide (i ≤ b) && decide (d i < 1000000)) → Q y h) : eX12_reach_29 55 x h Q 0 0 := by
  refine iX12_reach_29 (I := fun y v => ∃ j : Nat, v = nI j ∧ j ≤ b + 1 ∧ isS y (fun i => decide (i < j) && decide (d i < 1000000))) (μ := fun _ v => b + 1 - v.toNatClampNeg) ?_ 0 0 ⟨0, rfl, by omega, fun i => by rw [bL_0]; simp⟩
  rintro y v ⟨j, rfl, hj, hy⟩ K hK
  unfold fX12_reach_29
  rw [ex]
  by_cases c : b < j
  · rw [if_pos (nI_lt c (by omega))]
    have : j = b + 1 := by omega
    subst this
    apply hQ
    intro i
    rw [hy i]
    by_cases q : i ≤ b
    · simp [q, show i < b + 1 by omega]
    · simp [q, show ¬ i < b + 1 by omega]
  · rw [if_neg (nI_nlt (by omega) (by omega)), rf_55_39, ln_78, nI_clamp (show j < 2 ^ 31 by omega), hd j (by omega)]
    refine ⟨(vp_nI (by omega)).mpr (by omega), ?_⟩
    simp only [forall_eq, nI_1]
    have mu : b + 1 - (nI (j + 1)).toNatClampNeg < b + 1 - (nI j).toNatClampNeg := by
      rw [nI_clamp (by omega), nI_clamp (by omega)]; omega
    by_cases e : d j < 1000000
    · rw [if_neg (fun q => (m1e6 (hd2 j)).mp q e)]
      refine hK _ _ ⟨j + 1, rfl, by omega, fun i => ?_⟩ mu
      rw [bL_or, hy i, bL_s1 (by omega)]
      by_cases q : i = j
      · subst q
        simp [e]
      · by_cases q2 : i < j
        · simp [q, q2, show i < j + 1 by omega]
        · simp [q, q2, show ¬ i < j + 1 by omega]
    · rw [if_pos ((m1e6 (hd2 j)).mpr e)]
      refine hK _ _ ⟨j + 1, rfl, by omega, fun i => ?_⟩ mu
      rw [hy i]
      by_cases q : i = j
      · subst q
        simp [e]
      · by_cases q2 : i < j
        · simp [q2, show i < j + 1 by omega]
        · simp [q2, show ¬ i < j + 1 by omega]
set_option maxRecDepth 20000 in
set_option maxHeartbeats 1000000 in
theorem ok_reach {h : Hp} (I : Inv h) (x1 : Int32) {A1 : Prop} (b1 : A1) {R : Hp → Prop} {Q0 : Prop} (hR : ∀ h', Inv h' → R h') : wX11_reach 0 x1 h (fun v => A1 ∧ (wX12_reach 55 x1 h (fun v' h2 => if lg_cmp v v' = 0 then R h2 else Q0))) := by
  obtain ⟨g, num, G⟩ := I.gates
  unfold wX11_reach
  rw [within_eq]
  rcases counts (x := x1) h with hc0 | ⟨a, b, hab, hb, rfl, hc0⟩
  · apply hc0
    rw [if_pos rfl]
    refine ⟨b1, ?_⟩
    unfold wX12_reach
    apply hc0
    rw [if_pos rfl]
    exact fin ((lg_cmp_eq _ _).mpr rfl) (hR h I)
  · apply hc0
    rw [if_neg (by decide)]
    obtain ⟨e1, e2⟩ := cnt_ab hab hb
    rw [e1, e2, rf_0_0]
    apply c_ever G hb (isS_st1 (by omega)) (st1_bd hab) (st1_s a)
    intro y hy
    refine ⟨b1, ?_⟩
    unfold wX12_reach
    apply hc0
    rw [if_neg (by decide), e1, e2]
    apply m_levels G hb hab
    intro h2 d' L F
    obtain ⟨l1, l2, l3⟩ := lv_it hb hab L F
    apply m_bits hb L.2.2.1 L.2.2.2.1 e1
    intro z hz
    refine fin ((lg_cmp_eq _ _).mpr ?_) (hR h2 (L.inv I (Or.inl rfl)))
    apply bL_ext
    intro i _
    rw [hy i, hz i]
    by_cases q : i ≤ b
    · have := l1 i q
      cases q2 : itP g num b (st1 a) b i
      · simp [q, this, q2]
      · simp [q, this, q2]
    · cases q2 : itP g num b (st1 a) b i
      · simp [q]
      · have := itP_bd (st1_bd hab) b i q2
        omega
