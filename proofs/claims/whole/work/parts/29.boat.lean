/-! the boat -/
def oneT (M : Nat) (S : Nat → Bool) : Nat → (Nat → Bool)
  | 0 => S
  | j + 1 => fun i => oneT M S j i || (S (i + (j + 1)) || (decide (j + 1 ≤ i) && decide (i ≤ M) && S (i - (j + 1))))
theorem oneT_iff {M : Nat} {S : Nat → Bool} {i : Nat} : ∀ c, oneT M S c i = true ↔ S i = true ∨ ∃ j, j < c ∧ (S (i + (j + 1)) = true ∨ (j + 1 ≤ i ∧ i ≤ M ∧ S (i - (j + 1)) = true))
  | 0 => by
    constructor
    · exact Or.inl
    · rintro (h | ⟨j, hj, _⟩)
      · exact h
      · omega
  | g + 1 => by
    have ih := oneT_iff (M := M) (S := S) (i := i) g
    unfold oneT
    simp only [Bool.or_eq_true, Bool.and_eq_true, decide_eq_true_eq]
    rw [ih]
    constructor
    · rintro ((h | ⟨j, hj, h⟩) | h)
      · exact Or.inl h
      · exact Or.inr ⟨j, by omega, h⟩
      · refine Or.inr ⟨g, by omega, ?_⟩
        rcases h with h | ⟨⟨h1, h2⟩, h3⟩
        · exact Or.inl h
        · exact Or.inr ⟨h1, h2, h3⟩
    · rintro (h | ⟨j, hj, h⟩)
      · exact Or.inl (Or.inl h)
      · by_cases e : j = g
        · subst e
          right
          rcases h with h | ⟨h1, h2, h3⟩
          · exact Or.inl h
          · exact Or.inr ⟨⟨h1, h2⟩, h3⟩
        · exact Or.inl (Or.inr ⟨j, by omega, h⟩)
theorem c_trip {h : Hp} {c M : Nat} (hM : M ≤ 40) (hc : c ≤ 9) {x : Int64} {S : Nat → Bool} (hx : isS x S) (hS : ∀ i, S i = true → i < M + 1) {Q : Int64 → Prop} (hQ : ∀ y, isS y (oneT M S c) → Q y) : wX4_oneTrip x (nI M) (nI c) h Q := by
  unfold wX4_oneTrip
  refine iX4_oneTrip_6 (I := fun y v => ∃ j : Nat, v = nI (j + 1) ∧ j ≤ c ∧ isS y (oneT M S j)) (μ := fun _ v => c + 1 - v.toNatClampNeg) ?_ x 1 ⟨0, rfl, by omega, hx⟩
  rintro y v ⟨j, rfl, hj, hy⟩ K hK
  unfold fX4_oneTrip_6
  by_cases q : c < j + 1
  · rw [if_pos (nI_lt q (by omega))]
    have : j = c := by omega
    subst this
    exact hQ y hy
  · rw [if_neg (nI_nlt (by omega) (by omega))]
    simp only [wX4_upTo, forall_eq]
    rw [show nI (j + 1) + 1 = nI (j + 1 + 1) from nI_1 _]
    refine hK _ _ ⟨j + 1, rfl, by omega, fun i => ?_⟩ (by rw [nI_clamp (by omega), nI_clamp (by omega)]; omega)
    have h63 : bL x 63 = false := by
      rw [hx]
      cases q : S 63
      · rfl
      · have := hS 63 q; omega
    rw [bL_or, bL_or, bL_and, hy, bL_shr2 x (by omega) h63, bL_shl x (by omega), bL_up (by omega), hx, hx]
    have e : (decide (i < 64) && decide (j + 1 ≤ i) && S (i - (j + 1)) && decide (i ≤ M)) = (decide (j + 1 ≤ i) && decide (i ≤ M) && S (i - (j + 1))) := by
      by_cases c1 : i ≤ M
      · simp [c1, show i < 64 by omega]
      · simp [c1]
    rw [e]
    rfl
/-- a trip, and then passings without end -/
def opB (g : Nat) (num : Nat → Nat) (M c : Nat) (S : Nat → Bool) : Nat → Bool := itP g num M (oneT M S c) M
theorem opB_mono {g : Nat} {num : Nat → Nat} {M c : Nat} : ∀ S i, S i = true → opB g num M c S i = true := fun _ _ h => itN_mono' op_mono (k := 0) ((oneT_iff c).mpr (Or.inl h)) (by omega)
theorem oneT_bd {M c : Nat} {S : Nat → Bool} (hS : ∀ i, S i = true → i < M + 1) : ∀ i, oneT M S c i = true → i < M + 1 := by
  intro i hi
  rcases (oneT_iff c).mp hi with h | ⟨j, _, h | ⟨h1, h2, h3⟩⟩
  · exact hS i h
  · have := hS _ h; omega
  · omega
theorem opB_bd {g : Nat} {num : Nat → Nat} {M c : Nat} : ∀ S : Nat → Bool, (∀ i, S i = true → i < M + 1) → ∀ i, opB g num M c S i = true → i < M + 1 := fun _ hS => itP_bd (oneT_bd hS) M
abbrev itB (g : Nat) (num : Nat → Nat) (M c s k : Nat) : Nat → Bool := itN (opB g num M c) (itP g num M (st1 s) M) k
theorem itB0 {g M s : Nat} {num : Nat → Nat} : itP g num M (st1 s) M s = true := itN_mono' op_mono (k := 0) (st1_s s) (by omega)
theorem itB_bd {g M c s : Nat} {num : Nat → Nat} (hs : s ≤ M) (k : Nat) : ∀ i, itB g num M c s k i = true → i < M + 1 := itN_bd opB_bd (itP_bd (st1_bd hs) M) k
theorem itB_s {g M c s : Nat} {num : Nat → Nat} (k : Nat) : itB g num M c s k s = true := itN_mono' opB_mono (k := 0) itB0 (by omega)
theorem c_trips {h : Hp} {g M c s v : Nat} {num : Nat → Nat} (G : GN h g num) (hM : M ≤ 40) (hc : c ≤ 9) (hs : s ≤ M) (hv : v ≤ M) {Q : Int32 → Prop}
    (h1 : ∀ k, k ≤ M → itB g num M c s k v = true → (∀ k', k' < k → itB g num M c s k' v = false) → Q (nI k)) (h2 : (∀ k, k ≤ M → itB g num M c s k v = false) → Q (-2)) : wX4_fewestTrips 1 (nI s) (nI M) (nI c) (nI v) h Q := by
  unfold wX4_fewestTrips
  apply c_ever G hM (isS_st1 (by omega)) (st1_bd hs) (st1_s s)
  intro y hy
  refine iX4_fewestTrips_13 (I := fun x y => ∃ k : Nat, y = nI k ∧ k ≤ M + 1 ∧ isS x (itB g num M c s k) ∧ ∀ k', k' < k → itB g num M c s k' v = false) (μ := fun _ y => M + 1 - y.toNatClampNeg) ?_ _ 0 ⟨0, rfl, by omega, hy, fun k' hk => by omega⟩
  rintro x y ⟨k, rfl, hk, hx, hn⟩ K hK
  unfold fX4_fewestTrips_13
  by_cases e : M < k
  · rw [if_pos (nI_lt e (by omega))]
    exact h2 (fun k' hk' => hn k' (by omega))
  · rw [if_neg (nI_nlt (by omega) (by omega)), e_hold hx (by omega)]
    cases q : itB g num M c s k v
    · simp only [Bool.false_eq_true, ↓reduceIte]
      apply c_trip hM hc hx (itB_bd hs k)
      intro z hz
      apply c_ever G hM hz (oneT_bd (itB_bd hs k)) (i0 := s) ((oneT_iff c).mpr (Or.inl (itB_s k)))
      intro z' hz'
      simp only [forall_eq, nI_1]
      refine hK z' _ ⟨k + 1, rfl, by omega, hz', fun k' hk' => ?_⟩ (by rw [nI_clamp (by omega), nI_clamp (by omega)]; omega)
      by_cases e : k' = k
      · subst e; exact q
      · exact hn k' (by omega)
    · simp only [↓reduceIte, ne10]
      exact h1 k (by omega) q hn
def dif (u v : Nat) : Nat := if v ≤ u then u - v else v - u
def EB (g : Nat) (num : Nat → Nat) (M c : Nat) (u v w : Nat) : Prop := u ≤ M ∧ v ≤ M ∧ ((w = 0 ∧ ∃ j, j < g ∧ num j = dif u v) ∨ (w = 1 ∧ dif u v ≤ c))
/-- what is closed under passings -/
theorem itP_closed {g M : Nat} {num : Nat → Nat} {S : Nat → Bool} (hS : ∀ i, S i = true → i < M + 1) {i0 : Nat} (h0 : S i0 = true) {u v j : Nat} (h : itP g num M S M u = true) (hv : v ≤ M) (hj : j < g) (e : num j = dif u v) : itP g num M S M v = true := by
  rw [← itP_fix (k := M + 1) hS h0 (by omega)]
  apply (one_iff g).mpr
  unfold dif at e
  by_cases c : v ≤ u
  · rw [if_pos c] at e
    exact Or.inr ⟨j, hj, Or.inl (by rwa [show v + num j = u by omega])⟩
  · rw [if_neg c] at e
    exact Or.inr ⟨j, hj, Or.inr ⟨by omega, hv, by rwa [show v - num j = u by omega]⟩⟩
theorem itP_sound {g M c s : Nat} {num : Nat → Nat} {S : Nat → Bool} (hS : ∀ i, S i = true → i < M + 1) {k : Nat} (h : ∀ i, S i = true → ∃ k', k' ≤ k ∧ Rw (EB g num M c) s k' i) : ∀ n i, itP g num M S n i = true → ∃ k', k' ≤ k ∧ Rw (EB g num M c) s k' i := by
  intro n
  induction n with
  | zero => exact h
  | succ n ih =>
    intro i hi
    have hb : i < M + 1 := itP_bd hS (n + 1) i hi
    rcases (one_iff g).mp hi with q | ⟨j, hj, q | ⟨h1, h2, h3⟩⟩
    · exact ih i q
    · obtain ⟨k', q1, q2⟩ := ih _ q
      have hb2 : i + num j < M + 1 := itP_bd hS n _ q
      exact ⟨k' + 0, q1, q2.step ⟨by omega, by omega, Or.inl ⟨rfl, j, hj, by unfold dif; rw [if_pos (by omega)]; omega⟩⟩⟩
    · obtain ⟨k', q1, q2⟩ := ih _ h3
      exact ⟨k' + 0, q1, q2.step ⟨by omega, by omega, Or.inl ⟨rfl, j, hj, by
        unfold dif
        by_cases z : num j = 0
        · rw [if_pos (by omega)]; omega
        · rw [if_neg (by omega)]; omega⟩⟩⟩
theorem itB_iff {g M c s : Nat} {num : Nat → Nat} (hs : s ≤ M) {k v : Nat} : itB g num M c s k v = true ↔ ∃ k', k' ≤ k ∧ Rw (EB g num M c) s k' v := by
  constructor
  · induction k generalizing v with
    | zero =>
      intro h
      refine itP_sound (st1_bd hs) (fun i hi => ?_) M v h
      have : i = s := of_decide_eq_true hi
      subst this
      exact ⟨0, Nat.le_refl _, Rw.base⟩
    | succ k ih =>
      intro h
      refine itP_sound (oneT_bd (itB_bd hs k)) (fun i hi => ?_) M v h
      have hb : i < M + 1 := oneT_bd (itB_bd hs k) i hi
      rcases (oneT_iff c).mp hi with q | ⟨j, hj, q | ⟨h1, h2, h3⟩⟩
      · obtain ⟨k', q1, q2⟩ := ih q
        exact ⟨k', by omega, q2⟩
      · obtain ⟨k', q1, q2⟩ := ih q
        have hb2 := itB_bd hs k _ q
        exact ⟨k' + 1, by omega, q2.step ⟨by omega, by omega, Or.inr ⟨rfl, by unfold dif; rw [if_pos (by omega)]; omega⟩⟩⟩
      · obtain ⟨k', q1, q2⟩ := ih h3
        exact ⟨k' + 1, by omega, q2.step ⟨by omega, by omega, Or.inr ⟨rfl, by unfold dif; rw [if_neg (by omega)]; omega⟩⟩⟩
  · rintro ⟨k', hk, h⟩
    refine itN_mono' opB_mono (h (fun k v => itB g num M c s k v = true) itB0 (fun k u v w ih e => ?_)) hk
    obtain ⟨hu, hv, ⟨rfl, j, hj, e⟩ | ⟨rfl, e⟩⟩ := e
    · show itB g num M c s k v = true
      cases k with
      | zero => exact itP_closed (st1_bd hs) (st1_s s) ih hv hj e
      | succ k => exact itP_closed (oneT_bd (itB_bd hs k)) (i0 := s) ((oneT_iff c).mpr (Or.inl (itB_s k))) ih hv hj e
    · show itP g num M (oneT M (itB g num M c s k) c) M v = true
      refine itN_mono' op_mono (k := 0) ((oneT_iff c).mpr ?_) (by omega)
      unfold dif at e
      by_cases z : u = v
      · subst z; exact Or.inl ih
      · by_cases q : v ≤ u
        · rw [if_pos q] at e
          exact Or.inr ⟨u - v - 1, by omega, Or.inl (by rwa [show v + (u - v - 1 + 1) = u by omega])⟩
        · rw [if_neg q] at e
          exact Or.inr ⟨v - u - 1, by omega, Or.inr ⟨by omega, hv, by rwa [show v - (v - u - 1 + 1) = u by omega]⟩⟩
theorem itB_fix {g M c s : Nat} {num : Nat → Nat} (hs : s ≤ M) {k : Nat} (hk : M ≤ k) : itB g num M c s k = itB g num M c s M := stab_all opB_mono opB_bd (itP_bd (st1_bd hs) M) (i0 := s) itB0 (Nat.le_refl _) hk
