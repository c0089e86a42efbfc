/-! how soon so many are out -/
def SM (num : Nat → Nat) (t : Nat) : Nat → Nat → Prop
  | 0, i => i = 0
  | j + 1, i => ∃ c, c ≤ t ∧ c * num j ≤ i ∧ SM num t j (i - c * num j)
def SB (num : Nat → Nat) (t : Nat) : Nat → Nat → Nat → Prop
  | 0, _, r => r = 0
  | l + 1, j, r => ∃ c, c ≤ t ∧ c * num j ≤ r ∧ SB num t l (j + 1) (r - c * num j)
theorem SM_SB {num : Nat → Nat} {t : Nat} : ∀ j l i r, SM num t j i → SB num t l j r → SB num t (l + j) 0 (i + r)
  | 0, l, i, r, h1, h2 => by
    have h1 : i = 0 := h1
    rw [h1, Nat.zero_add]
    exact h2
  | j + 1, l, i, r, ⟨c, c1, c2, c3⟩, h2 => by
    have := SM_SB j (l + 1) (i - c * num j) (r + c * num j) c3 ⟨c, c1, by omega, by rwa [Nat.add_sub_cancel]⟩
    rw [show i - c * num j + (r + c * num j) = i + r by omega] at this
    rwa [show l + (j + 1) = l + 1 + j by omega]
theorem SB_SM {num : Nat → Nat} {t : Nat} : ∀ l j i r, SB num t l j r → SM num t j i → SM num t (j + l) (i + r)
  | 0, j, i, r, h1, h2 => by
    have h1 : r = 0 := h1
    rw [h1]
    exact h2
  | l + 1, j, i, r, ⟨c, c1, c2, c3⟩, h2 => by
    have := SB_SM l (j + 1) (i + c * num j) (r - c * num j) c3 ⟨c, c1, by omega, by rwa [Nat.add_sub_cancel]⟩
    rw [show i + c * num j + (r - c * num j) = i + r by omega] at this
    rwa [show j + (l + 1) = j + 1 + l by omega]
theorem SB_iff {num : Nat → Nat} {t g r : Nat} : SB num t g 0 r ↔ SM num t g r := by
  constructor
  · intro h
    have := SB_SM g 0 0 r h rfl
    rwa [Nat.zero_add, Nat.zero_add] at this
  · intro h
    have := SM_SB g 0 r 0 h rfl
    rwa [Nat.zero_add] at this
theorem SM_big {num : Nat → Nat} {t t' : Nat} : ∀ j i, (∀ k, k < j → 1 ≤ num k) → i ≤ t' → SM num t j i → SM num t' j i
  | 0, _, _, _, h => h
  | j + 1, i, hn, hi, ⟨c, c1, c2, c3⟩ => by
    have n1 := hn j (by omega)
    have : c * 1 ≤ c * num j := Nat.mul_le_mul_left c n1
    exact ⟨c, by omega, c2, SM_big j _ (fun k hk => hn k (by omega)) (by omega) c3⟩
/-- the class's sums -/
def accS (S : Nat → Bool) (n : Nat) : Nat → (Nat → Bool)
  | 0 => S
  | c + 1 => fun i => accS S n c i || (decide (i < 64) && decide ((c + 1) * n ≤ i) && S (i - (c + 1) * n))
theorem accS_iff {S : Nat → Bool} {n i : Nat} (hi : i < 64) : ∀ c, accS S n c i = true ↔ ∃ c', c' ≤ c ∧ c' * n ≤ i ∧ S (i - c' * n) = true
  | 0 => by
    constructor
    · intro h
      exact ⟨0, Nat.le_refl _, by omega, by rwa [Nat.zero_mul]⟩
    · rintro ⟨c', h1, h2, h3⟩
      have : c' = 0 := by omega
      subst this
      rwa [Nat.zero_mul] at h3
  | c + 1 => by
    have ih := accS_iff (S := S) (n := n) hi c
    unfold accS
    simp only [Bool.or_eq_true, Bool.and_eq_true, decide_eq_true_eq]
    rw [ih]
    constructor
    · rintro (⟨c', h1, h2, h3⟩ | ⟨⟨_, h2⟩, h3⟩)
      · exact ⟨c', by omega, h2, h3⟩
      · exact ⟨c + 1, Nat.le_refl _, h2, h3⟩
    · rintro ⟨c', h1, h2, h3⟩
      by_cases e : c' = c + 1
      · subst e
        exact Or.inr ⟨⟨hi, h2⟩, h3⟩
      · exact Or.inl ⟨c', by omega, h2, h3⟩
theorem c_sums {h : Hp} {g t : Nat} {num : Nat → Nat} (G : GN h g num) (ht : t ≤ 60) {Q : Int64 → Prop} (hQ : ∀ x S, isS x S → (∀ i, i < 64 → (S i = true ↔ SM num t g i)) → Q x) : wX4_sumsOf 1 (nI t) h Q := by
  unfold wX4_sumsOf
  obtain ⟨hg, e1, e2, hn⟩ := G
  refine iX4_sumsOf_5 (I := fun x y => ∃ (j : Nat) (S : Nat → Bool), y = nI j ∧ j ≤ g ∧ isS x S ∧ ∀ i, i < 64 → (S i = true ↔ SM num t j i)) (μ := fun _ y => g - y.toNatClampNeg) ?_ 1 0 ⟨0, fun i => decide (i = 0), rfl, by omega, bL_1, fun i _ => decide_eq_true_iff⟩
  rintro x y ⟨j, S, rfl, hj, hx, hS⟩ K hK
  unfold fX4_sumsOf_5
  rw [e1]
  by_cases c : g ≤ j
  · rw [if_pos (nI_le c (by omega))]
    have : j = g := by omega
    subst this
    exact hQ x S hx hS
  · rw [if_neg (nI_ge (by omega) (by omega))]
    obtain ⟨y1, y2, y3, y4⟩ := hn j (by omega)
    refine iX4_sumsOf_20 (I := fun a b z => ∃ c : Nat, z = nI c ∧ c ≤ t ∧ isS a (accS S (num j) c) ∧ isS b (fun i => decide (i < 64) && decide (c * num j ≤ i) && S (i - c * num j))) (μ := fun _ _ z => t - z.toNatClampNeg) ?_ x x 0 ⟨0, rfl, by omega, hx, fun i => by
      rw [hx i, Nat.zero_mul]
      by_cases q : i < 64
      · simp [q]
      · simp [q, hx.hi (show 64 ≤ i by omega)]⟩
    rintro a b z ⟨c, rfl, hc, ha, hb⟩ K2 hK2
    unfold fX4_sumsOf_20
    by_cases d : t ≤ c
    · rw [if_pos (nI_le d (by omega))]
      have : c = t := by omega
      subst this
      simp only [forall_eq, nI_1]
      refine hK a _ ⟨j + 1, accS S (num j) c, rfl, by omega, ha, fun i hi => ?_⟩ (by rw [nI_clamp (by omega), nI_clamp (by omega)]; omega)
      rw [accS_iff hi]
      constructor
      · rintro ⟨c', q1, q2, q3⟩
        exact ⟨c', q1, q2, (hS _ (by omega)).mp q3⟩
      · rintro ⟨c', q1, q2, q3⟩
        exact ⟨c', q1, q2, (hS _ (by omega)).mpr q3⟩
    · rw [if_neg (nI_ge (by omega) (by omega))]
      simp only [rf_1_0, ln_2, nI_clamp (show j < 2 ^ 31 by omega), y1, forall_eq, nI_1]
      have hb2 : isS (shlL b (nI (num j))) (fun i => decide (i < 64) && decide ((c + 1) * num j ≤ i) && S (i - (c + 1) * num j)) := by
        intro i
        rw [bL_shl b (by omega), hb]
        have em : (c + 1) * num j = c * num j + num j := Nat.succ_mul c (num j)
        by_cases q : i < 64
        · by_cases q2 : num j ≤ i
          · by_cases q3 : c * num j ≤ i - num j
            · simp [q, q2, q3, show i - num j < 64 by omega, show (c + 1) * num j ≤ i by omega, show i - num j - c * num j = i - (c + 1) * num j by omega]
            · simp [q3, show ¬ (c + 1) * num j ≤ i by omega]
          · simp [q2, show ¬ (c + 1) * num j ≤ i by omega]
        · simp [q]
      refine ⟨(vp_nI (by omega)).mpr (by omega), hK2 _ _ _ ⟨c + 1, rfl, by omega, fun i => ?_, hb2⟩ (by rw [nI_clamp (by omega), nI_clamp (by omega)]; omega)⟩
      rw [bL_or, ha i, hb2 i]
      rfl
theorem m_isSoon {h : Hp} {g t : Nat} {num : Nat → Nat} (G : GN h g num) (ht : t ≤ 60) : ∀ (l j r : Nat), j + l = g → r ≤ 60 → ∀ Q : Int32 → Prop, (SB num t l j r → Q 1) → (¬ SB num t l j r → Q 0) → (wG4 (l + 1)) 55 (nI r) (nI j) (nI t) h Q := by
  intro l
  have G0 := G
  obtain ⟨hg, e1, e2, hn⟩ := G0
  have zero : ∀ l j, SB num t l j 0 := by
    intro l
    induction l with
    | zero => intro j; rfl
    | succ l ih => intro j; exact ⟨0, by omega, by omega, by rw [Nat.zero_mul]; exact ih _⟩
  induction l with
  | zero =>
    intro j r hj hr Q h1 h0
    show bX12_isSoon (wG4 0) 55 (nI r) (nI j) (nI t) h Q
    unfold bX12_isSoon
    by_cases r0 : r = 0
    · subst r0
      rw [if_pos (show nI 0 = 0 from rfl)]
      exact h1 rfl
    · rw [if_neg (nI_ne0 (by omega) (by omega)), e2, if_pos (show nI j = nI g by rw [show j = g by omega])]
      exact h0 r0
  | succ l ih =>
    intro j r hj hr Q h1 h0
    show bX12_isSoon (wG4 (l + 1)) 55 (nI r) (nI j) (nI t) h Q
    unfold bX12_isSoon
    by_cases r0 : r = 0
    · subst r0
      rw [if_pos (show nI 0 = 0 from rfl)]
      exact h1 (zero _ _)
    · rw [if_neg (nI_ne0 (by omega) (by omega)), e2, if_neg (fun q => by have := (nI_eq (by omega) (by omega)).mp q; omega)]
      obtain ⟨y1, y2, y3, y4⟩ := hn j (by omega)
      refine iX12_isSoon_19 (I := fun x => ∃ c : Nat, x = nI c ∧ c ≤ t + 1 ∧ ∀ c', c' < c → ¬ (c' * num j ≤ r ∧ SB num t l (j + 1) (r - c' * num j))) (μ := fun x => t + 1 - x.toNatClampNeg) ?_ 0 ⟨0, rfl, by omega, fun c' hc => by omega⟩
      rintro x ⟨c, rfl, hc, hno⟩ K hK
      unfold fX12_isSoon_19
      by_cases q : t < c
      · rw [if_pos (nI_lt q (by omega))]
        refine h0 ?_
        rintro ⟨c', w1, w2, w3⟩
        exact hno c' (by omega) ⟨w2, w3⟩
      · rw [if_neg (nI_nlt (by omega) (by omega))]
        have bnd : c * num j ≤ 60 * 6 := Nat.mul_le_mul (by omega) y4
        have em : nI c * nI (num j) = nI (c * num j) := pk_mul _ _
        simp only [rf_55_2, ln_56, nI_clamp (show j < 2 ^ 31 by omega), y2, em]
        have vj : vp_in (nI j) 3 := (vp_nI (by omega)).mpr (by omega)
        refine ⟨vj, ?_⟩
        by_cases q2 : r < c * num j
        · rw [if_pos (nI_lt q2 (by omega))]
          refine h0 ?_
          rintro ⟨c', w1, w2, w3⟩
          by_cases z : c' < c
          · exact hno c' z ⟨w2, w3⟩
          · have : c * num j ≤ c' * num j := Nat.mul_le_mul_right _ (by omega)
            omega
        · rw [if_neg (nI_nlt (by omega) (by omega))]
          refine ⟨vj, ?_⟩
          rw [show nI r - nI (c * num j) = nI (r - c * num j) by simp (disch := omega) only [lit, nI_ltI, nI_leI, nI_eq, nI_clamp, nI_add, vp_nI, nI_ne_neg, neg_ne_nI, pk_sub, pk_mul, pk_div, Nat.reduceAdd, Nat.reduceMul, Nat.reducePow, e_mn, e_mx, e_rm, lt_t, lt_f, le_t, le_f, eq_f, eq_t, ↓reduceIte, true_and, and_true, and_false, false_and, and_self, or_true, or_false, true_or, false_or, not_true, not_false_iff], nI_1]
          apply ih (j + 1) (r - c * num j) (by omega) (by omega)
          · intro hs
            rw [if_neg (by decide)]
            exact h1 ⟨c, by omega, by omega, hs⟩
          · intro hs
            rw [if_pos rfl]
            simp only [forall_eq, nI_1]
            refine hK _ ⟨c + 1, rfl, by omega, fun c' hc' => ?_⟩ (by rw [nI_clamp (by omega), nI_clamp (by omega)]; omega)
            by_cases z : c' = c
            · subst z
              exact fun w => hs w.2
            · exact hno c' (by omega)
theorem m_soon {h : Hp} {g w : Nat} {num : Nat → Nat} (G : GN h g num) (hw : w ≤ 60) {Q : Int32 → Prop} (h1 : ∀ t, t ≤ 60 → SM num t g w → (∀ t', t' < t → ¬ SM num t' g w) → Q (nI t)) (h0 : (∀ t, t ≤ 60 → ¬ SM num t g w) → Q (-2)) : eX12_soon_14 55 (nI w) h Q 0 := by
  refine iX12_soon_14 (I := fun x => ∃ t : Nat, x = nI t ∧ t ≤ 61 ∧ ∀ t', t' < t → ¬ SM num t' g w) (μ := fun x => 61 - x.toNatClampNeg) ?_ 0 ⟨0, rfl, by omega, fun t' ht => by omega⟩
  rintro x ⟨t, rfl, ht, hno⟩ K hK
  unfold fX12_soon_14
  by_cases q : 60 < t
  · rw [if_pos (show (60 : Int32) < nI t from nI_lt (a := 60) q (by omega))]
    exact h0 (fun t' ht' => hno t' (by omega))
  · rw [if_neg (show ¬ (60 : Int32) < nI t from nI_nlt (a := 60) (by omega) (by omega))]
    refine ⟨g + 1, by have := G.1; omega, ?_⟩
    apply m_isSoon G (by omega) g 0 w (by omega) hw
    · intro hs
      rw [if_neg (by decide)]
      exact h1 t (by omega) (SB_iff.mp hs) hno
    · intro hs
      rw [if_pos rfl]
      simp only [forall_eq, nI_1]
      refine hK _ ⟨t + 1, rfl, by omega, fun t' ht' => ?_⟩ (by rw [nI_clamp (by omega), nI_clamp (by omega)]; omega)
      by_cases z : t' = t
      · subst z
        exact fun q => hs (SB_iff.mpr q)
      · exact hno t' (by omega)
theorem c_soon {h : Hp} {g w : Nat} {num : Nat → Nat} (G : GN h g num) (hw : w ≤ 60) {Q : Int32 → Prop} (h1 : ∀ t, t ≤ w → SM num t g w → (∀ t', t' < t → ¬ SM num t' g w) → Q (nI t)) (h0 : (∀ t, t ≤ w → ¬ SM num t g w) → Q (-2)) : wX4_soonest 1 (nI w) h Q := by
  unfold wX4_soonest
  refine iX4_soonest_2 (I := fun x => ∃ t : Nat, x = nI t ∧ t ≤ w + 1 ∧ ∀ t', t' < t → ¬ SM num t' g w) (μ := fun x => w + 1 - x.toNatClampNeg) ?_ 0 ⟨0, rfl, by omega, fun t' ht => by omega⟩
  rintro x ⟨t, rfl, ht, hno⟩ K hK
  unfold fX4_soonest_2
  by_cases q : w < t
  · rw [if_pos (nI_lt q (by omega))]
    exact h0 (fun t' ht' => hno t' (by omega))
  · rw [if_neg (nI_nlt (by omega) (by omega))]
    apply c_sums G (by omega)
    intro x S hx hS
    rw [e_hold hx (by omega)]
    have := hS w (by omega)
    cases hw2 : S w
    · simp only [Bool.false_eq_true, ↓reduceIte, forall_eq, nI_1]
      refine hK _ ⟨t + 1, rfl, by omega, fun t' ht' => ?_⟩ (by rw [nI_clamp (by omega), nI_clamp (by omega)]; omega)
      by_cases z : t' = t
      · subst z
        intro q
        rw [this.mpr q] at hw2
        exact absurd hw2 (by decide)
      · exact hno t' (by omega)
    · simp only [↓reduceIte, ne10]
      exact h1 t (by omega) (this.mp hw2) hno
-- soon
set_option maxRecDepth 20000 in
set_option maxHeartbeats 1000000 in
theorem ok_soon {h : Hp} (I : Inv h) (x1 : Int32) {A1 : Prop} (b1 : A1) {R : Hp → Prop} {Q0 : Prop} (hR : ∀ h', Inv h' → R h') : wX11_soon 0 x1 h (fun v => A1 ∧ (wX12_soon 55 x1 h (fun v' => if v = v' then R h else Q0))) := by
  obtain ⟨g, num, G⟩ := I.gates
  unfold wX11_soon
  rcases bd x1 0 60 (l := 0) (u := 60) rfl rfl (by omega) (by omega) with d | ⟨w, d1, d2, rfl, d⟩
  · have key : wX12_soon 55 x1 h (fun v' => if -1 = v' then R h else Q0) := by
      unfold wX12_soon
      rw [e_in, if_pos d, if_pos rfl]
      exact fin rfl (hR h I)
    by_cases d0 : x1 < 0
    · rw [if_pos d0]
      exact ⟨b1, key⟩
    · rw [if_neg d0, if_neg (Int32.not_le.mpr (d.resolve_left d0))]
      exact ⟨b1, key⟩
  · rw [if_neg (show ¬ nI w < 0 from fun q => d (Or.inl q)), if_pos (nl (show ¬ (60 : Int32) < nI w from fun q => d (Or.inr q))), rf_0_0]
    have open_m : ∀ Q : Int32 → Prop, eX12_soon_14 55 (nI w) h Q 0 → wX12_soon 55 (nI w) h Q := by
      intro Q hQ
      unfold wX12_soon
      rw [e_in, if_neg d, if_neg (by decide)]
      exact hQ
    apply c_soon G d2
    · intro t ht hs hno
      refine ⟨b1, open_m _ ?_⟩
      apply m_soon G d2
      · intro t2 ht2 hs2 hno2
        have : t = t2 := by
          rcases Nat.lt_trichotomy t t2 with q | q | q
          · exact absurd hs (hno2 t q)
          · exact q
          · exact absurd hs2 (hno t2 q)
        rw [this]
        exact fin rfl (hR h I)
      · intro hn2
        exact absurd hs (hn2 t (by omega))
    · intro hn
      refine ⟨b1, open_m _ ?_⟩
      apply m_soon G d2
      · intro t2 ht2 hs2 hno2
        exact absurd (SM_big g w (fun k hk => (G.2.2.2 k hk).2.2.1) (Nat.le_refl _) hs2) (hn w (Nat.le_refl _))
      · intro _
        exact fin rfl (hR h I)
