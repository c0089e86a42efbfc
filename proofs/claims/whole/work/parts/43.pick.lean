/-! counting bits -/
def pcn (f : Nat → Bool) : Nat → Nat
  | 0 => 0
  | k + 1 => pcn f k + if f k then 1 else 0
theorem pcn_len (f : Nat → Bool) : ∀ k, ((List.range k).filter f).length = pcn f k
  | 0 => rfl
  | k + 1 => by
    rw [List.range_succ, List.filter_append, List.length_append, pcn_len f k, pcn]
    cases h : f k <;> simp [h]
theorem pop_pcn (n : Nat) : pop n = pcn (fun i => n.testBit i) 12 := pcn_len _ 12
theorem pcn_congr {f f' : Nat → Bool} : ∀ k, (∀ i, i < k → f i = f' i) → pcn f k = pcn f' k
  | 0, _ => rfl
  | k + 1, h => by rw [pcn, pcn, pcn_congr k (fun i hi => h i (by omega)), h k (by omega)]
theorem pcn_del {f f' : Nat → Bool} {i : Nat} (h1 : f i = true) (h2 : f' i = false) (h3 : ∀ j, j ≠ i → f' j = f j) : ∀ k, pcn f k = pcn f' k + if i < k then 1 else 0
  | 0 => by simp [pcn]
  | k + 1 => by
    rw [pcn, pcn, pcn_del h1 h2 h3 k]
    by_cases e : k = i
    · subst e
      simp [h1, h2]
    · rw [h3 k e]
      by_cases c : i < k
      · rw [if_pos c, if_pos (show i < k + 1 by omega)]; omega
      · rw [if_neg c, if_neg (show ¬ i < k + 1 by omega)]
        omega
theorem pcn_le {f f' : Nat → Bool} (h : ∀ i, f' i = true → f i = true) : ∀ k, pcn f' k ≤ pcn f k
  | 0 => Nat.le_refl _
  | k + 1 => by
    have ih := pcn_le h k
    rw [pcn, pcn]
    cases c : f' k
    · simp; omega
    · rw [h k c]; simp; omega
theorem pcn_pos {f : Nat → Bool} : ∀ k, 0 < pcn f k → ∃ i, i < k ∧ f i = true
  | 0, h => absurd h (by simp [pcn])
  | k + 1, h => by
    cases c : f k
    · rw [pcn, c] at h
      obtain ⟨i, h1, h2⟩ := pcn_pos k (by simpa using h)
      exact ⟨i, by omega, h2⟩
    · exact ⟨k, by omega, c⟩
theorem pcn_or {f f' : Nat → Bool} (h : ∀ i, f i = true → f' i = false) : ∀ k, pcn (fun i => f i || f' i) k = pcn f k + pcn f' k
  | 0 => rfl
  | k + 1 => by
    rw [pcn, pcn, pcn, pcn_or h k]
    cases c : f k
    · simp; omega
    · rw [h k c]; simp; omega
theorem pop_del {X i : Nat} (hX : X < 4096) (hi : X.testBit i = true) : pop X = pop (anot X (2 ^ i)) + 1 := by
  have i12 : i < 12 := by
    rcases Nat.lt_or_ge i 12 with q | q
    · exact q
    · rw [bit_hi (N := 12) hX q] at hi
      exact absurd hi (by decide)
  rw [pop_pcn, pop_pcn, pcn_del (f' := fun j => (anot X (2 ^ i)).testBit j) (i := i) hi (by rw [anot_bit hX, Nat.testBit_two_pow]; simp) (fun j hj => by rw [anot_bit hX, Nat.testBit_two_pow]; simp [show ¬ i = j by omega]) 12, if_pos i12]
theorem pop_add {T i : Nat} (hi : T.testBit i = false) (i12 : i < 12) : pop (T ||| 2 ^ i) = pop T + 1 := by
  rw [pop_pcn, pop_pcn, pcn_del (f := fun j => (T ||| 2 ^ i).testBit j) (f' := fun j => T.testBit j) (i := i) (by rw [Nat.testBit_or, Nat.testBit_two_pow]; simp) hi (fun j hj => by rw [Nat.testBit_or, Nat.testBit_two_pow]; simp [show ¬ i = j by omega]) 12, if_pos i12]
theorem pop_pos {X : Nat} (h : 0 < pop X) : ∃ i, i < 12 ∧ X.testBit i = true := by
  rw [pop_pcn] at h
  exact pcn_pos 12 h
theorem pop_mono {X Y : Nat} (h : ∀ i, Y.testBit i = true → X.testBit i = true) : pop Y ≤ pop X := by
  rw [pop_pcn, pop_pcn]
  exact pcn_le h 12
theorem pop_or {X Y : Nat} (h : ∀ i, X.testBit i = true → Y.testBit i = false) : pop (X ||| Y) = pop X + pop Y := by
  rw [pop_pcn, pop_pcn, pop_pcn, ← pcn_or h 12]
  exact pcn_congr 12 (fun i _ => Nat.testBit_or X Y i)
/-! the first of a set, by a key -/
def pick (key : Nat → Int32) (S : Nat) : Nat → Option Nat
  | 0 => none
  | p + 1 => if S.testBit p then (match pick key S p with
      | none => some p
      | some b => if key p < key b then some p else some b) else pick key S p
theorem pick_spec (key : Nat → Int32) (S : Nat) : ∀ n, (pick key S n = none ∧ ∀ i, i < n → S.testBit i = false) ∨ ∃ b, b < n ∧ pick key S n = some b ∧ S.testBit b = true
  | 0 => Or.inl ⟨rfl, fun i hi => by omega⟩
  | p + 1 => by
    rw [pick]
    cases c : S.testBit p
    · rw [if_neg (by decide)]
      rcases pick_spec key S p with ⟨h1, h2⟩ | ⟨b, h1, h2, h3⟩
      · refine Or.inl ⟨h1, fun i hi => ?_⟩
        by_cases e : i = p
        · subst e; exact c
        · exact h2 i (by omega)
      · exact Or.inr ⟨b, by omega, h2, h3⟩
    · rw [if_pos rfl]
      rcases pick_spec key S p with ⟨h1, h2⟩ | ⟨b, h1, h2, h3⟩
      · rw [h1]
        exact Or.inr ⟨p, by omega, rfl, c⟩
      · rw [h2]
        dsimp only
        by_cases d : key p < key b
        · rw [if_pos d]; exact Or.inr ⟨p, by omega, rfl, c⟩
        · rw [if_neg d]; exact Or.inr ⟨b, by omega, rfl, h3⟩
/-- the first k of a set, as a set -/
def tkT (key : Nat → Int32) (N S : Nat) : Nat → Nat
  | 0 => 0
  | k + 1 => tkT key N S k ||| 2 ^ ((pick key (anot S (tkT key N S k)) N).getD 0)
theorem tk_next {key : Nat → Int32} {N S k : Nat} (hN : N ≤ 12) (hS : S < 2 ^ N) (hk : k < pop S) (h : pop (anot S (tkT key N S k)) + k = pop S) :
    ∃ b, b < N ∧ pick key (anot S (tkT key N S k)) N = some b ∧ S.testBit b = true ∧ (tkT key N S k).testBit b = false ∧ tkT key N S (k + 1) = tkT key N S k ||| 2 ^ b := by
  have h12 := p12 hN
  rcases pick_spec key (anot S (tkT key N S k)) N with ⟨h1, h2⟩ | ⟨b, h1, h2, h3⟩
  · exfalso
    obtain ⟨i, _, hi⟩ := pop_pos (show 0 < pop (anot S (tkT key N S k)) by omega)
    rcases Nat.lt_or_ge i N with q | q
    · rw [h2 i q] at hi; exact absurd hi (by decide)
    · rw [anot_bit (by omega), bit_hi hS q] at hi
      exact absurd hi (by simp)
  · rw [anot_bit (by omega)] at h3
    simp only [Bool.and_eq_true, Bool.not_eq_true'] at h3
    refine ⟨b, h1, h2, h3.1, h3.2, ?_⟩
    rw [tkT, h2]
    rfl
theorem tk_spec {key : Nat → Int32} {N S : Nat} (hN : N ≤ 12) (hS : S < 2 ^ N) : ∀ k, k ≤ pop S → (∀ i, (tkT key N S k).testBit i = true → S.testBit i = true) ∧ pop (tkT key N S k) = k ∧ pop (anot S (tkT key N S k)) + k = pop S
  | 0, _ => by
    refine ⟨fun i hi => ?_, by rw [tkT]; decide, ?_⟩
    · rw [tkT, Nat.zero_testBit] at hi; exact absurd hi (by decide)
    · have h12 := p12 hN
      have : anot S (tkT key N S 0) = S := by
        apply nat_ext
        intro i
        rw [anot_bit (by omega), tkT, Nat.zero_testBit]
        simp
      rw [this]
      rfl
  | k + 1, hk => by
    have h12 := p12 hN
    obtain ⟨h1, h2, h3⟩ := tk_spec (key := key) hN hS k (by omega)
    obtain ⟨b, b1, b2, b3, b4, b5⟩ := tk_next hN hS (show k < pop S by omega) h3
    rw [b5]
    refine ⟨fun i hi => ?_, ?_, ?_⟩
    · rw [Nat.testBit_or, Nat.testBit_two_pow] at hi
      by_cases e : b = i
      · rw [← e]; exact b3
      · simp only [e, decide_false, Bool.or_false] at hi
        exact h1 i hi
    · rw [pop_add b4 (by omega), h2]
    · have e : anot S (tkT key N S k ||| 2 ^ b) = anot (anot S (tkT key N S k)) (2 ^ b) := by
        apply nat_ext
        intro i
        rw [anot_bit (by omega), anot_bit (Nat.lt_of_le_of_lt anot_le (by omega)), anot_bit (by omega), Nat.testBit_or]
        cases S.testBit i <;> cases (tkT key N S k).testBit i <;> cases (2 ^ b).testBit i <;> rfl
      have := pop_del (X := anot S (tkT key N S k)) (i := b) (Nat.lt_of_le_of_lt anot_le (by omega)) (by rw [anot_bit (by omega), b3, b4]; rfl)
      rw [e]
      omega
theorem tk_lt {key : Nat → Int32} {N S k : Nat} (hN : N ≤ 12) (hS : S < 2 ^ N) (hk : k ≤ pop S) : tkT key N S k < 2 ^ N := by
  apply Nat.lt_of_le_of_lt _ hS
  have h12 := p12 hN
  have : tkT key N S k = tkT key N S k &&& S := by
    apply nat_ext
    intro i
    rw [Nat.testBit_and]
    cases c : (tkT key N S k).testBit i
    · rfl
    · rw [(tk_spec hN hS k hk).1 i c]; rfl
  rw [this]
  exact Nat.and_le_right
/-! a count that is a sum of numbers -/
def ISm (num : Nat → Nat) (g : Nat) : Nat → Nat → Prop
  | 0, n => n = 0
  | f + 1, n => n = 0 ∨ ∃ k, k < g ∧ num k ≤ n ∧ ISm num g f (n - num k)
theorem ISm_SM {num : Nat → Nat} {g : Nat} (hn : ∀ k, k < g → 1 ≤ num k) : ∀ (f n t : Nat), n ≤ t → ISm num g f n → SM num t g n := by
  have zero : ∀ t j, SM num t j 0 := by
    intro t j
    induction j with
    | zero => rfl
    | succ j ih => exact ⟨0, by omega, by omega, by rw [Nat.zero_mul]; exact ih⟩
  have one : ∀ j n t k, k < j → num k ≤ n → (∀ k, k < j → 1 ≤ num k) → SM num t j (n - num k) → SM num (t + 1) j n := by
    intro j
    induction j with
    | zero => intro n t k hk; omega
    | succ j ih =>
      intro n t k hk hn1 hp ⟨c, c1, c2, c3⟩
      by_cases e : k = j
      · subst e
        refine ⟨c + 1, by omega, by rw [Nat.succ_mul]; omega, ?_⟩
        rw [Nat.succ_mul, show n - (c * num k + num k) = n - num k - c * num k by omega]
        have mono : ∀ j n t, SM num t j n → SM num (t + 1) j n := by
          intro j
          induction j with
          | zero => intro n t h; exact h
          | succ j ih2 => intro n t ⟨c, c1, c2, c3⟩; exact ⟨c, by omega, c2, ih2 _ _ c3⟩
        exact mono _ _ _ c3
      · refine ⟨c, by omega, by omega, ih _ t k (by omega) (by omega) (fun k hk => hp k (by omega)) ?_⟩
        rw [show n - c * num j - num k = n - num k - c * num j by omega]
        exact c3
  intro f
  induction f with
  | zero => intro n t hnt h; rw [show n = 0 from h]; exact zero t g
  | succ f ih =>
    intro n t hnt h
    rcases h with h | ⟨k, k1, k2, k3⟩
    · rw [h]; exact zero t g
    · have := hn k k1
      obtain ⟨t', rfl⟩ : ∃ t', t = t' + 1 := ⟨t - 1, by omega⟩
      exact one g n t' k k1 k2 hn (ih _ t' (by omega) k3)
theorem SM_ISm {num : Nat → Nat} {g t : Nat} (hn : ∀ k, k < g → 1 ≤ num k) : ∀ (f n : Nat), n ≤ f → SM num t g n → ISm num g f n := by
  have step : ∀ j n, n ≠ 0 → (∀ k, k < j → 1 ≤ num k) → SM num t j n → ∃ k, k < j ∧ num k ≤ n ∧ SM num t j (n - num k) := by
    intro j
    induction j with
    | zero => intro n h0 _ h; exact absurd h h0
    | succ j ih =>
      intro n h0 hp ⟨c, c1, c2, c3⟩
      by_cases e : c = 0
      · subst e
        rw [Nat.zero_mul, Nat.sub_zero] at c3
        obtain ⟨k, k1, k2, k3⟩ := ih n h0 (fun k hk => hp k (by omega)) c3
        exact ⟨k, by omega, k2, 0, by omega, by omega, by rw [Nat.zero_mul, Nat.sub_zero]; exact k3⟩
      · obtain ⟨c', rfl⟩ : ∃ c', c = c' + 1 := ⟨c - 1, by omega⟩
        rw [Nat.succ_mul] at c2 c3
        refine ⟨j, by omega, by omega, c', by omega, by omega, ?_⟩
        rw [show n - num j - c' * num j = n - (c' * num j + num j) by omega]
        exact c3
  intro f
  induction f with
  | zero => intro n hf _; exact Nat.le_zero.mp hf
  | succ f ih =>
    intro n hf h
    by_cases e : n = 0
    · exact Or.inl e
    · obtain ⟨k, k1, k2, k3⟩ := step g n e hn h
      have := hn k k1
      exact Or.inr ⟨k, k1, k2, ih _ (by omega) k3⟩
theorem m_isSum {h : Hp} {g : Nat} {num : Nat → Nat} (G : GN h g num) : ∀ (f n : Nat), n ≤ f → f ≤ 100 → ∀ Q : Int32 → Prop, (ISm num g f n → Q 1) → (¬ ISm num g f n → Q 0) → wG3 (f + 1) 55 (nI n) h Q := by
  obtain ⟨hg, e1, e2, hn⟩ := id G
  intro f
  induction f with
  | zero =>
    intro n hf _ Q h1 h0
    show bX12_isSum (wG3 0) 55 (nI n) h Q
    unfold bX12_isSum
    have : n = 0 := by omega
    subst this
    rw [if_pos (show nI 0 = 0 from rfl)]
    exact h1 rfl
  | succ f ih =>
    intro n hf hf2 Q h1 h0
    show bX12_isSum (wG3 (f + 1)) 55 (nI n) h Q
    unfold bX12_isSum
    by_cases e : n = 0
    · subst e
      rw [if_pos (show nI 0 = 0 from rfl)]
      exact h1 (Or.inl rfl)
    · rw [if_neg (nI_ne0 (by omega) (by omega))]
      refine iX12_isSum_8 (I := fun x => ∃ k : Nat, x = nI k ∧ k ≤ g ∧ ∀ k', k' < k → ¬ (num k' ≤ n ∧ ISm num g f (n - num k'))) (μ := fun x => g - x.toNatClampNeg) ?_ 0 ⟨0, rfl, by omega, fun k' hk => by omega⟩
      rintro x ⟨k, rfl, hk, hno⟩ K hK
      unfold fX12_isSum_8
      rw [e2]
      by_cases c : g ≤ k
      · rw [if_pos (nI_le c (by omega))]
        refine h0 (fun q => ?_)
        rcases q with q | ⟨k', k1, k2, k3⟩
        · exact e q
        · exact hno k' (by omega) ⟨k2, k3⟩
      · obtain ⟨y1, y2, y3, y4⟩ := hn k (by omega)
        rw [if_neg (nI_ge (by omega) (by omega)), rf_55_2, ln_56, nI_clamp (by omega), y2]
        have vk : vp_in (nI k) 3 := (vp_nI (by omega)).mpr (by omega)
        simp only [forall_eq, nI_1]
        refine ⟨vk, ?_⟩
        by_cases d : n < num k
        · rw [if_pos (nI_lt d (by omega))]
          refine hK _ ⟨k + 1, rfl, by omega, fun k' hk' => ?_⟩ (by rw [nI_clamp (by omega), nI_clamp (by omega)]; omega)
          by_cases z : k' = k
          · subst z; exact fun q => by omega
          · exact hno k' (by omega)
        · rw [if_neg (nI_nlt (by omega) (by omega)), show nI n - nI (num k) = nI (n - num k) from pk_sub (by omega)]
          refine ⟨vk, ?_⟩
          apply ih (n - num k) (by omega) (by omega)
          · intro hs
            rw [if_neg (by decide)]
            exact h1 (Or.inr ⟨k, by omega, by omega, hs⟩)
          · intro hs
            rw [if_pos rfl]
            refine hK _ ⟨k + 1, rfl, by omega, fun k' hk' => ?_⟩ (by rw [nI_clamp (by omega), nI_clamp (by omega)]; omega)
            by_cases z : k' = k
            · subst z; exact fun q => hs q.2
            · exact hno k' (by omega)
