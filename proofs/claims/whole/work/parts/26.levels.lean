/-! counting, and sets that grow -/
def cnt (S : Nat → Bool) : Nat → Nat
  | 0 => 0
  | n + 1 => cnt S n + (if S n then 1 else 0)
theorem cnt_le (S : Nat → Bool) : ∀ n, cnt S n ≤ n
  | 0 => by simp [cnt]
  | n + 1 => by
    have := cnt_le S n
    unfold cnt
    split <;> omega
theorem cnt_mono {S T : Nat → Bool} (h : ∀ i, S i = true → T i = true) : ∀ n, cnt S n ≤ cnt T n
  | 0 => by simp [cnt]
  | n + 1 => by
    have := cnt_mono h n
    unfold cnt
    by_cases c : S n = true
    · rw [if_pos c, if_pos (h n c)]; omega
    · rw [if_neg c]
      split <;> omega
theorem cnt_lt {S T : Nat → Bool} (h : ∀ i, S i = true → T i = true) {i : Nat} (h1 : S i = false) (h2 : T i = true) : ∀ n, i < n → cnt S n < cnt T n
  | 0, hi => by omega
  | n + 1, hi => by
    have m := cnt_mono h n
    unfold cnt
    by_cases e : i = n
    · subst e
      rw [h1, h2]
      simp
      omega
    · have := cnt_lt h h1 h2 n (by omega)
      by_cases c : S n = true
      · rw [if_pos c, if_pos (h n c)]; omega
      · rw [if_neg c]
        split <;> omega
theorem cnt_full {S : Nat → Bool} : ∀ n, n ≤ cnt S n → ∀ i, i < n → S i = true
  | 0, _, i, hi => by omega
  | n + 1, h, i, hi => by
    have m := cnt_le S n
    unfold cnt at h
    by_cases c : S n = true
    · rw [if_pos c] at h
      by_cases e : i = n
      · subst e; exact c
      · exact cnt_full n (by omega) i (by omega)
    · rw [if_neg c] at h
      omega
theorem cnt_pos {S : Nat → Bool} {i : Nat} (h : S i = true) : ∀ n, i < n → 1 ≤ cnt S n
  | 0, hi => by omega
  | n + 1, hi => by
    unfold cnt
    by_cases e : i = n
    · subst e
      rw [if_pos h]; omega
    · have := cnt_pos h n (by omega)
      omega
def itN (st : (Nat → Bool) → (Nat → Bool)) (S : Nat → Bool) : Nat → (Nat → Bool)
  | 0 => S
  | k + 1 => st (itN st S k)
theorem itN_mono {st : (Nat → Bool) → (Nat → Bool)} (mono : ∀ S i, S i = true → st S i = true) {S : Nat → Bool} {i k : Nat} (h : itN st S k i = true) : ∀ n, itN st S (k + n) i = true
  | 0 => h
  | n + 1 => mono _ _ (itN_mono mono h n)
theorem itN_mono' {st : (Nat → Bool) → (Nat → Bool)} (mono : ∀ S i, S i = true → st S i = true) {S : Nat → Bool} {i k m : Nat} (h : itN st S k i = true) (hm : k ≤ m) : itN st S m i = true := by
  have := itN_mono mono h (m - k)
  rwa [show k + (m - k) = m by omega] at this
theorem itN_fix {st : (Nat → Bool) → (Nat → Bool)} {S : Nat → Bool} {k : Nat} (h : itN st S (k + 1) = itN st S k) : ∀ n, itN st S (k + n) = itN st S k
  | 0 => rfl
  | n + 1 => by
    show st (itN st S (k + n)) = _
    rw [itN_fix h n]
    exact h
theorem itN_bd {st : (Nat → Bool) → (Nat → Bool)} {N : Nat} (bd : ∀ S : Nat → Bool, (∀ i, S i = true → i < N) → ∀ i, st S i = true → i < N) {S : Nat → Bool} (hb : ∀ i, S i = true → i < N) : ∀ k i, itN st S k i = true → i < N
  | 0 => hb
  | k + 1 => bd _ (itN_bd bd hb k)
theorem stab {st : (Nat → Bool) → (Nat → Bool)} {N : Nat} (mono : ∀ S i, S i = true → st S i = true) (bd : ∀ S : Nat → Bool, (∀ i, S i = true → i < N) → ∀ i, st S i = true → i < N) {S : Nat → Bool} (hb : ∀ i, S i = true → i < N) {i0 : Nat} (h0 : S i0 = true) : ∀ k, N ≤ k + 1 → itN st S (k + 1) = itN st S k := by
  have key : ∀ k, itN st S (k + 1) = itN st S k ∨ k + 1 ≤ cnt (itN st S k) N := by
    intro k
    induction k with
    | zero => exact Or.inr (cnt_pos h0 N (hb i0 h0))
    | succ k ih =>
      by_cases e : itN st S (k + 1) = itN st S k
      · left
        show st (itN st S (k + 1)) = itN st S (k + 1)
        rw [e]
        exact e
      · right
        have hk := ih.resolve_left e
        have : ∃ i, itN st S k i = false ∧ itN st S (k + 1) i = true := by
          apply Classical.byContradiction
          intro hn
          apply e
          funext i
          cases h1 : itN st S k i
          · cases h2 : itN st S (k + 1) i
            · rfl
            · exact absurd ⟨i, h1, h2⟩ hn
          · exact mono _ _ h1
        obtain ⟨i, h1, h2⟩ := this
        have := cnt_lt (fun i h => mono (itN st S k) i h) h1 h2 N (itN_bd bd hb _ _ h2)
        exact Nat.lt_of_le_of_lt hk this
  intro k hk
  rcases key k with h | h
  · exact h
  · funext i
    by_cases hi : i < N
    · have := cnt_full (S := itN st S k) N (by omega) i hi
      rw [this]
      exact mono _ _ this
    · have h1 : itN st S (k + 1) i ≠ true := fun q => hi (itN_bd bd hb _ _ q)
      have h2 : itN st S k i ≠ true := fun q => hi (itN_bd bd hb _ _ q)
      cases h3 : itN st S (k + 1) i
      · cases h4 : itN st S k i
        · rfl
        · exact absurd h4 h2
      · exact absurd h3 h1
theorem stab_all {st : (Nat → Bool) → (Nat → Bool)} {N : Nat} (mono : ∀ S i, S i = true → st S i = true) (bd : ∀ S : Nat → Bool, (∀ i, S i = true → i < N) → ∀ i, st S i = true → i < N) {S : Nat → Bool} (hb : ∀ i, S i = true → i < N) {i0 : Nat} (h0 : S i0 = true) {M k : Nat} (hM : N ≤ M + 1) (hk : M ≤ k) : itN st S k = itN st S M := by
  have := itN_fix (stab mono bd hb h0 M hM) (k - M)
  rwa [show M + (k - M) = k by omega] at this
/-! one passing -/
def one (num : Nat → Nat) (M : Nat) (S : Nat → Bool) : Nat → (Nat → Bool)
  | 0 => S
  | j + 1 => fun i => one num M S j i || (S (i + num j) || (decide (num j ≤ i) && decide (i ≤ M) && S (i - num j)))
theorem one_iff {num : Nat → Nat} {M : Nat} {S : Nat → Bool} {i : Nat} : ∀ g, one num M S g i = true ↔ S i = true ∨ ∃ j, j < g ∧ (S (i + num j) = true ∨ (num j ≤ i ∧ i ≤ M ∧ S (i - num j) = true))
  | 0 => by
    constructor
    · exact Or.inl
    · rintro (h | ⟨j, hj, _⟩)
      · exact h
      · omega
  | g + 1 => by
    have ih := one_iff (num := num) (M := M) (S := S) (i := i) g
    unfold one
    simp only [Bool.or_eq_true, Bool.and_eq_true, decide_eq_true_eq]
    rw [ih]
    constructor
    · rintro ((h | ⟨j, hj, h⟩) | h)
      · exact Or.inl h
      · exact Or.inr ⟨j, by omega, h⟩
      · refine Or.inr ⟨g, by omega, ?_⟩
        rcases h with h | ⟨⟨h1, h2⟩, h3⟩
        · exact Or.inl h
        · exact Or.inr ⟨h1, h2, h3⟩
    · rintro (h | ⟨j, hj, h⟩)
      · exact Or.inl (Or.inl h)
      · by_cases e : j = g
        · subst e
          right
          rcases h with h | ⟨h1, h2, h3⟩
          · exact Or.inl h
          · exact Or.inr ⟨⟨h1, h2⟩, h3⟩
        · exact Or.inl (Or.inr ⟨j, by omega, h⟩)
def op (g : Nat) (num : Nat → Nat) (M : Nat) (S : Nat → Bool) : Nat → Bool := one num M S g
theorem op_mono {g : Nat} {num : Nat → Nat} {M : Nat} : ∀ S i, S i = true → op g num M S i = true := fun _ _ h => (one_iff g).mpr (Or.inl h)
theorem op_bd {g : Nat} {num : Nat → Nat} {M : Nat} : ∀ S : Nat → Bool, (∀ i, S i = true → i < M + 1) → ∀ i, op g num M S i = true → i < M + 1 := by
  intro S hS i hi
  rcases (one_iff g).mp hi with h | ⟨j, _, h | ⟨h1, h2, h3⟩⟩
  · exact hS i h
  · have := hS _ h; omega
  · omega
/-- the gates of a world as numbers -/
def GN (h : Hp) (g : Nat) (num : Nat → Nat) : Prop := g ≤ 3 ∧ gI h 1 1 = nI g ∧ gI h 55 1 = nI g ∧ ∀ k, k < g → gI h 2 k = nI (num k) ∧ gI h 56 k = nI (num k) ∧ 1 ≤ num k ∧ num k ≤ 6
theorem Inv.gates {h : Hp} (I : Inv h) : ∃ g num, GN h g num := by
  obtain ⟨g, hg, e1, e2, hr⟩ := I.1
  refine ⟨g, tn (rI h 2), hg, e1, e2, fun k hk => ?_⟩
  obtain ⟨y1, n, y2, y3, y4⟩ := hr k hk
  obtain ⟨z1, z2⟩ := tn_nI y2 (by omega)
  exact ⟨z1, y1.trans z1, by omega, by omega⟩
theorem c_one {h : Hp} {g M : Nat} {num : Nat → Nat} (G : GN h g num) (hM : M ≤ 40) {x : Int64} {S : Nat → Bool} (hx : isS x S) (hS : ∀ i, S i = true → i < M + 1) {Q : Int64 → Prop} (hQ : ∀ y, isS y (op g num M S) → Q y) : wX4_onePassing 1 x (nI M) h Q := by
  unfold wX4_onePassing
  obtain ⟨hg, e1, e2, hn⟩ := G
  refine iX4_onePassing_6 (I := fun y v => ∃ j : Nat, v = nI j ∧ j ≤ g ∧ isS y (one num M S j)) (μ := fun _ v => g - v.toNatClampNeg) ?_ x 0 ⟨0, rfl, by omega, hx⟩
  rintro y v ⟨j, rfl, hj, hy⟩ K hK
  unfold fX4_onePassing_6
  rw [e1]
  by_cases c : g ≤ j
  · rw [if_pos (nI_le c (by omega))]
    have : j = g := by omega
    subst this
    exact hQ y hy
  · rw [if_neg (nI_ge (by omega) (by omega))]
    obtain ⟨y1, y2, y3, y4⟩ := hn j (by omega)
    simp only [rf_1_0, ln_2, nI_clamp (show j < 2 ^ 31 by omega), y1, wX4_upTo, forall_eq, nI_1]
    have vj : vp_in (nI j) 3 := (vp_nI (by omega)).mpr (by omega)
    refine ⟨vj, vj, hK _ _ ⟨j + 1, rfl, by omega, fun i => ?_⟩ (by rw [nI_clamp (by omega), nI_clamp (by omega)]; omega)⟩
    have h63 : bL x 63 = false := by
      rw [hx]
      cases q : S 63
      · rfl
      · have := hS 63 q; omega
    rw [bL_or, bL_or, bL_and, hy, bL_shr2 x (by omega) h63, bL_shl x (by omega), ← nI_1, bL_up (by omega), hx, hx]
    have e : (decide (i < 64) && decide (num j ≤ i) && S (i - num j) && decide (i ≤ M)) = (decide (num j ≤ i) && decide (i ≤ M) && S (i - num j)) := by
      by_cases c1 : i ≤ M
      · simp [c1, show i < 64 by omega]
      · simp [c1]
    rw [e]
    rfl
abbrev itP (g : Nat) (num : Nat → Nat) (M : Nat) (S : Nat → Bool) (k : Nat) : Nat → Bool := itN (op g num M) S k
theorem itP_bd {g : Nat} {num : Nat → Nat} {M : Nat} {S : Nat → Bool} (hS : ∀ i, S i = true → i < M + 1) (k : Nat) : ∀ i, itP g num M S k i = true → i < M + 1 := itN_bd op_bd hS k
theorem itP_fix {g : Nat} {num : Nat → Nat} {M : Nat} {S : Nat → Bool} (hS : ∀ i, S i = true → i < M + 1) {i0 : Nat} (h0 : S i0 = true) {k : Nat} (hk : M ≤ k) : itP g num M S k = itP g num M S M := stab_all op_mono op_bd hS h0 (Nat.le_refl _) hk
theorem c_ever {h : Hp} {g M : Nat} {num : Nat → Nat} (G : GN h g num) (hM : M ≤ 40) {x : Int64} {S : Nat → Bool} (hx : isS x S) (hS : ∀ i, S i = true → i < M + 1) {i0 : Nat} (h0 : S i0 = true) {Q : Int64 → Prop} (hQ : ∀ y, isS y (itP g num M S M) → Q y) : wX4_everFrom 1 x (nI M) h Q := by
  unfold wX4_everFrom
  refine iX4_everFrom_6 (I := fun y v => ∃ k : Nat, v = nI k ∧ k ≤ M + 1 ∧ isS y (itP g num M S k)) (μ := fun _ v => M + 1 - v.toNatClampNeg) ?_ x 0 ⟨0, rfl, by omega, hx⟩
  rintro y v ⟨k, rfl, hk, hy⟩ K hK
  unfold fX4_everFrom_6
  by_cases c : M < k
  · rw [if_pos (nI_lt c (by omega))]
    apply hQ
    rw [← itP_fix hS h0 (k := k) (by omega)]
    exact hy
  · rw [if_neg (nI_nlt (by omega) (by omega))]
    apply c_one G hM hy (itP_bd hS k)
    intro z hz
    simp only [lg_cmp_eq]
    by_cases e : z = y
    · rw [if_pos e]
      have fx : itP g num M S (k + 1) = itP g num M S k := (hz.eq hy).mp e
      apply hQ
      have := itN_fix fx (M - k)
      rw [show k + (M - k) = M by omega] at this
      unfold itP
      rw [this]
      exact hy
    · rw [if_neg e]
      simp only [forall_eq, nI_1]
      exact hK _ _ ⟨k + 1, rfl, by omega, hz⟩ (by rw [nI_clamp (by omega), nI_clamp (by omega)]; omega)
/-! ways and their lengths -/
def Rw (E : Nat → Nat → Nat → Prop) (s : Nat) (k v : Nat) : Prop := ∀ P : Nat → Nat → Prop, P 0 s → (∀ k u v w, P k u → E u v w → P (k + w) v) → P k v
theorem Rw.base {E : Nat → Nat → Nat → Prop} {s : Nat} : Rw E s 0 s := fun _ h _ => h
theorem Rw.step {E : Nat → Nat → Nat → Prop} {s k u v w : Nat} (h : Rw E s k u) (e : E u v w) : Rw E s (k + w) v := fun P h0 hs => hs k u v w (h P h0 hs) e
/-- a table of lengths in the cell c, n places, under way -/
def Lv (hb : Hp) (c n : Nat) (E : Nat → Nat → Nat → Prop) (s : Nat) (d0 : Nat → Nat) (sat : (Nat → Nat) → Prop) (f : Int32) (h : Hp) : Prop :=
  (∀ a k, a ≠ c → gI h a k = gI hb a k) ∧ (∀ a k, gL h a k = gL hb a k) ∧ ∃ d : Nat → Nat, (∀ k, k < n → gI h c k = nI (d k)) ∧ (∀ k, d k ≤ 1000000) ∧ d s = 0 ∧ (∀ v, v < n → d v < 1000000 → Rw E s (d v) v) ∧ ((f = 0 ∧ d = d0 ∧ sat d) ∨ (f = 1 ∧ (∀ v, d v ≤ d0 v) ∧ ∃ v, v < n ∧ d v < d0 v))
theorem Lv.imp {hb : Hp} {c n : Nat} {E : Nat → Nat → Nat → Prop} {s : Nat} {d0 : Nat → Nat} {sat sat' : (Nat → Nat) → Prop} {f : Int32} {h : Hp} (L : Lv hb c n E s d0 sat f h) (hs : ∀ d, sat d → sat' d) : Lv hb c n E s d0 sat' f h := by
  obtain ⟨f1, f2, d, h1, h2, h3, h4, h5⟩ := L
  refine ⟨f1, f2, d, h1, h2, h3, h4, ?_⟩
  rcases h5 with ⟨q1, q2, q3⟩ | q
  · exact Or.inl ⟨q1, q2, hs d q3⟩
  · exact Or.inr q
/-- one way more looked at -/
theorem Lv.relax {hb : Hp} {c n : Nat} {E : Nat → Nat → Nat → Prop} {s : Nat} {d0 : Nat → Nat} {sat sat' : (Nat → Nat) → Prop} {f : Int32} {h : Hp} (L : Lv hb c n E s d0 sat f h) {u v w : Nat} (hu : u < n) (hv : v < n) (hw : w ≤ 1) (e : E u v w) :
    ∃ du dv : Nat, du ≤ 1000000 ∧ dv ≤ 1000000 ∧ gI h c u = nI du ∧ gI h c v = nI dv ∧ ((dv ≤ du + w ∧ ((∀ d, sat d → d v ≤ d u + w → sat' d) → Lv hb c n E s d0 sat' f h)) ∨ (du + w < dv ∧ Lv hb c n E s d0 sat' 1 (sI h c v (nI (du + w))))) := by
  obtain ⟨f1, f2, d, h1, h2, h3, h4, h5⟩ := L
  refine ⟨d u, d v, h2 u, h2 v, h1 u hu, h1 v hv, ?_⟩
  by_cases q : d v ≤ d u + w
  · refine Or.inl ⟨q, fun hs => ⟨f1, f2, d, h1, h2, h3, h4, ?_⟩⟩
    rcases h5 with ⟨q1, q2, q3⟩ | q'
    · exact Or.inl ⟨q1, q2, hs d q3 q⟩
    · exact Or.inr q'
  · have hlt : d u + w < d v := by omega
    have hvb := h2 v
    refine Or.inr ⟨hlt, fun a k ha => ?_, fun a k => ?_, fun k => if k = v then d u + w else d k, fun k hk => ?_, fun k => ?_, ?_, fun k hk hk2 => ?_, Or.inr ⟨rfl, fun k => ?_, v, hv, ?_⟩⟩
    · rw [gI_sI, if_neg (fun q => ha q.1)]
      exact f1 a k ha
    · rw [gL_sI]
      exact f2 a k
    · rw [gI_sI]
      show _ = nI (if k = v then d u + w else d k)
      by_cases hk2 : k = v
      · rw [if_pos ⟨rfl, hk2⟩, if_pos hk2]
      · rw [if_neg (fun q => hk2 q.2), if_neg hk2]
        exact h1 k hk
    · show (if k = v then d u + w else d k) ≤ 1000000
      split
      · omega
      · exact h2 k
    · show (if s = v then d u + w else d s) = 0
      rw [if_neg (fun q => by subst q; omega)]
      exact h3
    · have hk2 : (if k = v then d u + w else d k) < 1000000 := hk2
      show Rw E s (if k = v then d u + w else d k) k
      by_cases hkv : k = v
      · subst hkv
        rw [if_pos rfl]
        exact Rw.step (h4 u hu (by omega)) e
      · rw [if_neg hkv] at hk2 ⊢
        exact h4 k hk hk2
    · show (if k = v then d u + w else d k) ≤ d0 k
      have : d k ≤ d0 k := by
        rcases h5 with ⟨_, q2, _⟩ | ⟨_, q2, _⟩
        · rw [q2]; exact Nat.le_refl _
        · exact q2 k
      by_cases hkv : k = v
      · subst hkv
        rw [if_pos rfl]
        omega
      · rw [if_neg hkv]
        exact this
    · show (if v = v then d u + w else d v) < d0 v
      have : d v ≤ d0 v := by
        rcases h5 with ⟨_, q2, _⟩ | ⟨_, q2, _⟩
        · rw [q2]; exact Nat.le_refl _
        · exact q2 v
      rw [if_pos rfl]
      omega
/-- how much a table holds -/
def sumT (h : Hp) (c : Nat) : Nat → Nat
  | 0 => 0
  | k + 1 => sumT h c k + (gI h c k).toNatClampNeg
theorem sumT_le {h h2 : Hp} {c : Nat} : ∀ n, (∀ k, k < n → (gI h2 c k).toNatClampNeg ≤ (gI h c k).toNatClampNeg) → sumT h2 c n ≤ sumT h c n
  | 0, _ => Nat.le_refl _
  | n + 1, q => by
    have := sumT_le n (fun k hk => q k (by omega))
    have := q n (by omega)
    unfold sumT
    omega
theorem sumT_lt {h h2 : Hp} {c v : Nat} : ∀ n, (∀ k, k < n → (gI h2 c k).toNatClampNeg ≤ (gI h c k).toNatClampNeg) → v < n → (gI h2 c v).toNatClampNeg < (gI h c v).toNatClampNeg → sumT h2 c n < sumT h c n
  | 0, _, hv, _ => by omega
  | n + 1, q, hv, hl => by
    have h1 := q n (by omega)
    unfold sumT
    by_cases e : v = n
    · subst e
      have := sumT_le v (fun k hk => q k (by omega))
      omega
    · have := sumT_lt n (fun k hk => q k (by omega)) (by omega) hl
      omega
/-- a table at rest -/
def Lv0 (hb : Hp) (c n : Nat) (E : Nat → Nat → Nat → Prop) (s : Nat) (d : Nat → Nat) (h : Hp) : Prop :=
  (∀ a k, a ≠ c → gI h a k = gI hb a k) ∧ (∀ a k, gL h a k = gL hb a k) ∧ (∀ k, k < n → gI h c k = nI (d k)) ∧ (∀ k, d k ≤ 1000000) ∧ d s = 0 ∧ (∀ v, v < n → d v < 1000000 → Rw E s (d v) v)
theorem Lv0.go {hb : Hp} {c n : Nat} {E : Nat → Nat → Nat → Prop} {s : Nat} {d : Nat → Nat} {h : Hp} (L : Lv0 hb c n E s d h) {sat : (Nat → Nat) → Prop} (hs : sat d) : Lv hb c n E s d sat 0 h := by
  obtain ⟨f1, f2, h1, h2, h3, h4⟩ := L
  exact ⟨f1, f2, d, h1, h2, h3, h4, Or.inl ⟨rfl, rfl, hs⟩⟩
/-- after a round: the table is at rest, and either nothing has changed and all ways are looked at, or it holds less -/
theorem Lv.done {hb : Hp} {c n : Nat} {E : Nat → Nat → Nat → Prop} {s : Nat} {d0 : Nat → Nat} {sat : (Nat → Nat) → Prop} {f : Int32} {h h0 : Hp} (L : Lv hb c n E s d0 sat f h) (L0 : Lv0 hb c n E s d0 h0) :
    ∃ d, Lv0 hb c n E s d h ∧ ((f = 0 ∧ sat d ∧ sumT h c n = sumT h0 c n) ∨ (f = 1 ∧ sumT h c n < sumT h0 c n)) := by
  obtain ⟨f1, f2, d, h1, h2, h3, h4, h5⟩ := L
  obtain ⟨g1, g2, k1, k2, k3, k4⟩ := L0
  refine ⟨d, ⟨f1, f2, h1, h2, h3, h4⟩, ?_⟩
  have e1 : ∀ k, k < n → (gI h c k).toNatClampNeg = d k := fun k hk => by rw [h1 k hk, nI_clamp (by have := h2 k; omega)]
  have e2 : ∀ k, k < n → (gI h0 c k).toNatClampNeg = d0 k := fun k hk => by rw [k1 k hk, nI_clamp (by have := k2 k; omega)]
  rcases h5 with ⟨q1, q2, q3⟩ | ⟨q1, q2, v, q3, q4⟩
  · refine Or.inl ⟨q1, q3, ?_⟩
    apply Nat.le_antisymm
    · exact sumT_le n (fun k hk => by rw [e1 k hk, e2 k hk, q2]; exact Nat.le_refl _)
    · exact sumT_le n (fun k hk => by rw [e1 k hk, e2 k hk, q2]; exact Nat.le_refl _)
  · exact Or.inr ⟨q1, sumT_lt n (fun k hk => by rw [e1 k hk, e2 k hk]; exact q2 k) q3 (by rw [e1 v q3, e2 v q3]; exact q4)⟩
/-- ways are no shorter than a table that all ways keep -/
theorem Rw_le {E : Nat → Nat → Nat → Prop} {s : Nat} {d : Nat → Nat} (h0 : d s = 0) (hE : ∀ u v w, E u v w → d v ≤ d u + w) {k v : Nat} (h : Rw E s k v) : d v ≤ k := by
  refine h (fun k v => d v ≤ k) (by omega) (fun k u v w ih e => ?_)
  have := hE _ _ _ e
  omega
