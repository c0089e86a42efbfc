/-! small methods as equations -/
theorem e01 (c d : Prop) [Decidable c] [Decidable d] (Q : Int32 → Prop) : (if c then Q 0 else (if d then Q 0 else Q 1)) = Q (if c ∨ d then 0 else 1) := by
  by_cases hc : c <;> by_cases hd : d <;> simp [hc, hd]
theorem b01 (c : Prop) [Decidable c] : bOK (if c then 0 else 1) := by
  by_cases hc : c <;> simp [hc] <;> rfl
theorem e_in (x l u : Int32) (h : Hp) (Q : Int32 → Prop) : wX12_in x l u h Q = Q (if x < l ∨ u < x then 0 else 1) := by
  unfold wX12_in
  exact e01 _ _ Q
theorem sub1_lt {n : Nat} (hn : n < 2 ^ 31) (x : Int32) : nI n - 1 < x ↔ ¬ x < nI n := by
  have e : (nI n - 1).toInt = (n : Int) - 1 := by
    rw [Int32.toInt_sub, nI_toInt hn, show (1 : Int32).toInt = 1 from rfl, Int.bmod_eq_of_le] <;> omega
  rw [Int32.lt_iff_toInt_lt, Int32.lt_iff_toInt_lt, e, nI_toInt hn]
  omega
theorem l59 (x : Int32) : 59 < x ↔ ¬ x < 60 := by
  rw [Int32.lt_iff_toInt_lt, Int32.lt_iff_toInt_lt]
  simp
  omega
theorem l5 (x : Int32) : 5 < x ↔ ¬ x < 6 := by
  rw [Int32.lt_iff_toInt_lt, Int32.lt_iff_toInt_lt]
  simp
  omega
theorem l7 (x : Int32) : 7 < x ↔ ¬ x < 8 := by
  rw [Int32.lt_iff_toInt_lt, Int32.lt_iff_toInt_lt]
  simp
  omega
theorem e_isTime (x : Int32) (h : Hp) (Q : Int32 → Prop) : wX11_isTime x h Q = Q (if x < 0 ∨ ¬ x < 60 then 0 else 1) := by
  unfold wX11_isTime
  simp only [← Int32.not_lt]
  exact e01 _ _ Q
theorem e_mTime (x : Int32) (h : Hp) (Q : Int32 → Prop) : wX12_isTime x h Q = Q (if x < 0 ∨ ¬ x < 60 then 0 else 1) := by
  unfold wX12_isTime
  rw [e_in]
  simp only [l59]
  exact propext ⟨fun q => q.2, fun q => ⟨b01 _, q⟩⟩
theorem e_isShelf (x : Int32) (h : Hp) (Q : Int32 → Prop) : wX11_isShelf x h Q = Q (if x < 0 ∨ ¬ x < 6 then 0 else 1) := by
  unfold wX11_isShelf
  simp only [← Int32.not_lt]
  exact e01 _ _ Q
theorem e_mShelf (x : Int32) (h : Hp) (Q : Int32 → Prop) : wX12_isShelf x h Q = Q (if x < 0 ∨ ¬ x < 6 then 0 else 1) := by
  unfold wX12_isShelf
  rw [e_in]
  simp only [l5]
  exact propext ⟨fun q => q.2, fun q => ⟨b01 _, q⟩⟩
theorem e_isKind (x : Int32) (h : Hp) (Q : Int32 → Prop) : wX0_isKind x h Q = Q (if x < 0 ∨ ¬ x < 8 then 0 else 1) := by
  unfold wX0_isKind
  simp only [← Int32.not_lt]
  exact e01 _ _ Q
theorem e_isNumber (x : Int32) (h : Hp) (Q : Int32 → Prop) : wX11_isNumber x h Q = Q (if x < 1 ∨ 6 < x then 0 else 1) := by
  unfold wX11_isNumber
  exact e01 _ _ Q
theorem e_gHas (a : Nat) (x : Int32) (h : Hp) (Q : Int32 → Prop) : wX4_has a x h Q = Q (if x < 0 ∨ ¬ x < gI h a 1 then 0 else 1) := by
  unfold wX4_has
  simp only [← Int32.not_lt]
  exact e01 _ _ Q
theorem e_pHas (a : Nat) (x : Int32) (h : Hp) (Q : Int32 → Prop) : wX8_has a x h Q = Q (if x < 0 ∨ ¬ x < gI h a 3 then 0 else 1) := by
  unfold wX8_has
  simp only [← Int32.not_lt]
  exact e01 _ _ Q
theorem e_bHas (a : Nat) (x : Int32) (h : Hp) (Q : Int32 → Prop) : wX0_has a x h Q = Q (if x < 0 ∨ ¬ x < gI h a 2 then 0 else 1) := by
  unfold wX0_has
  simp only [← Int32.not_lt]
  exact e01 _ _ Q
theorem e_isGate (x : Int32) {h : Hp} {g : Nat} (e : gI h 55 1 = nI g) (hg : g < 2 ^ 31) (Q : Int32 → Prop) : wX12_isGate 55 x h Q = Q (if x < 0 ∨ ¬ x < nI g then 0 else 1) := by
  unfold wX12_isGate
  rw [e_in, e]
  simp only [sub1_lt hg]
  exact propext ⟨fun q => q.2, fun q => ⟨b01 _, q⟩⟩
theorem e_isPerson (x : Int32) {h : Hp} {g : Nat} (e : gI h 55 3 = nI g) (hg : g < 2 ^ 31) (Q : Int32 → Prop) : wX12_isPerson 55 x h Q = Q (if x < 0 ∨ ¬ x < nI g then 0 else 1) := by
  unfold wX12_isPerson
  rw [e_in, e]
  simp only [sub1_lt hg]
  exact propext ⟨fun q => q.2, fun q => ⟨b01 _, q⟩⟩
theorem e_isBody (x : Int32) {h : Hp} {g : Nat} (e : gI h 55 48 = nI g) (hg : g < 2 ^ 31) (Q : Int32 → Prop) : wX12_isBody 55 x h Q = Q (if x < 0 ∨ ¬ x < nI g then 0 else 1) := by
  unfold wX12_isBody
  rw [e_in, e]
  simp only [sub1_lt hg]
  exact propext ⟨fun q => q.2, fun q => ⟨b01 _, q⟩⟩
theorem e_isGate0 (x : Int32) (h : Hp) (Q : Int32 → Prop) : wX12_isGate 55 x h Q = Q (if x < 0 ∨ gI h 55 1 - 1 < x then 0 else 1) := by
  unfold wX12_isGate
  rw [e_in]
  exact propext ⟨fun q => q.2, fun q => ⟨b01 _, q⟩⟩
theorem e_isPerson0 (x : Int32) (h : Hp) (Q : Int32 → Prop) : wX12_isPerson 55 x h Q = Q (if x < 0 ∨ gI h 55 3 - 1 < x then 0 else 1) := by
  unfold wX12_isPerson
  rw [e_in]
  exact propext ⟨fun q => q.2, fun q => ⟨b01 _, q⟩⟩
theorem e_isBody0 (x : Int32) (h : Hp) (Q : Int32 → Prop) : wX12_isBody 55 x h Q = Q (if x < 0 ∨ gI h 55 48 - 1 < x then 0 else 1) := by
  unfold wX12_isBody
  rw [e_in]
  exact propext ⟨fun q => q.2, fun q => ⟨b01 _, q⟩⟩
theorem e_rm {a d : Nat} (ha : a < 2 ^ 31) (h0 : 0 < d) (hd : d < 2 ^ 31) : rm (nI a) (nI d) = nI (a % d) := pk_rem ha h0 hd
theorem ix (x : Int32) (n : Nat) (hn : n < 2 ^ 31) : (x < 0 ∨ ¬ x < nI n) ∨ ∃ j : Nat, j < n ∧ x = nI j ∧ ¬ (nI j < 0 ∨ ¬ nI j < nI n) := by
  rcases pk_ix x hn with h | h | ⟨j, h1, h2⟩
  · exact Or.inl (Or.inl h)
  · exact Or.inl (Or.inr (Int32.not_lt.mpr h))
  · refine Or.inr ⟨j, h1, h2, ?_⟩
    rintro (q | q)
    · exact nI_pos (by omega) q
    · exact q (nI_lt h1 hn)
theorem bd (x lo hi : Int32) {l u : Nat} (e1 : lo = nI l) (e2 : hi = nI u) (hl : l < 2 ^ 31) (hh : u < 2 ^ 31) : (x < lo ∨ hi < x) ∨ ∃ j : Nat, l ≤ j ∧ j ≤ u ∧ x = nI j ∧ ¬ (nI j < lo ∨ hi < nI j) := by
  subst e1 e2
  by_cases c1 : x < nI l
  · exact Or.inl (Or.inl c1)
  · by_cases c2 : nI u < x
    · exact Or.inl (Or.inr c2)
    · obtain ⟨j, h1, h2, h3⟩ := nI_small (nl c1) (nl c2) hl hh
      refine Or.inr ⟨j, h2, h3, h1, ?_⟩
      rintro (q | q)
      · exact c1 (h1 ▸ q)
      · exact c2 (h1 ▸ q)
theorem ne10 : ((1 : Int32) = 0) = False := by simp
theorem clamp0 : (0 : Int32).toNatClampNeg = 0 := rfl
theorem e_mn {a b : Nat} (ha : a < 2 ^ 31) (hb : b < 2 ^ 31) : mn (nI a) (nI b) = nI (min a b) := by
  unfold mn
  by_cases c : b < a
  · rw [if_pos (nI_lt c ha), Nat.min_eq_right (by omega)]
  · rw [if_neg (nI_nlt (by omega) hb), Nat.min_eq_left (by omega)]
theorem e_mx {a b : Nat} (ha : a < 2 ^ 31) (hb : b < 2 ^ 31) : mx (nI a) (nI b) = nI (max a b) := by
  unfold mx
  by_cases c : a < b
  · rw [if_pos (nI_lt c hb), Nat.max_eq_right (by omega)]
  · rw [if_neg (nI_nlt (by omega) ha), Nat.max_eq_left (by omega)]
/-! shelves -/
theorem sh_id : ∀ s, s < 6 → rf 42 s = 43 + 2 * s ∧ rf (43 + 2 * s) 0 = 44 + 2 * s ∧ ln (44 + 2 * s) = 60 := by decide
theorem sh_id1 {s : Nat} (hs : s < 6) : rf 42 s = 43 + 2 * s := (sh_id s hs).1
theorem sh_id2 {s : Nat} (hs : s < 6) : rf (43 + 2 * s) 0 = 44 + 2 * s := (sh_id s hs).2.1
theorem sh_id3 {s : Nat} (hs : s < 6) : ln (44 + 2 * s) = 60 := (sh_id s hs).2.2
theorem shV_at {h : Hp} {j s : Nat} (hs : s < 6) : gI h (43 + 2 * s) j = shV h j s := by
  unfold shV
  rw [if_pos hs]
theorem shE_at {h : Hp} {s k : Nat} (hs : s < 6) : gL h (44 + 2 * s) k = shE h s k := by
  unfold shE
  rw [if_pos hs]
theorem shV_put (h : Hp) {s : Nat} (hs : s < 6) (k j : Nat) (v : Int32) : shV (sI h (43 + 2 * s) k v) j = if j = k then upd (shV h j) s v else shV h j := by
  funext t
  unfold shV
  by_cases ht : t < 6
  · rw [if_pos ht, gI_sI]
    by_cases e : j = k
    · subst e
      rw [if_pos rfl]
      unfold upd
      by_cases e2 : t = s
      · subst e2; simp
      · rw [if_neg (by omega), if_neg e2]
        exact (if_pos ht).symm
    · rw [if_neg (by omega), if_neg e, if_pos ht]
  · rw [if_neg ht]
    by_cases e : j = k
    · rw [if_pos e]
      unfold upd
      rw [if_neg (by omega)]
      exact (if_neg ht).symm
    · rw [if_neg e, if_neg ht]
theorem shE_put (h : Hp) {s : Nat} (hs : s < 6) (i : Nat) (v : Int64) : shE (sL h (44 + 2 * s) i v) = fun t k => if t = s ∧ k = i then v else shE h t k := by
  funext t k
  unfold shE
  by_cases ht : t < 6
  · rw [if_pos ht, gL_sL, if_pos ht]
    by_cases e : t = s ∧ k = i
    · rw [if_pos e, if_pos (by omega)]
    · rw [if_neg e, if_neg (by omega)]
  · rw [if_neg ht, if_neg (by omega), if_neg ht]
theorem gI_shI (h : Hp) {s a : Nat} (hs : s < 6) (k j : Nat) (v : Int32) (ha : a < 43 ∨ 54 < a) : gI (sI h (43 + 2 * s) k v) a j = gI h a j := by
  rw [gI_sI, if_neg (by omega)]
theorem rI_shI (h : Hp) {s a : Nat} (hs : s < 6) (k : Nat) (v : Int32) (ha : a < 43 ∨ 54 < a) : rI (sI h (43 + 2 * s) k v) a = rI h a := by
  rw [rI_sI, if_neg (by omega)]
theorem rL_shL (h : Hp) {s a : Nat} (hs : s < 6) (k : Nat) (v : Int64) (ha : a < 43 ∨ 54 < a) : rL (sL h (44 + 2 * s) k v) a = rL h a := by
  rw [rL_sL, if_neg (by omega)]
theorem gI_shJ (h : Hp) {s t : Nat} (hs : s < 6) (ht : t < 6) (k j : Nat) (v : Int32) (hk : j ≠ k) : gI (sI h (43 + 2 * s) k v) (43 + 2 * t) j = gI h (43 + 2 * t) j := by
  rw [gI_sI, if_neg (by omega)]
theorem e_isRow (a : Nat) (h : Hp) (Q : Int32 → Prop) : wX10_isRow a h Q = Q (if gI h a 2 = -1 then 0 else 1) := by
  unfold wX10_isRow
  by_cases c : gI h a 2 = -1 <;> simp [c]
theorem e_isBook (a : Nat) (h : Hp) (Q : Int32 → Prop) : wX10_isBook a h Q = Q (if gI h a 2 = 0 then 1 else 0) := by
  unfold wX10_isBook
  by_cases c : gI h a 2 = 0 <;> simp [c]
theorem e_isEmpty (a : Nat) (h : Hp) (Q : Int32 → Prop) : wX10_isEmpty a h Q = Q (if gI h a 2 = -1 then (if gI h a 1 = -1 then 1 else 0) else 0) := by
  unfold wX10_isEmpty
  rw [e_isRow]
  by_cases c : gI h a 2 = -1 <;> by_cases d : gI h a 1 = -1 <;> simp [c, d]
theorem lt_t {a b : Nat} (h : a < b) : (a < b) = True := eq_true h
theorem lt_f {a b : Nat} (h : b ≤ a) : (a < b) = False := eq_false (by omega)
theorem le_t {a b : Nat} (h : a ≤ b) : (a ≤ b) = True := eq_true h
theorem le_f {a b : Nat} (h : b < a) : (a ≤ b) = False := eq_false (by omega)
theorem eq_f {a b : Nat} (h : a < b ∨ b < a) : (a = b) = False := eq_false (by omega)
theorem eq_t {a b : Nat} (h : a ≤ b ∧ b ≤ a) : (a = b) = True := eq_true (by omega)
theorem i64 (x : Int32) : x.toInt64.toInt = x.toInt := Int32.toInt_toInt64 x
theorem i32b (x : Int32) : -2147483648 ≤ x.toInt ∧ x.toInt ≤ 2147483647 := ⟨by have := Int32.le_toInt x; omega, by have := Int32.toInt_lt x; omega⟩
theorem i64sub (x y : Int32) : (x.toInt64 - y.toInt64).toInt = x.toInt - y.toInt := by
  have hx := i32b x
  have hy := i32b y
  rw [Int64.toInt_sub, i64, i64, Int.bmod_eq_of_le] <;> omega
/-- has a row n places from x on -/
theorem e_hasPlaces (a : Nat) (x n : Int32) (h : Hp) (Q : Int32 → Prop) : wX10_hasPlaces a x n h Q = Q (if x.toInt < 0 ∨ n.toInt < 0 ∨ (gI h a 3).toInt - n.toInt < x.toInt then 0 else 1) := by
  unfold wX10_hasPlaces
  simp only [lg_cmp_gt]
  simp only [Int64.lt_iff_toInt_lt, Int32.lt_iff_toInt_lt, i64sub, i64, show (0 : Int32).toInt = 0 from rfl]
  by_cases c1 : x.toInt < 0 <;> by_cases c2 : n.toInt < 0 <;> by_cases c3 : (gI h a 3).toInt - n.toInt < x.toInt <;> simp [c1, c2, c3]
theorem ixT {x : Int32} {z : Nat} (hz : z < 2 ^ 31) : (x.toInt < 0 ∨ Int32.toInt 1 < 0 ∨ (nI z).toInt - Int32.toInt 1 < x.toInt) ↔ (x < 0 ∨ ¬ x < nI z) := by
  rw [Int32.lt_iff_toInt_lt, Int32.lt_iff_toInt_lt, nI_toInt hz, show Int32.toInt 1 = 1 from rfl, show (0 : Int32).toInt = 0 from rfl]
  omega
theorem nm1 {n : Nat} (h : n < 2 ^ 31) : ¬ nI n = -1 := by
  rw [← Int32.toInt_inj, nI_toInt h]
  show ¬ (n : Int) = -1
  omega
theorem ng0 {n : Nat} (h0 : 0 < n) (h : n ≤ 2 ^ 30) : -nI n < 0 := by
  rw [Int32.lt_iff_toInt_lt, neg_toInt h]
  show -(n : Int) < 0
  omega
theorem ngne {n m : Nat} (hn : n ≤ 2 ^ 30) (h : m ≤ 2 ^ 30) (hm : n ≠ m) : ¬ -nI n = -nI m := by
  rw [← Int32.toInt_inj, neg_toInt hn, neg_toInt h]
  omega
theorem e_at (a : Nat) (x : Int32) (h : Hp) (Q : Int64 → Prop) {s z i : Nat} (hs : s < 6) (ha : a = 43 + 2 * s) (hz : gI h a 3 = nI z) (hz2 : z ≤ 60) (hi : i < z) (hx : x = nI i) : wX10_at a x h Q = Q (shE h s i) := by
  subst ha hx
  unfold wX10_at
  rw [e_hasPlaces, hz, if_neg (fun q => (ixT (by omega)).mp q |>.elim (fun q => nI_pos (by omega) q) (fun q => q (nI_lt hi (by omega))))]
  simp (disch := omega) only [ne10, ↓reduceIte, sh_id2, sh_id3, vp_nI, nI_clamp, show i < 60 by omega, true_and, shE_at]
theorem cl0 : (0 : Int32).toNatClampNeg = 0 := rfl
theorem cl1 : (1 : Int32).toNatClampNeg = 1 := rfl
theorem cl12 : (12 : Int32).toNatClampNeg = 12 := rfl
theorem cl39 : (39 : Int32).toNatClampNeg = 39 := rfl
theorem agr {c : Nat} {h h2 : Hp} (f1 : ∀ a k, a ≠ c → gI h2 a k = gI h a k) (f2 : ∀ a k, gL h2 a k = gL h a k) (hc : c < 43 ∨ 54 < c) : (∀ a, a ≠ c → rI h2 a = rI h a) ∧ (∀ a, rL h2 a = rL h a) ∧ (∀ j, shV h2 j = shV h j) ∧ shE h2 = shE h := by
  refine ⟨fun a ha => funext fun k => f1 a k ha, fun a => funext fun k => f2 a k, fun j => funext fun s => ?_, funext fun s => funext fun k => ?_⟩
  · unfold shV
    by_cases hs : s < 6
    · rw [if_pos hs, if_pos hs, f1 _ _ (by omega)]
    · rw [if_neg hs, if_neg hs]
  · unfold shE
    by_cases hs : s < 6
    · rw [if_pos hs, if_pos hs, f2]
    · rw [if_neg hs, if_neg hs]
