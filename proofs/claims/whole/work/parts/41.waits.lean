/-! how long one waits -/
def wtN (P : Option Lns) (g m : Nat) : Nat → Nat → Nat → Nat
  | 0, _, _ => 0
  | y + 1, n, t => if n = m then 0 else 12 ^ (y + 1) + comV P g n t * wtN P g m y (n + 1) (t + 1) + (12 - comV P g n t) * wtN P g m y n (t + 1)
theorem wtN_m (P : Option Lns) (g m : Nat) : ∀ y t, wtN P g m y m t = 0
  | 0, _ => rfl
  | y + 1, t => by rw [wtN, if_pos rfl]
theorem wtN_le (P : Option Lns) (g m : Nat) : ∀ y n t, wtN P g m y n t ≤ y * 12 ^ y
  | 0, _, _ => Nat.le_refl _
  | y + 1, n, t => by
    have h1 := wtN_le P g m y (n + 1) (t + 1)
    have h2 := wtN_le P g m y n (t + 1)
    have hc := comV_le P g n t
    rw [wtN]
    by_cases c : n = m
    · rw [if_pos c]; exact Nat.zero_le _
    · rw [if_neg c]
      have e1 : comV P g n t * wtN P g m y (n + 1) (t + 1) ≤ comV P g n t * (y * 12 ^ y) := Nat.mul_le_mul_left _ h1
      have e2 : (12 - comV P g n t) * wtN P g m y n (t + 1) ≤ (12 - comV P g n t) * (y * 12 ^ y) := Nat.mul_le_mul_left _ h2
      have e3 : comV P g n t * (y * 12 ^ y) + (12 - comV P g n t) * (y * 12 ^ y) = 12 * (y * 12 ^ y) := by rw [← Nat.add_mul, Nat.add_sub_cancel' hc]
      have e4 : (y + 1) * 12 ^ (y + 1) = 12 ^ (y + 1) + 12 * (y * 12 ^ y) := by
        rw [Nat.add_mul, Nat.one_mul, Nat.pow_succ, Nat.mul_comm (12 ^ y) 12, ← Nat.mul_assoc, Nat.mul_comm y 12, Nat.mul_assoc]
        omega
      omega
/-- a sum of so many -/
def smT (f : Nat → Nat) : Nat → Nat
  | 0 => 0
  | k + 1 => smT f k + f k
/-- one look more -/
def nxV (c v : Nat → Nat) (i : Nat) : Nat := v i * (12 - c i) + if i = 0 then 0 else v (i - 1) * c (i - 1)
theorem nx_sum (c v w : Nat → Nat) (p : Nat) : ∀ k, smT (fun j => v j * (p + c j * w (j + 1) + (12 - c j) * w j)) k = p * smT v k + smT (fun j => nxV c v j * w j) k + (if k = 0 then 0 else v (k - 1) * c (k - 1) * w k)
  | 0 => by simp [smT]
  | k + 1 => by
    have ih := nx_sum c v w p k
    rw [smT, smT, smT, ih]
    have e1 : v k * (p + c k * w (k + 1) + (12 - c k) * w k) = p * v k + v k * c k * w (k + 1) + v k * (12 - c k) * w k := by
      rw [Nat.mul_add, Nat.mul_add, Nat.mul_comm (v k) p, ← Nat.mul_assoc, ← Nat.mul_assoc]
    have e2 : nxV c v k * w k = v k * (12 - c k) * w k + (if k = 0 then 0 else v (k - 1) * c (k - 1) * w k) := by
      unfold nxV
      rw [Nat.add_mul]
      by_cases z : k = 0
      · rw [if_pos z, if_pos z]; simp
      · rw [if_neg z, if_neg z]
    rw [e1, e2, Nat.mul_add, if_neg (show ¬ k + 1 = 0 by omega), Nat.add_sub_cancel]
    omega
/-- weights behind so many looks -/
def vL (P : Option Lns) (g t : Nat) : Nat → (Nat → Nat)
  | 0 => fun i => if i = 0 then 1 else 0
  | l + 1 => nxV (fun j => comV P g j (t + l)) (vL P g t l)
def sL2 (P : Option Lns) (g m t : Nat) : Nat → Nat
  | 0 => 0
  | l + 1 => 12 * sL2 P g m t l + smT (vL P g t l) m
theorem vL_le (P : Option Lns) (g t : Nat) : ∀ l i, vL P g t l i ≤ 24 ^ l
  | 0, i => by
    show (if i = 0 then 1 else 0) ≤ 1
    by_cases c : i = 0
    · rw [if_pos c]; omega
    · rw [if_neg c]; omega
  | l + 1, i => by
    show vL P g t l i * (12 - comV P g i (t + l)) + (if i = 0 then 0 else vL P g t l (i - 1) * comV P g (i - 1) (t + l)) ≤ 24 ^ (l + 1)
    have h1 := vL_le P g t l i
    have h2 := vL_le P g t l (i - 1)
    have e1 : vL P g t l i * (12 - comV P g i (t + l)) ≤ 24 ^ l * 12 := Nat.mul_le_mul h1 (Nat.sub_le _ _)
    have e2 : vL P g t l (i - 1) * comV P g (i - 1) (t + l) ≤ 24 ^ l * 12 := Nat.mul_le_mul h2 (comV_le _ _ _ _)
    have e3 : 24 ^ (l + 1) = 24 ^ l * 24 := Nat.pow_succ _ _
    by_cases c : i = 0
    · rw [if_pos c]; omega
    · rw [if_neg c]; omega
theorem smT_eq {f f' : Nat → Nat} : ∀ k, (∀ j, j < k → f j = f' j) → smT f k = smT f' k
  | 0, _ => rfl
  | k + 1, h => by rw [smT, smT, smT_eq k (fun j hj => h j (by omega)), h k (by omega)]
theorem wt_step (P : Option Lns) (g m t : Nat) (hm : 1 ≤ m) (r : Nat) (l : Nat) : smT (fun j => vL P g t l j * wtN P g m (r + 1) j (t + l)) m = 12 ^ (r + 1) * smT (vL P g t l) m + smT (fun j => vL P g t (l + 1) j * wtN P g m r j (t + (l + 1))) m := by
  have e1 : smT (fun j => vL P g t l j * wtN P g m (r + 1) j (t + l)) m = smT (fun j => vL P g t l j * (12 ^ (r + 1) + comV P g j (t + l) * wtN P g m r (j + 1) (t + (l + 1)) + (12 - comV P g j (t + l)) * wtN P g m r j (t + (l + 1)))) m := by
    apply smT_eq
    intro j hj
    show vL P g t l j * wtN P g m (r + 1) j (t + l) = _
    rw [wtN, if_neg (by omega)]
    rfl
  rw [e1, nx_sum (fun j => comV P g j (t + l)) (vL P g t l) (fun j => wtN P g m r j (t + (l + 1))) (12 ^ (r + 1)) m, wtN_m]
  rw [if_neg (by omega), Nat.mul_zero, Nat.add_zero]
  rfl
theorem wt_all (P : Option Lns) (g m t y : Nat) (hm : 1 ≤ m) : ∀ l, l ≤ y → 12 ^ (y - l + 1) * sL2 P g m t l + smT (fun j => vL P g t l j * wtN P g m (y - l) j (t + l)) m = wtN P g m y 0 t
  | 0, _ => by
    rw [sL2, Nat.mul_zero, Nat.zero_add, Nat.sub_zero, Nat.add_zero]
    have : ∀ k, 1 ≤ k → smT (fun j => vL P g t 0 j * wtN P g m y j t) k = wtN P g m y 0 t := by
      intro k
      induction k with
      | zero => intro h; omega
      | succ k ih =>
        intro _
        rw [smT]
        by_cases c : k = 0
        · subst c
          simp [smT, vL]
        · rw [ih (by omega)]
          simp [vL, c]
    exact this m hm
  | l + 1, h => by
    have ih := wt_all P g m t y hm l (by omega)
    obtain ⟨r, hr⟩ : ∃ r, y - l = r + 1 := ⟨y - l - 1, by omega⟩
    rw [hr, wt_step P g m t hm r l] at ih
    rw [show y - (l + 1) = r by omega, ← ih, sL2, Nat.mul_add]
    have e1 : 12 ^ (r + 1) * (12 * sL2 P g m t l) = 12 ^ (r + 1 + 1) * sL2 P g m t l := by rw [← Nat.mul_assoc, ← Nat.pow_succ]
    rw [e1]
    omega
theorem wt_twelve (P : Option Lns) (g m t y : Nat) (hm : 1 ≤ m) : wtN P g m y 0 t = 12 * sL2 P g m t y := by
  have := wt_all P g m t y hm y (Nat.le_refl _)
  rw [Nat.sub_self] at this
  rw [← this]
  have z : ∀ k, smT (fun j => vL P g t y j * wtN P g m 0 j (t + y)) k = 0 := by
    intro k
    induction k with
    | zero => rfl
    | succ k ih => rw [smT, ih]; simp [wtN]
  rw [z]
  rfl
/-- the reference's way -/
theorem m_power {y : Nat} (hy : y ≤ 8) (h : Hp) {Q : Int64 → Prop} (hQ : Q (lN (12 ^ y))) : wX12_power (nI y) h Q := by
  unfold wX12_power
  refine iX12_power_4 (I := fun x1 x3 => ∃ k : Nat, x1 = lN (12 ^ k) ∧ x3 = nI k ∧ k ≤ y) (μ := fun _ x3 => y - x3.toNatClampNeg) ?_ 1 0 ⟨0, rfl, rfl, by omega⟩
  rintro x1 x3 ⟨k, rfl, rfl, hk⟩ K hK
  unfold fX12_power_4
  by_cases c : y ≤ k
  · rw [if_pos (nI_le c (by omega)), show k = y by omega]
    exact hQ
  · rw [if_neg (nI_ge (by omega) (by omega))]
    simp only [forall_eq, nI_1]
    rw [show (12 : Int64) = lN 12 from rfl, lN_mul, ← Nat.pow_succ]
    exact hK _ _ ⟨k + 1, rfl, rfl, by omega⟩ (by rw [nI_clamp (by omega), nI_clamp (by omega)]; omega)
theorem m_waiting {g gn m : Nat} {num : Nat → Nat} {P : Option Lns} (hg : g < gn) (hmn : num g = m) : ∀ (y : Nat), y ≤ 8 → ∀ (n t : Nat) (h : Hp) (Q : Int64 → Hp → Prop), GN h gn num → LT h 14 15 16 1 P → n ≤ m → (∀ h', Fs h h' → Q (lN (wtN P g m y n t)) h') → wG5 (y + 1) 55 (nI g) (nI n) (nI t) (nI y) h Q
  | 0, _, n, t, h, Q, _, _, _, hQ => by
    show bX12_waiting (wG5 0) 55 (nI g) (nI n) (nI t) (nI 0) h Q
    unfold bX12_waiting
    rw [if_pos (show nI 0 = 0 from rfl)]
    exact hQ h (Fs.refl h)
  | y + 1, hy, n, t, h, Q, G, L, hn, hQ => by
    show bX12_waiting (wG5 (y + 1)) 55 (nI g) (nI n) (nI t) (nI (y + 1)) h Q
    unfold bX12_waiting
    obtain ⟨y1, y2, hm1, hm⟩ := G.2.2.2 g hg
    have hgn := G.1
    rw [hmn] at y2 hm1 hm
    rw [if_neg (nI_ne0 (by omega) (by omega)), rf_55_2, ln_56, nI_clamp (show g < 2 ^ 31 by omega), y2]
    refine ⟨(vp_nI (by omega)).mpr (by omega), ?_⟩
    by_cases c : n = m
    · subst c
      rw [if_pos rfl]
      rw [wtN_m] at hQ
      exact hQ h (Fs.refl h)
    · rw [if_neg (fun q => c ((nI_eq (by omega) (by omega)).mp q))]
      apply m_comesTo L
      intro h2 F2
      apply m_power hy
      rw [nI_1, nI_1, nI_pred]
      apply m_waiting hg hmn y (by omega) (n + 1) (t + 1) h2 _ (G.fs F2) (L.fs1 F2) (by omega)
      intro h3 F3
      apply m_waiting hg hmn y (by omega) n (t + 1) h3 _ (G.fs (F2.trans F3)) (L.fs1 (F2.trans F3)) hn
      intro h4 F4
      have hc := comV_le P g n t
      rw [show (12 : Int32) - nI (comV P g n t) = nI (12 - comV P g n t) from pk_sub (a := 12) hc, nI_l (by omega), nI_l (by omega), lN_mul, lN_mul, lN_add, lN_add]
      have := hQ h4 ((F2.trans F3).trans F4)
      rw [wtN, if_neg c] at this
      exact this
/-- the class's way -/
def FL (h h' : Hp) : Prop := (∀ a k, a ≠ 9 → a ≠ 13 → a ≠ 17 → a ≠ 71 → a ≠ 72 → gI h' a k = gI h a k) ∧ ∀ a k, a ≠ 38 → gL h' a k = gL h a k
theorem FL.refl (h : Hp) : FL h h := ⟨fun _ _ _ _ _ _ _ => rfl, fun _ _ _ => rfl⟩
theorem FL.fs {h0 h1 h2 : Hp} (F : FL h0 h1) (F2 : Fs h1 h2) : FL h0 h2 := ⟨fun a k q1 q2 q3 q4 q5 => (F2.1 a k q1 q2 q3 q4 q5).trans (F.1 a k q1 q2 q3 q4 q5), fun a k q => (F2.2 a k).trans (F.2 a k q)⟩
theorem FL.set {h0 h1 : Hp} (F : FL h0 h1) (k : Nat) (v : Int64) : FL h0 (sL h1 38 k v) := ⟨fun a j q1 q2 q3 q4 q5 => F.1 a j q1 q2 q3 q4 q5, fun a j q => by rw [gL_sL, if_neg (fun e => q e.1)]; exact F.2 a j q⟩
theorem FL.fw {h h' : Hp} (F : FL h h') : Fw h h' := by
  intro a k q
  refine F.1 a k ?_ ?_ ?_ ?_ ?_ <;> (rintro rfl; simp [kpt] at q)
theorem Inv.fl {h h' : Hp} (I : Inv h) (F : FL h h') : Inv h' := by
  refine I.same (fun a k q => ?_) (fun a k q => F.2 a k (by rintro rfl; simp [usL] at q))
  refine F.1 a k ?_ ?_ ?_ ?_ ?_ <;> (rintro rfl; rcases q with q | q <;> simp [usd, usD] at q)
theorem pw24 {l : Nat} (h : l ≤ 8) : 24 ^ l ≤ 110075314176 := by
  have e : 24 ^ l ≤ 24 ^ 8 := Nat.pow_le_pow_right (by omega) h
  rw [show (24 : Nat) ^ 8 = 110075314176 by decide +kernel] at e
  exact e
/-- while one more look is under way -/
def midV (c v : Nat → Nat) (k i : Nat) : Nat := if k < i then nxV c v i else if i = k then v i * (12 - c i) else v i
theorem c_look {h0 : Hp} {N gn g m t l : Nat} {num : Nat → Nat} {P0 P : Option Lns} (WW : WD h0 N gn num P0 P) (hm1 : 1 ≤ m) (hm : m ≤ 6) (hl : l ≤ 8) (hv : ∀ i, i < m → gL h0 38 i = lN (vL P g t l i)) {Q : Hp → Prop}
    (hQ : ∀ h', FL h0 h' → (∀ i, i < m → gL h' 38 i = lN (vL P g t (l + 1) i)) → Q h') : wX11_oneMoreLook 0 (nI g) (nI (t + l)) (nI m) h0 Q := by
  unfold wX11_oneMoreLook
  simp only [forall_eq]
  have m1 : nI m - 1 = nI m + (-1) := by
    obtain ⟨m', rfl⟩ : ∃ m', m = m' + 1 := ⟨m - 1, by omega⟩
    rw [nI_pred, pk_m1]
  rw [m1]
  refine iX11_oneMoreLook_5 (I := fun x4 h => ∃ k : Nat, x4 = nI k + (-1) ∧ k ≤ m ∧ FL h0 h ∧ ∀ i, i < m → gL h 38 i = lN (midV (fun j => comV P g j (t + l)) (vL P g t l) k i)) (μ := fun x4 _ => (x4 + 1).toNatClampNeg) ?_ _ h0 ⟨m, rfl, Nat.le_refl _, FL.refl h0, fun i hi => by
    rw [hv i hi]
    unfold midV
    rw [if_neg (by omega), if_neg (by omega)]⟩
  rintro x4 h ⟨k, rfl, hk, F, hb⟩ K hK
  unfold fX11_oneMoreLook_5
  cases k with
  | zero =>
    rw [if_pos (show nI 0 + -1 < 0 by decide)]
    refine hQ h F (fun i hi => ?_)
    rw [hb i hi]
    unfold midV
    by_cases c : 0 < i
    · rw [if_pos c]; rfl
    · rw [if_neg c, if_pos (by omega)]
      have : i = 0 := by omega
      subst this
      show lN _ = lN (nxV _ _ 0)
      unfold nxV
      rw [if_pos rfl, Nat.add_zero]
  | succ j =>
    rw [pk_m1, if_neg (nI_pos (by omega)), rf_0_11, ln_38, nI_clamp (show j < 2 ^ 31 by omega)]
    have vj : vp_in (nI j) 6 := (vp_nI (by omega)).mpr (by omega)
    refine ⟨vj, ?_⟩
    have bj : gL h 38 j = lN (vL P g t l j) := by
      rw [hb j (by omega)]
      unfold midV
      rw [if_neg (by omega), if_neg (by omega)]
    have vb := vL_le P g t l j
    have p24 := pw24 hl
    -- behind the chance
    have jn : ∀ (ch : Nat) (h2 : Hp), ch ≤ 12 → (vL P g t l j * ch = vL P g t l j * comV P g j (t + l)) → (vL P g t l j * (12 - ch) = vL P g t l j * (12 - comV P g j (t + l))) → FL h0 h2 → (∀ a j, gL h2 a j = gL h a j) → jX11_oneMoreLook_37 0 (nI g) (nI (t + l)) (nI m) (nI j) (nI ch) h2 K Q := by
      intro ch h2 hch e1 e2 F2 eL
      have last : ∀ h3, FL h0 h3 → (∀ i, i < m → gL h3 38 i = lN (if j + 1 ≤ i then nxV (fun j => comV P g j (t + l)) (vL P g t l) i else vL P g t l i)) → jX11_oneMoreLook_70 0 (nI g) (nI (t + l)) (nI m) (nI j) (nI ch) h3 K Q := by
        intro h3 F3 hb3
        unfold jX11_oneMoreLook_70
        rw [rf_0_11, ln_38, nI_clamp (show j < 2 ^ 31 by omega)]
        simp only [forall_eq]
        refine ⟨vj, vj, ?_⟩
        refine hK _ _ ⟨j, rfl, by omega, F3.set _ _, fun i hi => ?_⟩ ?_
        · rw [gL_sL]
          by_cases q : i = j
          · subst q
            rw [if_pos ⟨rfl, rfl⟩, hb3 i (by omega), if_neg (by omega), show (12 : Int32) - nI ch = nI (12 - ch) from pk_sub (a := 12) hch, nI_l (by omega), lN_mul, e2]
            unfold midV
            rw [if_neg (by omega), if_pos rfl]
          · rw [if_neg (fun e => q e.2), hb3 i hi]
            unfold midV
            by_cases q2 : j < i
            · rw [if_pos q2, if_pos (by omega)]
            · rw [if_neg q2, if_neg (by omega), if_neg q]
        · have x1 : ∀ a, nI a + -1 + 1 = nI a := by
            intro a
            rw [Int32.add_assoc]
            show nI a + 0 = nI a
            exact Int32.add_zero _
          rw [x1, x1, nI_clamp (by omega), nI_clamp (by omega)]
          omega
      unfold jX11_oneMoreLook_37
      rw [nI_1]
      by_cases q : m ≤ j + 1
      · rw [if_pos (nI_le q (by omega))]
        refine last h2 F2 (fun i hi => ?_)
        rw [eL, hb i hi, if_neg (by omega)]
        unfold midV
        rw [if_neg (by omega), if_neg (by omega)]
      · rw [if_neg (nI_ge (by omega) (by omega)), rf_0_11, ln_38, nI_clamp (show j + 1 < 2 ^ 31 by omega), nI_clamp (show j < 2 ^ 31 by omega)]
        have vj1 : vp_in (nI (j + 1)) 6 := (vp_nI (by omega)).mpr (by omega)
        simp only [forall_eq]
        refine ⟨vj1, vj, vj1, last _ (F2.set _ _) (fun i hi => ?_)⟩
        rw [gL_sL]
        by_cases q2 : i = j + 1
        · rw [if_pos ⟨rfl, q2⟩, eL, eL, bj, hb (j + 1) (by omega), nI_l (by omega), lN_mul, lN_add, if_pos (by omega), e1, q2]
          unfold midV nxV
          rw [if_neg (by omega), if_pos rfl, if_neg (by omega), Nat.add_sub_cancel]
        · rw [if_neg (fun e => q2 e.2), eL, hb i hi]
          unfold midV
          by_cases q3 : j + 1 < i
          · rw [if_pos q3, if_pos (by omega)]
          · rw [if_neg q3, if_neg q2, if_neg (by omega)]
    rw [bj]
    by_cases z : vL P g t l j = 0
    · rw [if_pos (by rw [z]; rfl)]
      exact jn 0 h (by omega) (by rw [z, Nat.zero_mul, Nat.zero_mul]) (by rw [z, Nat.zero_mul, Nat.zero_mul]) F (fun _ _ => rfl)
    · rw [if_neg (by
        rw [lg_cmp_eq]
        intro q
        exact z ((pk_lEQ (a := vL P g t l j) (b := 0) (by omega) (by omega)).mp q))]
      rw [rf_0_4]
      apply c_chance (WW.fw F.fw).2.2.2
      intro h2 F2
      exact jn _ h2 (comV_le _ _ _ _) rfl rfl (F.fs F2) F2.2
theorem c_summed {h0 : Hp} {N gn g m t y : Nat} {num : Nat → Nat} {P0 P : Option Lns} (WW : WD h0 N gn num P0 P) (hg : g < gn) (hmn : num g = m) (hy : y ≤ 8) {Q : Int64 → Hp → Prop}
    (hQ : ∀ h', FL h0 h' → Q (lN (sL2 P g m t y)) h') : wX11_summedWaits 0 (nI g) (nI t) (nI y) h0 Q := by
  obtain ⟨y1, y2, hm1, hm⟩ := WW.2.1.2.2.2 g hg
  rw [hmn] at hm1 hm
  unfold wX11_summedWaits
  refine iX11_summedWaits_3 (I := fun x4 h => ∃ k : Nat, x4 = nI k ∧ k ≤ 6 ∧ FL h0 h ∧ ∀ i, i < k → gL h 38 i = lN (vL P g t 0 i)) (μ := fun x4 _ => 6 - x4.toNatClampNeg) ?_ 0 h0 ⟨0, rfl, by omega, FL.refl h0, fun i hi => by omega⟩
  rintro x4 h ⟨k, rfl, hk, F, hb⟩ K hK
  unfold fX11_summedWaits_3
  by_cases c : 6 ≤ k
  · rw [if_pos (show (6 : Int32) ≤ nI k from nI_le (a := 6) c (by omega)), rf_0_0, e_numberOf (WW.fw F.fw).2.1 hg, hmn]
    refine iX11_summedWaits_49 (I := fun x5 x7 h => ∃ l : Nat, x5 = lN (sL2 P g m t l) ∧ x7 = nI l ∧ l ≤ y ∧ FL h0 h ∧ ∀ i, i < m → gL h 38 i = lN (vL P g t l i)) (μ := fun _ x7 _ => y - x7.toNatClampNeg) ?_ 0 0 h ⟨0, rfl, rfl, by omega, F, fun i hi => hb i (by omega)⟩
    rintro x5 x7 h ⟨l, rfl, rfl, hl, F, hb⟩ K hK
    unfold fX11_summedWaits_49
    by_cases d : y ≤ l
    · rw [if_pos (nI_le d (by omega)), show l = y by omega]
      exact hQ h F
    · rw [if_neg (nI_ge (by omega) (by omega))]
      simp only [forall_eq]
      refine iX11_summedWaits_66 (I := fun x5 x8 => ∃ j : Nat, x8 = nI j ∧ j ≤ m ∧ x5 = lN (12 * sL2 P g m t l + smT (vL P g t l) j)) (μ := fun _ x8 => m - x8.toNatClampNeg) ?_ _ 0 ⟨0, rfl, by omega, by rw [show (12 : Int64) = lN 12 from rfl, lN_mul, Nat.mul_comm]; rfl⟩
      rintro x5 x8 ⟨j, rfl, hj, rfl⟩ K2 hK2
      unfold fX11_summedWaits_66
      by_cases e : m ≤ j
      · rw [if_pos (nI_le e (by omega)), nI_add]
        apply c_look (WW.fw F.fw) hm1 hm (by omega) hb
        intro h2 F2 hb2
        simp only [forall_eq, nI_1]
        have : j = m := by omega
        subst this
        exact hK _ _ _ ⟨l + 1, rfl, rfl, by omega, ⟨fun a k q1 q2 q3 q4 q5 => (F2.1 a k q1 q2 q3 q4 q5).trans (F.1 a k q1 q2 q3 q4 q5), fun a k q => (F2.2 a k q).trans (F.2 a k q)⟩, hb2⟩ (by rw [nI_clamp (by omega), nI_clamp (by omega)]; omega)
      · rw [if_neg (nI_ge (by omega) (by omega)), rf_0_11, ln_38, nI_clamp (show j < 2 ^ 31 by omega), hb j (by omega), lN_add]
        simp only [forall_eq, nI_1]
        exact ⟨(vp_nI (by omega)).mpr (by omega), hK2 _ _ ⟨j + 1, rfl, by omega, by rw [smT, Nat.add_assoc]⟩ (by rw [nI_clamp (by omega), nI_clamp (by omega)]; omega)⟩
  · rw [if_neg (show ¬ (6 : Int32) ≤ nI k from nI_ge (b := 6) (by omega) (by omega)), rf_0_11, ln_38, nI_clamp (show k < 2 ^ 31 by omega)]
    simp only [forall_eq, nI_1]
    have vk : vp_in (nI k) 6 := (vp_nI (by omega)).mpr (by omega)
    by_cases d : k = 0
    · subst d
      rw [if_pos (show nI 0 = 0 from rfl)]
      refine ⟨vk, hK _ _ ⟨0 + 1, rfl, by omega, F.set _ _, fun i hi => ?_⟩ (by rw [nI_clamp (by omega), nI_clamp (by omega)]; omega)⟩
      have : i = 0 := by omega
      subst this
      rw [gL_sL, if_pos ⟨rfl, rfl⟩]
      rfl
    · rw [if_neg (nI_ne0 (by omega) (by omega))]
      refine ⟨vk, hK _ _ ⟨k + 1, rfl, by omega, F.set _ _, fun i hi => ?_⟩ (by rw [nI_clamp (by omega), nI_clamp (by omega)]; omega)⟩
      rw [gL_sL]
      by_cases q : i = k
      · subst q
        rw [if_pos ⟨rfl, rfl⟩]
        show (0 : Int64) = lN (if i = 0 then 1 else 0)
        rw [if_neg d]
        rfl
      · rw [if_neg (fun e => q e.2)]
        exact hb i (by omega)
theorem gcd_st (a b : Nat) : Nat.gcd b (a % b) = Nat.gcd a b := by
  rw [Nat.gcd_comm b (a % b), ← Nat.gcd_rec b a, Nat.gcd_comm]
theorem m_common {A B : Nat} (hA : A < 2 ^ 62) (hB : B < 2 ^ 62) (h : Hp) {Q : Int64 → Prop} (hQ : Q (lN (Nat.gcd A B))) : wX12_common (lN A) (lN B) h Q := by
  unfold wX12_common
  refine iX12_common_6 (I := fun x4 x6 => ∃ a b : Nat, x4 = lN a ∧ x6 = lN b ∧ a < 2 ^ 62 ∧ b < 2 ^ 62 ∧ Nat.gcd a b = Nat.gcd A B) (μ := fun _ x6 => x6.toInt.toNat) ?_ _ _ ⟨A, B, rfl, rfl, hA, hB, rfl⟩
  rintro x4 x6 ⟨a, b, rfl, rfl, ha, hb, e⟩ K hK
  unfold fX12_common_6
  simp only [lg_cmp_eq]
  by_cases c : b = 0
  · subst c
    rw [if_pos (show lN 0 = 0 from rfl)]
    rw [Nat.gcd_zero_right] at e
    rw [e]
    exact hQ
  · have nz : ¬ lN b = 0 := fun q => c ((pk_lEQ (a := b) (b := 0) (by omega) (by omega)).mp q)
    rw [if_neg nz]
    simp only [forall_eq]
    refine ⟨nz, ?_⟩
    rw [show rmL (lN a) (lN b) = lN (a % b) from pk_lRem (by omega) (by omega) (by omega)]
    have := Nat.mod_lt a (show 0 < b by omega)
    exact hK _ _ ⟨b, a % b, rfl, rfl, hb, by omega, by rw [gcd_st]; exact e⟩ (by rw [pk_lT (by omega), pk_lT (by omega)]; omega)
theorem c_common {A B : Nat} (hA : A < 2 ^ 62) (hB1 : 1 ≤ B) (hB : B < 2 ^ 30) (h : Hp) {Q : Int64 → Prop} (hQ : Q (lN (Nat.gcd A B))) : wX11_commonDivisor (lN A) (lN B) h Q := by
  unfold wX11_commonDivisor
  refine iX11_commonDivisor_9 (I := fun x4 x6 x8 => ∃ a b i : Nat, x4 = lN a ∧ x6 = lN b ∧ x8 = nI i ∧ i ≤ 200 ∧ a < 2 ^ 62 ∧ b < 2 ^ 30 ∧ Nat.gcd a b = Nat.gcd A B ∧ (i = 0 ∨ (1 ≤ i ∧ a < 2 ^ 30 ∧ b < a ∧ a * b * 2 ^ (i - 1) < 2 ^ 60))) (μ := fun _ _ x8 => 200 - x8.toNatClampNeg) ?_ _ _ 0 ⟨A, B, 0, rfl, rfl, rfl, by omega, hA, hB, rfl, Or.inl rfl⟩
  rintro x4 x6 x8 ⟨a, b, i, rfl, rfl, rfl, hi, ha, hb, e, hor⟩ K hK
  unfold fX11_commonDivisor_9
  have gp : 0 < Nat.gcd A B := Nat.gcd_pos_of_pos_right A hB1
  have gl : Nat.gcd A B ≤ B := Nat.gcd_le_right A hB1
  have done : b = 0 → jX11_commonDivisor_45 (lN a) h Q := by
    intro b0
    subst b0
    rw [Nat.gcd_zero_right] at e
    rw [e]
    unfold jX11_commonDivisor_45
    rw [if_neg (fun q => by have := (pk_lLE (a := Nat.gcd A B) (b := 0) (by omega) (by omega)).mp ((lg_cmp_le _ _).mp q); omega)]
    exact hQ
  by_cases c : 200 ≤ i
  · rw [if_pos (show (200 : Int32) ≤ nI i from nI_le (a := 200) c (by omega))]
    apply done
    rcases hor with q | ⟨q1, q2, q3, q4⟩
    · omega
    · rcases Nat.eq_zero_or_pos b with z | z
      · exact z
      · exfalso
        have : i = 200 := by omega
        subst this
        have h1 : 1 * 1 ≤ a * b := Nat.mul_le_mul (by omega) (by omega)
        have h2 : 1 * 1 * 2 ^ (200 - 1) ≤ a * b * 2 ^ (200 - 1) := Nat.mul_le_mul_right _ h1
        have h3 : (2 : Nat) ^ 60 ≤ 1 * 1 * 2 ^ (200 - 1) := by decide
        omega
  · rw [if_neg (show ¬ (200 : Int32) ≤ nI i from nI_ge (b := 200) (by omega) (by omega))]
    simp only [lg_cmp_eq]
    by_cases c : b = 0
    · rw [if_pos (show lN b = 0 by rw [c]; rfl)]
      exact done c
    · have nz : ¬ lN b = 0 := fun q => c ((pk_lEQ (a := b) (b := 0) (by omega) (by omega)).mp q)
      rw [if_neg nz]
      simp only [forall_eq, nI_1]
      refine ⟨nz, ?_⟩
      rw [show rmL (lN a) (lN b) = lN (a % b) from pk_lRem (by omega) (by omega) (by omega)]
      have ml := Nat.mod_lt a (show 0 < b by omega)
      refine hK _ _ _ ⟨b, a % b, i + 1, rfl, rfl, rfl, by omega, by omega, by omega, by rw [gcd_st]; exact e, Or.inr ⟨by omega, hb, ml, ?_⟩⟩ (by rw [nI_clamp (by omega), nI_clamp (by omega)]; omega)
      rw [Nat.add_sub_cancel]
      rcases hor with q | ⟨q1, q2, q3, q4⟩
      · subst q
        have h1 : b * (a % b) < 2 ^ 30 * 2 ^ 30 := Nat.mul_lt_mul_of_lt_of_lt hb (by omega)
        rw [Nat.pow_zero, Nat.mul_one]
        exact h1
      · obtain ⟨i', rfl⟩ : ∃ i', i = i' + 1 := ⟨i - 1, by omega⟩
        rw [Nat.add_sub_cancel] at q4
        have dm := Nat.div_add_mod a b
        have d1 : 1 ≤ a / b := (Nat.one_le_div_iff (by omega)).mpr (by omega)
        have d2 : b * 1 ≤ b * (a / b) := Nat.mul_le_mul_left b d1
        have d3 : 2 * (a % b) ≤ a := by omega
        have d4 : b * (2 * (a % b)) ≤ b * a := Nat.mul_le_mul_left b d3
        have d5 : b * (2 * (a % b)) * 2 ^ i' ≤ b * a * 2 ^ i' := Nat.mul_le_mul_right _ d4
        have d6 : b * (a % b) * 2 ^ (i' + 1) = b * (2 * (a % b)) * 2 ^ i' := by
          rw [Nat.pow_succ, Nat.mul_comm (2 ^ i') 2, ← Nat.mul_assoc, Nat.mul_assoc b (a % b) 2, Nat.mul_comm (a % b) 2]
        rw [d6]
        rw [Nat.mul_comm a b] at q4
        omega
