theorem pw12 {l : Nat} (h : l ≤ 8) : 12 ^ l ≤ 429981696 := by
  have e : 12 ^ l ≤ 12 ^ 8 := Nat.pow_le_pow_right (by omega) h
  rw [show (12 : Nat) ^ 8 = 429981696 by decide +kernel] at e
  exact e
theorem wt_frac {A y : Nat} (h0 : y = 0 → A = 0) : (12 * A) / Nat.gcd (12 * A) (12 ^ y) = A / Nat.gcd A (12 ^ (y - 1)) ∧ 12 ^ y / Nat.gcd (12 * A) (12 ^ y) = 12 ^ (y - 1) / Nat.gcd A (12 ^ (y - 1)) := by
  cases y with
  | zero =>
    rw [h0 rfl]
    exact ⟨rfl, rfl⟩
  | succ z =>
    rw [Nat.add_sub_cancel, Nat.pow_succ, Nat.mul_comm (12 ^ z) 12, Nat.gcd_mul_left]
    exact ⟨Nat.mul_div_mul_left _ _ (by omega), Nat.mul_div_mul_left _ _ (by omega)⟩
theorem p12_pos (l : Nat) : 1 ≤ 12 ^ l := Nat.one_le_pow _ _ (by omega)
def wtTail (g t : Nat) (x2 x3 : Int32) (h1 : Hp) (Q : Int64 → Hp → Prop) : Prop := ∃ n5, n5 ≤ 120 ∧ ((wG5 n5) 55 (nI g) (0 : Int32) (nI t) x2 h1 (fun v6 h7 => wX12_power x2 h7 (fun v8 => wX12_common v6 v8 h7 (fun v9 => if x3 = 0 then (¬ v9 = 0 ∧ (Q (v6 / v9) h7)) else (¬ v9 = 0 ∧ (Q (v8 / v9) h7))))))
-- waits
set_option maxRecDepth 20000 in
set_option maxHeartbeats 1000000 in
theorem ok_waits {h : Hp} (I : Inv h) (x1 : Int32) (x2 : Int32) (x3 : Int32) {A1 : Prop} (b1 : A1) {A2 : Prop} (b2 : A2) {A3 : Prop} (b3 : A3) {R : Hp → Prop} {Q0 : Prop} (hR : ∀ h', Inv h' → R h') : wX11_waits 0 x1 x2 x3 h (fun v h1 => A1 ∧ (A2 ∧ (A3 ∧ (wX12_waits 55 x1 x2 x3 h1 (fun v' h2 => if lg_cmp v v' = 0 then R h2 else Q0))))) := by
  obtain ⟨N, gn, num, P0, P1, WW⟩ := I.world
  obtain ⟨PP, G, L0, L1⟩ := id WW
  have hg := G.1
  have fn : ∀ (v : Int64) (h2 : Hp), Inv h2 → (if lg_cmp v v = 0 then R h2 else Q0) := fun v h2 i2 => fin ((lg_cmp_eq v v).mpr rfl) (hR h2 i2)
  unfold wX11_waits
  by_cases c : x1 < 0
  · rw [if_pos c]
    refine ⟨b1, b2, b3, ?_⟩
    unfold wX12_waits
    rw [if_pos c]
    exact fn _ h I
  · rw [if_neg c]
    obtain ⟨j, hj, rfl⟩ := nI_of c
    have e1 : nI j / 100 = nI (j / 100) := pk_div hj (d := 100) (by omega) (by omega)
    have e2 : rm (nI j) 100 = nI (j % 100) := pk_rem hj (d := 100) (by omega) (by omega)
    have opB : ∀ h1, Fw h h1 → ∀ Q : Int64 → Hp → Prop, ((nI (j / 100) < 0 ∨ ¬ nI (j / 100) < nI gn) ∨ (nI (j % 100) < 0 ∨ ¬ nI (j % 100) < 60) ∨ (x2 < 0 ∨ 8 < x2) ∨ (x3 < 0 ∨ 1 < x3)) → Q (-9223372036854775808 : Int64) h1 → wX12_waits 55 (nI j) x2 x3 h1 Q := by
      intro h1 F Q bad q
      unfold wX12_waits
      rw [if_neg c, e1, e2, e_isGate _ (WW.fw F).2.1.2.2.1 (by omega)]
      by_cases d : nI (j / 100) < 0 ∨ ¬ nI (j / 100) < nI gn
      · rw [if_pos d, if_pos rfl]; exact q
      · rw [if_neg d, if_neg (by decide), e_mTime]
        by_cases d2 : nI (j % 100) < 0 ∨ ¬ nI (j % 100) < 60
        · rw [if_pos d2, if_pos rfl]; exact q
        · rw [if_neg d2, if_neg (by decide), e_in]
          by_cases d3 : x2 < 0 ∨ 8 < x2
          · rw [if_pos d3, if_pos rfl]; exact q
          · rw [if_neg d3, if_neg (by decide), e_in, if_pos (((bad.resolve_left d).resolve_left d2).resolve_left d3), if_pos rfl]
            exact q
    have opG : ¬ (nI (j / 100) < 0 ∨ ¬ nI (j / 100) < nI gn) → ¬ (nI (j % 100) < 0 ∨ ¬ nI (j % 100) < 60) → ¬ (x2 < 0 ∨ 8 < x2) → ¬ (x3 < 0 ∨ 1 < x3) → ∀ h1, Fw h h1 → ∀ Q : Int64 → Hp → Prop, wtTail (j / 100) (j % 100) x2 x3 h1 Q → wX12_waits 55 (nI j) x2 x3 h1 Q := by
      intro d d2 d3 d4 h1 F Q q
      unfold wX12_waits
      rw [if_neg c, e1, e2, e_isGate _ (WW.fw F).2.1.2.2.1 (by omega), if_neg d, if_neg (by decide), e_mTime, if_neg d2, if_neg (by decide), e_in, if_neg d3, if_neg (by decide), e_in, if_neg d4, if_neg (by decide)]
      exact q
    rw [e1, e2, rf_0_0, e_gHas, G.2.1]
    rcases ix (nI (j / 100)) gn (by omega) with d | ⟨k, hk, ek, d⟩
    · rw [if_pos d, if_pos rfl]
      exact ⟨b1, b2, b3, opB h (Fw.refl h) _ (Or.inl d) (fn _ h I)⟩
    · rw [← ek] at d
      have hk2 : j / 100 < gn := by
        have := (nI_eq (by omega) (by omega)).mp ek
        omega
      rw [if_neg d, if_neg (by decide), e_isTime]
      by_cases f : nI (j % 100) < 0 ∨ ¬ nI (j % 100) < 60
      · rw [if_pos f, if_pos rfl]
        exact ⟨b1, b2, b3, opB h (Fw.refl h) _ (Or.inr (Or.inl f)) (fn _ h I)⟩
      · rw [if_neg f, if_neg (by decide)]
        rcases bd x2 0 8 (l := 0) (u := 8) rfl rfl (by omega) (by omega) with q | ⟨y, _, hy, rfl, q⟩
        · have key : wX12_waits 55 (nI j) x2 x3 h (fun v' h2 => if lg_cmp (-9223372036854775808) v' = 0 then R h2 else Q0) := opB h (Fw.refl h) _ (Or.inr (Or.inr (Or.inl q))) (fn _ h I)
          by_cases q0 : x2 < 0
          · rw [if_pos q0]; exact ⟨b1, b2, b3, key⟩
          · rw [if_neg q0, if_pos (q.resolve_left q0)]; exact ⟨b1, b2, b3, key⟩
        · rw [if_neg (show ¬ nI y < 0 from fun z => q (Or.inl z)), if_neg (show ¬ (8 : Int32) < nI y from fun z => q (Or.inr z))]
          rcases bd x3 0 1 (l := 0) (u := 1) rfl rfl (by omega) (by omega) with r | ⟨x, _, hx, rfl, r⟩
          · have key : wX12_waits 55 (nI j) (nI y) x3 h (fun v' h2 => if lg_cmp (-9223372036854775808) v' = 0 then R h2 else Q0) := opB h (Fw.refl h) _ (Or.inr (Or.inr (Or.inr r))) (fn _ h I)
            by_cases r0 : x3 < 0
            · rw [if_pos r0]; exact ⟨b1, b2, b3, key⟩
            · rw [if_neg r0, if_neg (Int32.not_le.mpr (r.resolve_left r0))]; exact ⟨b1, b2, b3, key⟩
          · rw [if_neg (show ¬ nI x < 0 from fun z => r (Or.inl z)), if_pos (nl (show ¬ (1 : Int32) < nI x from fun z => r (Or.inr z)))]
            have hm1 := (G.2.2.2 _ hk2).2.2.1
            -- the numbers
            obtain ⟨m, hm⟩ : ∃ m, num (j / 100) = m := ⟨_, rfl⟩
            rw [hm] at hm1
            obtain ⟨A, hA⟩ : ∃ A, sL2 P1 (j / 100) m (j % 100) y = A := ⟨_, rfl⟩
            have w12 := wt_twelve P1 (j / 100) m (j % 100) y hm1
            rw [hA] at w12
            have wl := wtN_le P1 (j / 100) m y 0 (j % 100)
            rw [w12] at wl
            have p8 := pw12 hy
            have yl : y * 12 ^ y ≤ 8 * 429981696 := Nat.mul_le_mul hy p8
            have p7 : 12 ^ (y - 1) ≤ 35831808 := by
              have e : 12 ^ (y - 1) ≤ 12 ^ 7 := Nat.pow_le_pow_right (by omega) (show y - 1 ≤ 7 by omega)
              rw [show (12 : Nat) ^ 7 = 35831808 by decide +kernel] at e
              exact e
            have pp := p12_pos (y - 1)
            have pp2 := p12_pos y
            have fr := wt_frac (A := A) (y := y) (fun e => by subst e; rw [← hA]; rfl)
            have g1 : 0 < Nat.gcd A (12 ^ (y - 1)) := Nat.gcd_pos_of_pos_right A pp
            have g2 : 0 < Nat.gcd (12 * A) (12 ^ y) := Nat.gcd_pos_of_pos_right _ pp2
            have g3 : Nat.gcd A (12 ^ (y - 1)) ≤ 12 ^ (y - 1) := Nat.gcd_le_right A pp
            have g4 : Nat.gcd (12 * A) (12 ^ y) ≤ 12 ^ y := Nat.gcd_le_right _ pp2
            have nz1 : ¬ lN (Nat.gcd A (12 ^ (y - 1))) = 0 := fun q => by have := (pk_lEQ (a := Nat.gcd A (12 ^ (y - 1))) (b := 0) (by omega) (by omega)).mp q; omega
            have nz2 : ¬ lN (Nat.gcd (12 * A) (12 ^ y)) = 0 := fun q => by have := (pk_lEQ (a := Nat.gcd (12 * A) (12 ^ y)) (b := 0) (by omega) (by omega)).mp q; omega
            refine iX11_waits_61 (I := fun x4 x6 => ∃ k : Nat, x6 = nI k ∧ 1 ≤ k ∧ (k = 1 ∨ k ≤ y) ∧ x4 = lN (12 ^ (k - 1))) (μ := fun _ x6 => y - x6.toNatClampNeg) ?_ 1 1 ⟨1, rfl, by omega, Or.inl rfl, rfl⟩
            rintro x4 x6 ⟨k, rfl, hk1, hk2', rfl⟩ K hK
            unfold fX11_waits_61
            by_cases z : y ≤ k
            · rw [if_pos (nI_le z (by omega)), show k - 1 = y - 1 by omega, e1, e2]
              apply c_summed WW hk2 hm hy
              intro h1 F1
              rw [hA]
              apply c_common (by omega) pp (by omega)
              have key : ∀ v : Int64, v = (if nI x = 0 then lN (A / Nat.gcd A (12 ^ (y - 1))) else lN (12 ^ (y - 1) / Nat.gcd A (12 ^ (y - 1)))) → wX12_waits 55 (nI j) (nI y) (nI x) h1 (fun v' h2 => if lg_cmp v v' = 0 then R h2 else Q0) := by
                intro v hv
                apply opG d f q r h1 F1.fw
                refine ⟨y + 1, by omega, ?_⟩
                apply m_waiting hk2 hm y hy 0 (j % 100) h1 _ (WW.fw F1.fw).2.1 (WW.fw F1.fw).2.2.2 (by omega)
                intro h2 F2
                rw [w12]
                apply m_power hy
                apply m_common (by omega) (by omega)
                have i2 := I.fl (F1.fs F2)
                by_cases x0 : nI x = 0
                · rw [if_pos x0] at hv ⊢
                  rw [pk_lDiv (by omega) g2 (by omega), fr.1, hv]
                  exact ⟨nz2, fn _ h2 i2⟩
                · rw [if_neg x0] at hv ⊢
                  rw [pk_lDiv (by omega) g2 (by omega), fr.2, hv]
                  exact ⟨nz2, fn _ h2 i2⟩
              by_cases x0 : nI x = 0
              · rw [if_pos x0] at key ⊢
                rw [pk_lDiv (by omega) g1 (by omega)]
                exact ⟨nz1, b1, b2, b3, key _ rfl⟩
              · rw [if_neg x0] at key ⊢
                rw [pk_lDiv (by omega) g1 (by omega)]
                exact ⟨nz1, b1, b2, b3, key _ rfl⟩
            · rw [if_neg (nI_ge (by omega) (by omega))]
              simp only [forall_eq, nI_1]
              refine hK _ _ ⟨k + 1, rfl, by omega, Or.inr (by omega), ?_⟩ (by rw [nI_clamp (by omega), nI_clamp (by omega)]; omega)
              rw [show (12 : Int64) = lN 12 from rfl, lN_mul, ← Nat.pow_succ, show (k - 1).succ = k + 1 - 1 by omega]
