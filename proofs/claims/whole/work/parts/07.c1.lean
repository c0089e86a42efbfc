def jX5_value_100 (a0 : Nat) (a1 : Nat) (x2 : Int32) (x3 : Int32) (x4 : Int32) (b0 : Nat) (s1 : Int32) (h : Hp) (K7 : Int32 → Int32 → Int32 → Hp → Prop) (Q : Int32 → Hp → Prop) : Prop :=
  vp_in s1 (ln b0) ∧ (∀ h2 : Hp, h2 = sI h b0 s1.toNatClampNeg (0 : Int32) → (∀ v3 : Int32, v3 = x2 + (1 : Int32) → (∀ v4 : Int32, v4 = x4 + (1 : Int32) → (K7 v3 x3 v4 h2))))
set_option maxRecDepth 20000 in
theorem tX5_value_100 {G : GG} {X : XX} {a0 : Nat} {a1 : Nat} {x2 : Int32} {x3 : Int32} {x4 : Int32} {b0 : Nat} {s1 : Int32} {h : Hp}  {K7 : Int32 → Int32 → Int32 → Hp → Prop} {Q : Int32 → Hp → Prop} (C : Cx G RX5 cX5_value 6 (some .int) 1 0 0 X) (k0 : kd a0 = 5) (k1 : kd a1 = 20) (kb0 : kd b0 = 20) (hK7 : ∀ (y2 : Int32) (y3 : Int32) (y4 : Int32) (h' : Hp), K7 y2 y3 y4 h' → R0 G X 0 0 (ZM G (fun r h' => ∃ v, r = some (.int v) ∧ Q v h') X) 7 [some (.ref (G.1 a0)), some (.ref (G.1 a1)), some (.int y2), some (.int y3), some (.int y4), none] [] h') (hw : jX5_value_100 a0 a1 x2 x3 x4 b0 s1 h K7 Q) : R0 G X 0 0 (ZM G (fun r h' => ∃ v, r = some (.int v) ∧ Q v h') X) 100 [some (.ref (G.1 a0)), some (.ref (G.1 a1)), some (.int x2), some (.int x3), some (.int x4), none] [.int s1, .ref (G.1 b0)] h := by
  unfold jX5_value_100 at hw
  refine r_iconst (0) C dX5_value_100 (by decide) ?_
  obtain ⟨hi1, hw⟩ := hw
  refine r_iast C (kb0) hi1 dX5_value_101 ?_
  refine r_toph (fun h2 eh2 => ?_)
  replace hw := hw h2 eh2
  obtain ⟨v3, ev3⟩ : ∃ v : Int32, v = x2 + (1 : Int32) := ⟨_, rfl⟩
  replace hw := hw v3 ev3
  refine r_iinc v3 [some (.ref (G.1 a0)), some (.ref (G.1 a1)), some (.int v3), some (.int x3), some (.int x4), none] C dX5_value_102 rfl (by rw [ev3]; rfl) rfl rfl ?_
  refine r_goto 256 C dX5_value_105 (by decide) ?_
  obtain ⟨v4, ev4⟩ : ∃ v : Int32, v = x4 + (1 : Int32) := ⟨_, rfl⟩
  replace hw := hw v4 ev4
  refine r_iinc v4 [some (.ref (G.1 a0)), some (.ref (G.1 a1)), some (.int v3), some (.int x3), some (.int v4), none] C dX5_value_256 rfl (by rw [ev4]; rfl) rfl rfl ?_
  refine r_goto 7 C dX5_value_259 (by decide) ?_
  exact hK7 _ _ _ _ hw
def fX5_value_7 (a0 : Nat) (a1 : Nat) (Q : Int32 → Hp → Prop) (K7 : Int32 → Int32 → Int32 → Hp → Prop) (x2 : Int32) (x3 : Int32) (x4 : Int32) (h : Hp) : Prop :=
  if (gI h a0 3) ≤ x4 then (Q (0 : Int32) h) else (if (121 : Int32) ≤ x2 then (Q (0 : Int32) h) else (vp_in x4 (ln (rf a0 0)) ∧ (∀ v2 : Int32, v2 = (gI h (rf a0 0) x4.toNatClampNeg) → (if v2 = 0 then (vp_in x4 (ln (rf a0 1)) ∧ (vp_in x2 (ln (rf a0 2)) ∧ (∀ h39 : Hp, h39 = sI h (rf a0 2) x2.toNatClampNeg (gI h (rf a0 1) x4.toNatClampNeg) → (∀ v40 : Int32, v40 = x2 + (1 : Int32) → (∀ v41 : Int32, v41 = x4 + (1 : Int32) → (K7 v40 x3 v41 h39)))))) else (if v2 = (1 : Int32) then (vp_in x4 (ln (rf a0 1)) ∧ (if (gI h (rf a0 1) x4.toNatClampNeg) < 0 then (jX5_value_100 a0 a1 x2 x3 x4 (rf a0 2) x2 h K7 Q) else (vp_in x4 (ln (rf a0 1)) ∧ (if (Int32.ofNat (ln a1)) ≤ (gI h (rf a0 1) x4.toNatClampNeg) then (jX5_value_100 a0 a1 x2 x3 x4 (rf a0 2) x2 h K7 Q) else (vp_in x4 (ln (rf a0 1)) ∧ (vp_in (gI h (rf a0 1) x4.toNatClampNeg) (ln a1) ∧ (vp_in x2 (ln (rf a0 2)) ∧ (∀ h34 : Hp, h34 = sI h (rf a0 2) x2.toNatClampNeg (gI h a1 (gI h (rf a0 1) x4.toNatClampNeg).toNatClampNeg) → (∀ v35 : Int32, v35 = x2 + (1 : Int32) → (∀ v36 : Int32, v36 = x4 + (1 : Int32) → (K7 v35 x3 v36 h34))))))))))) else (if (1 : Int32) ≤ x2 then (if v2 = (2 : Int32) then (vp_in (x2 - (1 : Int32)) (ln (rf a0 2)) ∧ (vp_in (x2 - (1 : Int32)) (ln (rf a0 2)) ∧ (∀ h27 : Hp, h27 = sI h (rf a0 2) (x2 - (1 : Int32)).toNatClampNeg (-(gI h (rf a0 2) (x2 - (1 : Int32)).toNatClampNeg)) → (∀ v28 : Int32, v28 = x4 + (1 : Int32) → (K7 x2 x3 v28 h27))))) else (if v2 = (33 : Int32) then (vp_in (x2 - (1 : Int32)) (ln (rf a0 2)) ∧ (if (gI h (rf a0 2) (x2 - (1 : Int32)).toNatClampNeg) = 0 then (vp_in (x2 - (1 : Int32)) (ln (rf a0 2)) ∧ (∀ h23 : Hp, h23 = sI h (rf a0 2) (x2 - (1 : Int32)).toNatClampNeg (1 : Int32) → (∀ v24 : Int32, v24 = x4 + (1 : Int32) → (K7 x2 x3 v24 h23)))) else (vp_in (x2 - (1 : Int32)) (ln (rf a0 2)) ∧ (∀ h20 : Hp, h20 = sI h (rf a0 2) (x2 - (1 : Int32)).toNatClampNeg (0 : Int32) → (∀ v21 : Int32, v21 = x4 + (1 : Int32) → (K7 x2 x3 v21 h20)))))) else (if v2 = (63 : Int32) then (∀ v14 : Int32, v14 = x2 + (-1 : Int32) → (vp_in v14 (ln (rf a0 2)) ∧ (∀ v16 : Int32, v16 = (gI h (rf a0 2) v14.toNatClampNeg) → (∀ v17 : Int32, v17 = x4 + (1 : Int32) → (K7 v14 v16 v17 h))))) else (if v2 = (59 : Int32) then (∀ v11 : Int32, v11 = x2 + (-1 : Int32) → (if x3 = 0 then (∀ v12 : Int32, v12 = x4 + (1 : Int32) → (K7 v11 (1 : Int32) v12 h)) else (vp_in v11 (ln (rf a0 2)) ∧ (Q (gI h (rf a0 2) v11.toNatClampNeg) h)))) else (if x2 < (2 : Int32) then (∀ v3 : Int32, v3 = x4 + (1 : Int32) → (K7 x2 x3 v3 h)) else (∀ v4 : Int32, v4 = x2 + (-1 : Int32) → (vp_in (v4 - (1 : Int32)) (ln (rf a0 2)) ∧ (vp_in v4 (ln (rf a0 2)) ∧ (wX5_joined v2 (gI h (rf a0 2) (v4 - (1 : Int32)).toNatClampNeg) (gI h (rf a0 2) v4.toNatClampNeg) h (fun v7 => vp_in (v4 - (1 : Int32)) (ln (rf a0 2)) ∧ (∀ h9 : Hp, h9 = sI h (rf a0 2) (v4 - (1 : Int32)).toNatClampNeg v7 → (∀ v10 : Int32, v10 = x4 + (1 : Int32) → (K7 v4 x3 v10 h9))))))))))))) else (Q (0 : Int32) h)))))))
def eX5_value_7 (a0 : Nat) (a1 : Nat) (Q : Int32 → Hp → Prop) (x2 : Int32) (x3 : Int32) (x4 : Int32) (h : Hp) : Prop := ∃ N, lpN (fun (K : Int32 × Int32 × Int32 × Hp → Prop) (s : Int32 × Int32 × Int32 × Hp) => fX5_value_7 a0 a1 Q (fun x2 x3 x4 h => K (x2, x3, x4, h)) s.1 s.2.1 s.2.2.1 s.2.2.2) N (x2, x3, x4, h)
theorem iX5_value_7 {a0 : Nat} {a1 : Nat} {Q : Int32 → Hp → Prop} (I : Int32 → Int32 → Int32 → Hp → Prop) (μ : Int32 → Int32 → Int32 → Hp → Nat) (hs : ∀ (x2 : Int32) (x3 : Int32) (x4 : Int32) (h : Hp), I x2 x3 x4 h → ∀ K : Int32 → Int32 → Int32 → Hp → Prop, (∀ (x2' : Int32) (x3' : Int32) (x4' : Int32) (h' : Hp), I x2' x3' x4' h' → μ x2' x3' x4' h' < μ x2 x3 x4 h → K x2' x3' x4' h') → fX5_value_7 a0 a1 Q K x2 x3 x4 h) : ∀ (x2 : Int32) (x3 : Int32) (x4 : Int32) (h : Hp), I x2 x3 x4 h → eX5_value_7 a0 a1 Q x2 x3 x4 h := fun x2 x3 x4 h hI => lp_ind (fun s => I s.1 s.2.1 s.2.2.1 s.2.2.2) (fun s => μ s.1 s.2.1 s.2.2.1 s.2.2.2) (fun s hs' K hK => hs s.1 s.2.1 s.2.2.1 s.2.2.2 hs' _ (fun x2' x3' x4' h' h1 h2 => hK (x2', x3', x4', h') h1 h2)) (x2, x3, x4, h) hI
set_option maxRecDepth 20000 in
theorem tX5_value_7 {G : GG} {X : XX} {a0 : Nat} {a1 : Nat} {x2 : Int32} {x3 : Int32} {x4 : Int32} {h : Hp}  {Q : Int32 → Hp → Prop} (C : Cx G RX5 cX5_value 6 (some .int) 1 0 0 X) (k0 : kd a0 = 5) (k1 : kd a1 = 20) (hw : eX5_value_7 a0 a1 Q x2 x3 x4 h) : R0 G X 0 0 (ZM G (fun r h' => ∃ v, r = some (.int v) ∧ Q v h') X) 7 [some (.ref (G.1 a0)), some (.ref (G.1 a1)), some (.int x2), some (.int x3), some (.int x4), none] [] h := by
  obtain ⟨N, hw⟩ := hw
  induction N generalizing x2 x3 x4 h with
  | zero => exact hw.elim
  | succ N ih =>
    obtain ⟨K7, eK⟩ : ∃ K : Int32 → Int32 → Int32 → Hp → Prop, K = (fun x2 x3 x4 h => lpN (fun (K : Int32 × Int32 × Int32 × Hp → Prop) (s : Int32 × Int32 × Int32 × Hp) => fX5_value_7 a0 a1 Q (fun x2 x3 x4 h => K (x2, x3, x4, h)) s.1 s.2.1 s.2.2.1 s.2.2.2) N (x2, x3, x4, h)) := ⟨_, rfl⟩
    have hw : fX5_value_7 a0 a1 Q (fun x2 x3 x4 h => lpN (fun (K : Int32 × Int32 × Int32 × Hp → Prop) (s : Int32 × Int32 × Int32 × Hp) => fX5_value_7 a0 a1 Q (fun x2 x3 x4 h => K (x2, x3, x4, h)) s.1 s.2.1 s.2.2.1 s.2.2.2) N (x2, x3, x4, h)) x2 x3 x4 h := hw
    have hK7 : ∀ (x2 : Int32) (x3 : Int32) (x4 : Int32) (h : Hp), K7 x2 x3 x4 h → R0 G X 0 0 (ZM G (fun r h' => ∃ v, r = some (.int v) ∧ Q v h') X) 7 [some (.ref (G.1 a0)), some (.ref (G.1 a1)), some (.int x2), some (.int x3), some (.int x4), none] [] h := fun x2 x3 x4 h q => ih (by rw [eK] at q; exact q)
    rw [← eK] at hw
    clear eK ih
    unfold fX5_value_7 at hw
    refine r_iload C dX5_value_7 rfl ?_
    refine r_aload_n C dX5_value_9 rfl ?_
    refine gX5_21 C (k0) dX5_value_10 ?_
    refine r_icmp_ge 262 C dX5_value_13 (by decide) (fun hc => ?_) (fun hc => ?_)
    · replace hw := it_t hc hw
      refine r_iconst (0) C dX5_value_262 (by decide) ?_
      exact r_iret C dX5_value_263 ⟨_, rfl, hw⟩
    · replace hw := it_f hc hw
      refine r_iload_n C dX5_value_16 rfl ?_
      refine r_bipush (121) C dX5_value_17 (by decide) ?_
      refine r_icmp_ge 262 C dX5_value_19 (by decide) (fun hc => ?_) (fun hc => ?_)
      · replace hw := it_t hc hw
        refine r_iconst (0) C dX5_value_262 (by decide) ?_
        exact r_iret C dX5_value_263 ⟨_, rfl, hw⟩
      · replace hw := it_f hc hw
        refine r_aload_n C dX5_value_22 rfl ?_
        refine gX5_11 C (k0) dX5_value_23 ?_
        refine r_iload C dX5_value_26 rfl ?_
        obtain ⟨hi1, hw⟩ := hw
        refine r_iald C (kr5_0 (k0)) hi1 dX5_value_28 ?_
        refine r_topi (fun v2 ev2 => ?_)
        replace hw := hw v2 ev2
        refine r_istore [some (.ref (G.1 a0)), some (.ref (G.1 a1)), some (.int x2), some (.int x3), some (.int x4), some (.int v2)] C dX5_value_29 (Nat.le_of_ble_eq_true rfl) rfl rfl ?_
        refine r_iload C dX5_value_31 rfl ?_
        refine r_if_ne 55 C dX5_value_33 (by decide) (fun hc => ?_) (fun hc => ?_)
        · replace hw := it_f hc hw
          refine r_iload C dX5_value_55 rfl ?_
          refine r_iconst (1) C dX5_value_57 (by decide) ?_
          refine r_icmp_ne 108 C dX5_value_58 (by decide) (fun hc => ?_) (fun hc => ?_)
          · replace hw := it_f hc hw
            refine r_iload_n C dX5_value_108 rfl ?_
            refine r_iconst (1) C dX5_value_109 (by decide) ?_
            refine r_icmp_ge 115 C dX5_value_110 (by decide) (fun hc => ?_) (fun hc => ?_)
            · replace hw := it_t hc hw
              refine r_iload C dX5_value_115 rfl ?_
              refine r_iconst (2) C dX5_value_117 (by decide) ?_
              refine r_icmp_ne 141 C dX5_value_118 (by decide) (fun hc => ?_) (fun hc => ?_)
              · replace hw := it_f hc hw
                refine r_iload C dX5_value_141 rfl ?_
                refine r_bipush (33) C dX5_value_143 (by decide) ?_
                refine r_icmp_ne 175 C dX5_value_145 (by decide) (fun hc => ?_) (fun hc => ?_)
                · replace hw := it_f hc hw
                  refine r_iload C dX5_value_175 rfl ?_
                  refine r_bipush (63) C dX5_value_177 (by decide) ?_
                  refine r_icmp_ne 195 C dX5_value_179 (by decide) (fun hc => ?_) (fun hc => ?_)
                  · replace hw := it_f hc hw
                    refine r_iload C dX5_value_195 rfl ?_
                    refine r_bipush (59) C dX5_value_197 (by decide) ?_
                    refine r_icmp_ne 221 C dX5_value_199 (by decide) (fun hc => ?_) (fun hc => ?_)
                    · replace hw := it_f hc hw
                      refine r_iload_n C dX5_value_221 rfl ?_
                      refine r_iconst (2) C dX5_value_222 (by decide) ?_
                      refine r_icmp_lt 256 C dX5_value_223 (by decide) (fun hc => ?_) (fun hc => ?_)
                      · replace hw := it_t hc hw
                        obtain ⟨v3, ev3⟩ : ∃ v : Int32, v = x4 + (1 : Int32) := ⟨_, rfl⟩
                        replace hw := hw v3 ev3
                        refine r_iinc v3 [some (.ref (G.1 a0)), some (.ref (G.1 a1)), some (.int x2), some (.int x3), some (.int v3), some (.int v2)] C dX5_value_256 rfl (by rw [ev3]; rfl) rfl rfl ?_
                        refine r_goto 7 C dX5_value_259 (by decide) ?_
                        refine r_weak [some (.ref (G.1 a0)), some (.ref (G.1 a1)), some (.int x2), some (.int x3), some (.int v3), none] (lw_k (lw_k (lw_k (lw_k (lw_k (lw_d (lw_n))))))) ?_
                        exact hK7 _ _ _ _ hw
                      · replace hw := it_f hc hw
                        obtain ⟨v4, ev4⟩ : ∃ v : Int32, v = x2 + (-1 : Int32) := ⟨_, rfl⟩
                        replace hw := hw v4 ev4
                        refine r_iinc v4 [some (.ref (G.1 a0)), some (.ref (G.1 a1)), some (.int v4), some (.int x3), some (.int x4), some (.int v2)] C dX5_value_226 rfl (by rw [ev4]; rfl) rfl rfl ?_
                        refine r_aload_n C dX5_value_229 rfl ?_
                        refine gX5_18 C (k0) dX5_value_230 ?_
                        refine r_iload_n C dX5_value_233 rfl ?_
                        refine r_iconst (1) C dX5_value_234 (by decide) ?_
                        refine r_isub C dX5_value_235 ?_
                        refine r_iload C dX5_value_236 rfl ?_
                        refine r_aload_n C dX5_value_238 rfl ?_
                        refine gX5_18 C (k0) dX5_value_239 ?_
                        refine r_iload_n C dX5_value_242 rfl ?_
                        refine r_iconst (1) C dX5_value_243 (by decide) ?_
                        refine r_isub C dX5_value_244 ?_
                        obtain ⟨hi5, hw⟩ := hw
                        refine r_iald C (kr5_2 (k0)) hi5 dX5_value_245 ?_
                        refine r_aload_n C dX5_value_246 rfl ?_
                        refine gX5_18 C (k0) dX5_value_247 ?_
                        refine r_iload_n C dX5_value_250 rfl ?_
                        obtain ⟨hi6, hw⟩ := hw
                        refine r_iald C (kr5_2 (k0)) hi6 dX5_value_251 ?_
                        refine kX5_35 C (sX5_joined hw) dX5_value_252 (Nat.le_of_ble_eq_true rfl) rfl (Nat.le_of_ble_eq_true rfl) (fun v7 hw => ?_)
                        obtain ⟨hi8, hw⟩ := hw
                        refine r_iast C (kr5_2 (k0)) hi8 dX5_value_255 ?_
                        refine r_toph (fun h9 eh9 => ?_)
                        replace hw := hw h9 eh9
                        obtain ⟨v10, ev10⟩ : ∃ v : Int32, v = x4 + (1 : Int32) := ⟨_, rfl⟩
                        replace hw := hw v10 ev10
                        refine r_iinc v10 [some (.ref (G.1 a0)), some (.ref (G.1 a1)), some (.int v4), some (.int x3), some (.int v10), some (.int v2)] C dX5_value_256 rfl (by rw [ev10]; rfl) rfl rfl ?_
                        refine r_goto 7 C dX5_value_259 (by decide) ?_
                        refine r_weak [some (.ref (G.1 a0)), some (.ref (G.1 a1)), some (.int v4), some (.int x3), some (.int v10), none] (lw_k (lw_k (lw_k (lw_k (lw_k (lw_d (lw_n))))))) ?_
                        exact hK7 _ _ _ _ hw
                    · replace hw := it_t hc hw
                      obtain ⟨v11, ev11⟩ : ∃ v : Int32, v = x2 + (-1 : Int32) := ⟨_, rfl⟩
                      replace hw := hw v11 ev11
                      refine r_iinc v11 [some (.ref (G.1 a0)), some (.ref (G.1 a1)), some (.int v11), some (.int x3), some (.int x4), some (.int v2)] C dX5_value_202 rfl (by rw [ev11]; rfl) rfl rfl ?_
                      refine r_iload_n C dX5_value_205 rfl ?_
                      refine r_if_eq 216 C dX5_value_206 (by decide) (fun hc => ?_) (fun hc => ?_)
                      · replace hw := it_t hc hw
                        refine r_iconst (1) C dX5_value_216 (by decide) ?_
                        refine r_istore_n [some (.ref (G.1 a0)), some (.ref (G.1 a1)), some (.int v11), some (.int (1 : Int32)), some (.int x4), some (.int v2)] C dX5_value_217 (Nat.le_of_ble_eq_true rfl) rfl rfl ?_
                        refine r_goto 256 C dX5_value_218 (by decide) ?_
                        obtain ⟨v12, ev12⟩ : ∃ v : Int32, v = x4 + (1 : Int32) := ⟨_, rfl⟩
                        replace hw := hw v12 ev12
                        refine r_iinc v12 [some (.ref (G.1 a0)), some (.ref (G.1 a1)), some (.int v11), some (.int (1 : Int32)), some (.int v12), some (.int v2)] C dX5_value_256 rfl (by rw [ev12]; rfl) rfl rfl ?_
                        refine r_goto 7 C dX5_value_259 (by decide) ?_
                        refine r_weak [some (.ref (G.1 a0)), some (.ref (G.1 a1)), some (.int v11), some (.int (1 : Int32)), some (.int v12), none] (lw_k (lw_k (lw_k (lw_k (lw_k (lw_d (lw_n))))))) ?_
                        exact hK7 _ _ _ _ hw
                      · replace hw := it_f hc hw
                        refine r_aload_n C dX5_value_209 rfl ?_
                        refine gX5_18 C (k0) dX5_value_210 ?_
                        refine r_iload_n C dX5_value_213 rfl ?_
                        obtain ⟨hi13, hw⟩ := hw
                        refine r_iald C (kr5_2 (k0)) hi13 dX5_value_214 ?_
                        exact r_iret C dX5_value_215 ⟨_, rfl, hw⟩
                  · replace hw := it_t hc hw
                    obtain ⟨v14, ev14⟩ : ∃ v : Int32, v = x2 + (-1 : Int32) := ⟨_, rfl⟩
                    replace hw := hw v14 ev14
                    refine r_iinc v14 [some (.ref (G.1 a0)), some (.ref (G.1 a1)), some (.int v14), some (.int x3), some (.int x4), some (.int v2)] C dX5_value_182 rfl (by rw [ev14]; rfl) rfl rfl ?_
                    refine r_aload_n C dX5_value_185 rfl ?_
                    refine gX5_18 C (k0) dX5_value_186 ?_
                    refine r_iload_n C dX5_value_189 rfl ?_
                    obtain ⟨hi15, hw⟩ := hw
                    refine r_iald C (kr5_2 (k0)) hi15 dX5_value_190 ?_
                    refine r_topi (fun v16 ev16 => ?_)
                    replace hw := hw v16 ev16
                    refine r_istore_n [some (.ref (G.1 a0)), some (.ref (G.1 a1)), some (.int v14), some (.int v16), some (.int x4), some (.int v2)] C dX5_value_191 (Nat.le_of_ble_eq_true rfl) rfl rfl ?_
                    refine r_goto 256 C dX5_value_192 (by decide) ?_
                    obtain ⟨v17, ev17⟩ : ∃ v : Int32, v = x4 + (1 : Int32) := ⟨_, rfl⟩
                    replace hw := hw v17 ev17
                    refine r_iinc v17 [some (.ref (G.1 a0)), some (.ref (G.1 a1)), some (.int v14), some (.int v16), some (.int v17), some (.int v2)] C dX5_value_256 rfl (by rw [ev17]; rfl) rfl rfl ?_
                    refine r_goto 7 C dX5_value_259 (by decide) ?_
                    refine r_weak [some (.ref (G.1 a0)), some (.ref (G.1 a1)), some (.int v14), some (.int v16), some (.int v17), none] (lw_k (lw_k (lw_k (lw_k (lw_k (lw_d (lw_n))))))) ?_
                    exact hK7 _ _ _ _ hw
                · replace hw := it_t hc hw
                  refine r_aload_n C dX5_value_148 rfl ?_
                  refine gX5_18 C (k0) dX5_value_149 ?_
                  refine r_iload_n C dX5_value_152 rfl ?_
                  refine r_iconst (1) C dX5_value_153 (by decide) ?_
                  refine r_isub C dX5_value_154 ?_
                  refine r_aload_n C dX5_value_155 rfl ?_
                  refine gX5_18 C (k0) dX5_value_156 ?_
                  refine r_iload_n C dX5_value_159 rfl ?_
                  refine r_iconst (1) C dX5_value_160 (by decide) ?_
                  refine r_isub C dX5_value_161 ?_
                  obtain ⟨hi18, hw⟩ := hw
                  refine r_iald C (kr5_2 (k0)) hi18 dX5_value_162 ?_
                  refine r_if_ne 170 C dX5_value_163 (by decide) (fun hc => ?_) (fun hc => ?_)
                  · replace hw := it_f hc hw
                    refine r_iconst (0) C dX5_value_170 (by decide) ?_
                    obtain ⟨hi19, hw⟩ := hw
                    refine r_iast C (kr5_2 (k0)) hi19 dX5_value_171 ?_
                    refine r_toph (fun h20 eh20 => ?_)
                    replace hw := hw h20 eh20
                    refine r_goto 256 C dX5_value_172 (by decide) ?_
                    obtain ⟨v21, ev21⟩ : ∃ v : Int32, v = x4 + (1 : Int32) := ⟨_, rfl⟩
                    replace hw := hw v21 ev21
                    refine r_iinc v21 [some (.ref (G.1 a0)), some (.ref (G.1 a1)), some (.int x2), some (.int x3), some (.int v21), some (.int v2)] C dX5_value_256 rfl (by rw [ev21]; rfl) rfl rfl ?_
                    refine r_goto 7 C dX5_value_259 (by decide) ?_
                    refine r_weak [some (.ref (G.1 a0)), some (.ref (G.1 a1)), some (.int x2), some (.int x3), some (.int v21), none] (lw_k (lw_k (lw_k (lw_k (lw_k (lw_d (lw_n))))))) ?_
                    exact hK7 _ _ _ _ hw
                  · replace hw := it_t hc hw
                    refine r_iconst (1) C dX5_value_166 (by decide) ?_
                    refine r_goto 171 C dX5_value_167 (by decide) ?_
                    obtain ⟨hi22, hw⟩ := hw
                    refine r_iast C (kr5_2 (k0)) hi22 dX5_value_171 ?_
                    refine r_toph (fun h23 eh23 => ?_)
                    replace hw := hw h23 eh23
                    refine r_goto 256 C dX5_value_172 (by decide) ?_
                    obtain ⟨v24, ev24⟩ : ∃ v : Int32, v = x4 + (1 : Int32) := ⟨_, rfl⟩
                    replace hw := hw v24 ev24
                    refine r_iinc v24 [some (.ref (G.1 a0)), some (.ref (G.1 a1)), some (.int x2), some (.int x3), some (.int v24), some (.int v2)] C dX5_value_256 rfl (by rw [ev24]; rfl) rfl rfl ?_
                    refine r_goto 7 C dX5_value_259 (by decide) ?_
                    refine r_weak [some (.ref (G.1 a0)), some (.ref (G.1 a1)), some (.int x2), some (.int x3), some (.int v24), none] (lw_k (lw_k (lw_k (lw_k (lw_k (lw_d (lw_n))))))) ?_
                    exact hK7 _ _ _ _ hw
              · replace hw := it_t hc hw
                refine r_aload_n C dX5_value_121 rfl ?_
                refine gX5_18 C (k0) dX5_value_122 ?_
                refine r_iload_n C dX5_value_125 rfl ?_
                refine r_iconst (1) C dX5_value_126 (by decide) ?_
                refine r_isub C dX5_value_127 ?_
                refine r_aload_n C dX5_value_128 rfl ?_
                refine gX5_18 C (k0) dX5_value_129 ?_
                refine r_iload_n C dX5_value_132 rfl ?_
                refine r_iconst (1) C dX5_value_133 (by decide) ?_
                refine r_isub C dX5_value_134 ?_
                obtain ⟨hi25, hw⟩ := hw
                refine r_iald C (kr5_2 (k0)) hi25 dX5_value_135 ?_
                refine r_ineg C dX5_value_136 ?_
                obtain ⟨hi26, hw⟩ := hw
                refine r_iast C (kr5_2 (k0)) hi26 dX5_value_137 ?_
                refine r_toph (fun h27 eh27 => ?_)
                replace hw := hw h27 eh27
                refine r_goto 256 C dX5_value_138 (by decide) ?_
                obtain ⟨v28, ev28⟩ : ∃ v : Int32, v = x4 + (1 : Int32) := ⟨_, rfl⟩
                replace hw := hw v28 ev28
                refine r_iinc v28 [some (.ref (G.1 a0)), some (.ref (G.1 a1)), some (.int x2), some (.int x3), some (.int v28), some (.int v2)] C dX5_value_256 rfl (by rw [ev28]; rfl) rfl rfl ?_
                refine r_goto 7 C dX5_value_259 (by decide) ?_
                refine r_weak [some (.ref (G.1 a0)), some (.ref (G.1 a1)), some (.int x2), some (.int x3), some (.int v28), none] (lw_k (lw_k (lw_k (lw_k (lw_k (lw_d (lw_n))))))) ?_
                exact hK7 _ _ _ _ hw
            · replace hw := it_f hc hw
              refine r_iconst (0) C dX5_value_113 (by decide) ?_
              exact r_iret C dX5_value_114 ⟨_, rfl, hw⟩
          · replace hw := it_t hc hw
            refine r_aload_n C dX5_value_61 rfl ?_
            refine gX5_18 C (k0) dX5_value_62 ?_
            refine r_iload_n C dX5_value_65 rfl ?_
            refine r_aload_n C dX5_value_66 rfl ?_
            refine gX5_15 C (k0) dX5_value_67 ?_
            refine r_iload C dX5_value_70 rfl ?_
            obtain ⟨hi29, hw⟩ := hw
            refine r_iald C (kr5_1 (k0)) hi29 dX5_value_72 ?_
            refine r_if_lt 100 C dX5_value_73 (by decide) (fun hc => ?_) (fun hc => ?_)
            · replace hw := it_t hc hw
              refine r_weak [some (.ref (G.1 a0)), some (.ref (G.1 a1)), some (.int x2), some (.int x3), some (.int x4), none] (lw_k (lw_k (lw_k (lw_k (lw_k (lw_d (lw_n))))))) ?_
              exact tX5_value_100 C (k0) (k1) (kr5_2 (k0)) hK7 hw
            · replace hw := it_f hc hw
              refine r_aload_n C dX5_value_76 rfl ?_
              refine gX5_15 C (k0) dX5_value_77 ?_
              refine r_iload C dX5_value_80 rfl ?_
              obtain ⟨hi30, hw⟩ := hw
              refine r_iald C (kr5_1 (k0)) hi30 dX5_value_82 ?_
              refine r_aload_n C dX5_value_83 rfl ?_
              refine r_alen C (k1) rfl dX5_value_84 ?_
              refine r_icmp_ge 100 C dX5_value_85 (by decide) (fun hc => ?_) (fun hc => ?_)
              · replace hw := it_t hc hw
                refine r_weak [some (.ref (G.1 a0)), some (.ref (G.1 a1)), some (.int x2), some (.int x3), some (.int x4), none] (lw_k (lw_k (lw_k (lw_k (lw_k (lw_d (lw_n))))))) ?_
                exact tX5_value_100 C (k0) (k1) (kr5_2 (k0)) hK7 hw
              · replace hw := it_f hc hw
                refine r_aload_n C dX5_value_88 rfl ?_
                refine r_aload_n C dX5_value_89 rfl ?_
                refine gX5_15 C (k0) dX5_value_90 ?_
                refine r_iload C dX5_value_93 rfl ?_
                obtain ⟨hi31, hw⟩ := hw
                refine r_iald C (kr5_1 (k0)) hi31 dX5_value_95 ?_
                obtain ⟨hi32, hw⟩ := hw
                refine r_iald C (k1) hi32 dX5_value_96 ?_
                refine r_goto 101 C dX5_value_97 (by decide) ?_
                obtain ⟨hi33, hw⟩ := hw
                refine r_iast C (kr5_2 (k0)) hi33 dX5_value_101 ?_
                refine r_toph (fun h34 eh34 => ?_)
                replace hw := hw h34 eh34
                obtain ⟨v35, ev35⟩ : ∃ v : Int32, v = x2 + (1 : Int32) := ⟨_, rfl⟩
                replace hw := hw v35 ev35
                refine r_iinc v35 [some (.ref (G.1 a0)), some (.ref (G.1 a1)), some (.int v35), some (.int x3), some (.int x4), some (.int v2)] C dX5_value_102 rfl (by rw [ev35]; rfl) rfl rfl ?_
                refine r_goto 256 C dX5_value_105 (by decide) ?_
                obtain ⟨v36, ev36⟩ : ∃ v : Int32, v = x4 + (1 : Int32) := ⟨_, rfl⟩
                replace hw := hw v36 ev36
                refine r_iinc v36 [some (.ref (G.1 a0)), some (.ref (G.1 a1)), some (.int v35), some (.int x3), some (.int v36), some (.int v2)] C dX5_value_256 rfl (by rw [ev36]; rfl) rfl rfl ?_
                refine r_goto 7 C dX5_value_259 (by decide) ?_
                refine r_weak [some (.ref (G.1 a0)), some (.ref (G.1 a1)), some (.int v35), some (.int x3), some (.int v36), none] (lw_k (lw_k (lw_k (lw_k (lw_k (lw_d (lw_n))))))) ?_
                exact hK7 _ _ _ _ hw
        · replace hw := it_t hc hw
          refine r_aload_n C dX5_value_36 rfl ?_
          refine gX5_18 C (k0) dX5_value_37 ?_
          refine r_iload_n C dX5_value_40 rfl ?_
          refine r_aload_n C dX5_value_41 rfl ?_
          refine gX5_15 C (k0) dX5_value_42 ?_
          refine r_iload C dX5_value_45 rfl ?_
          obtain ⟨hi37, hw⟩ := hw
          refine r_iald C (kr5_1 (k0)) hi37 dX5_value_47 ?_
          obtain ⟨hi38, hw⟩ := hw
          refine r_iast C (kr5_2 (k0)) hi38 dX5_value_48 ?_
          refine r_toph (fun h39 eh39 => ?_)
          replace hw := hw h39 eh39
          obtain ⟨v40, ev40⟩ : ∃ v : Int32, v = x2 + (1 : Int32) := ⟨_, rfl⟩
          replace hw := hw v40 ev40
          refine r_iinc v40 [some (.ref (G.1 a0)), some (.ref (G.1 a1)), some (.int v40), some (.int x3), some (.int x4), some (.int v2)] C dX5_value_49 rfl (by rw [ev40]; rfl) rfl rfl ?_
          refine r_goto 256 C dX5_value_52 (by decide) ?_
          obtain ⟨v41, ev41⟩ : ∃ v : Int32, v = x4 + (1 : Int32) := ⟨_, rfl⟩
          replace hw := hw v41 ev41
          refine r_iinc v41 [some (.ref (G.1 a0)), some (.ref (G.1 a1)), some (.int v40), some (.int x3), some (.int v41), some (.int v2)] C dX5_value_256 rfl (by rw [ev41]; rfl) rfl rfl ?_
          refine r_goto 7 C dX5_value_259 (by decide) ?_
          refine r_weak [some (.ref (G.1 a0)), some (.ref (G.1 a1)), some (.int v40), some (.int x3), some (.int v41), none] (lw_k (lw_k (lw_k (lw_k (lw_k (lw_d (lw_n))))))) ?_
          exact hK7 _ _ _ _ hw
def wX5_value (a0 : Nat) (a1 : Nat) (h : Hp) (Q : Int32 → Hp → Prop) : Prop :=
  eX5_value_7 a0 a1 Q (0 : Int32) (1 : Int32) (0 : Int32) h
set_option maxRecDepth 20000 in
theorem sX5_value {G : GG} {a0 : Nat} {a1 : Nat} {h : Hp} {Q : Int32 → Hp → Prop} (k0 : kd a0 = 5) (k1 : kd a1 = 20) (hw : wX5_value a0 a1 h Q) : CI G 1 yX5_value cX5_value 6 (some .int) [.ref (G.1 a0), .ref (G.1 a1)] h Q := by
  refine CO_of [some (.ref (G.1 a0)), some (.ref (G.1 a1)), none, none, none, none] (by decide) (Nat.le_of_ble_eq_true rfl) rfl (fun X C => ?_)
  unfold wX5_value at hw
  refine r_iconst (0) C dX5_value_0 (by decide) ?_
  refine r_istore_n [some (.ref (G.1 a0)), some (.ref (G.1 a1)), some (.int (0 : Int32)), none, none, none] C dX5_value_1 (Nat.le_of_ble_eq_true rfl) rfl rfl ?_
  refine r_iconst (1) C dX5_value_2 (by decide) ?_
  refine r_istore_n [some (.ref (G.1 a0)), some (.ref (G.1 a1)), some (.int (0 : Int32)), some (.int (1 : Int32)), none, none] C dX5_value_3 (Nat.le_of_ble_eq_true rfl) rfl rfl ?_
  refine r_iconst (0) C dX5_value_4 (by decide) ?_
  refine r_istore [some (.ref (G.1 a0)), some (.ref (G.1 a1)), some (.int (0 : Int32)), some (.int (1 : Int32)), some (.int (0 : Int32)), none] C dX5_value_5 (Nat.le_of_ble_eq_true rfl) rfl rfl ?_
  exact tX5_value_7 C (k0) (k1) hw
def wX6_lets (a0 : Nat) (a1 : Nat) (x2 : Int32) (x3 : Int32) (x4 : Int32) (x5 : Int32) (h : Hp) (Q : Int32 → Hp → Prop) : Prop :=
  if (gI h (rf a0 1) 4) = 0 then (Q (1 : Int32) h) else (wX8_has a1 x2 h (fun v1 => if v1 = 0 then (Q (1 : Int32) h) else (vp_in x2 (ln (rf a1 2)) ∧ (wX6_name a0 x5 x3 x2 (gI h (rf a1 2) x2.toNatClampNeg) x4 (0 : Int32) h (fun h4 => wX5_value (rf a0 1) (rf a0 0) h4 (fun v5 h6 => if v5 = 0 then (Q (0 : Int32) h6) else (Q (1 : Int32) h6)))))))
set_option maxRecDepth 20000 in
theorem sX6_lets {G : GG} {a0 : Nat} {a1 : Nat} {x2 : Int32} {x3 : Int32} {x4 : Int32} {x5 : Int32} {h : Hp} {Q : Int32 → Hp → Prop} (k0 : kd a0 = 6) (k1 : kd a1 = 8) (hw : wX6_lets a0 a1 x2 x3 x4 x5 h Q) : CI G 2 yX6_lets cX6_lets 6 (some .boolean) [.ref (G.1 a0), .ref (G.1 a1), .int x2, .int x3, .int x4, .int x5] h Q := by
  refine CO_of [some (.ref (G.1 a0)), some (.ref (G.1 a1)), some (.int x2), some (.int x3), some (.int x4), some (.int x5)] (by decide) (Nat.le_of_ble_eq_true rfl) rfl (fun X C => ?_)
  unfold wX6_lets at hw
  refine r_aload_n C dX6_lets_0 rfl ?_
  refine gX6_18 C (k0) dX6_lets_1 ?_
  refine gX6_45 C (kr6_1 (k0)) dX6_lets_4 ?_
  refine r_if_eq 18 C dX6_lets_7 (by decide) (fun hc => ?_) (fun hc => ?_)
  · replace hw := it_t hc hw
    refine r_iconst (1) C dX6_lets_18 (by decide) ?_
    exact r_zret C dX6_lets_19 rfl ⟨_, rfl, hw⟩
  · replace hw := it_f hc hw
    refine r_aload_n C dX6_lets_10 rfl ?_
    refine r_iload_n C dX6_lets_11 rfl ?_
    refine kX6_49 C (k1) (sX8_has (k1) hw) dX6_lets_12 (Nat.le_of_ble_eq_true rfl) rfl (Nat.le_of_ble_eq_true rfl) (fun v1 hw => ?_)
    refine r_if_ne 20 C dX6_lets_15 (by decide) (fun hc => ?_) (fun hc => ?_)
    · replace hw := it_f hc hw
      refine r_aload_n C dX6_lets_20 rfl ?_
      refine r_iload C dX6_lets_21 rfl ?_
      refine r_iload_n C dX6_lets_23 rfl ?_
      refine r_iload_n C dX6_lets_24 rfl ?_
      refine r_aload_n C dX6_lets_25 rfl ?_
      refine gX6_55 C (k1) dX6_lets_26 ?_
      refine r_iload_n C dX6_lets_29 rfl ?_
      obtain ⟨hi2, hw⟩ := hw
      refine r_iald C (kr8_2 (k1)) hi2 dX6_lets_30 ?_
      refine r_iload C dX6_lets_31 rfl ?_
      refine r_iconst (0) C dX6_lets_33 (by decide) ?_
      refine kX6_58 C (k0) (sX6_name (k0) hw) dX6_lets_34 (Nat.le_of_ble_eq_true rfl) rfl (Nat.le_of_ble_eq_true rfl) (fun h4 hw => ?_)
      refine r_aload_n C dX6_lets_37 rfl ?_
      refine gX6_18 C (k0) dX6_lets_38 ?_
      refine r_aload_n C dX6_lets_41 rfl ?_
      refine gX6_11 C (k0) dX6_lets_42 ?_
      refine kX6_62 C (kr6_1 (k0)) (sX5_value (kr6_1 (k0)) (kr6_0 (k0)) hw) dX6_lets_45 (Nat.le_of_ble_eq_true rfl) rfl (Nat.le_of_ble_eq_true rfl) (fun v5 h6 hw => ?_)
      refine r_if_eq 55 C dX6_lets_48 (by decide) (fun hc => ?_) (fun hc => ?_)
      · replace hw := it_t hc hw
        refine r_iconst (0) C dX6_lets_55 (by decide) ?_
        exact r_zret C dX6_lets_56 rfl ⟨_, rfl, hw⟩
      · replace hw := it_f hc hw
        refine r_iconst (1) C dX6_lets_51 (by decide) ?_
        refine r_goto 56 C dX6_lets_52 (by decide) ?_
        exact r_zret C dX6_lets_56 rfl ⟨_, rfl, hw⟩
    · replace hw := it_t hc hw
      refine r_iconst (1) C dX6_lets_18 (by decide) ?_
      exact r_zret C dX6_lets_19 rfl ⟨_, rfl, hw⟩
def fX6_lettingOf_6 (a0 : Nat) (a1 : Nat) (x2 : Int32) (x3 : Int32) (x4 : Int32) (x5 : Int32) (Q : Int32 → Hp → Prop) (K6 : Int32 → Int32 → Hp → Prop) (x6 : Int32) (x7 : Int32) (h : Hp) : Prop :=
  if (gI h a1 3) ≤ x7 then (Q x6 h) else (if (gI h (rf a0 1) 4) = 0 then (Q x6 h) else (wX11_bit x2 x7 h (fun v1 => if v1 = 0 then (∀ v2 : Int32, v2 = x7 + (1 : Int32) → (K6 x6 v2 h)) else (wX6_lets a0 a1 x7 x3 x4 x5 h (fun v3 h4 => if v3 = 0 then (∀ v6 : Int32, v6 = (x6 &&& ((shl (1 : Int32) x7) ^^^ (-1 : Int32))) → (∀ v7 : Int32, v7 = x7 + (1 : Int32) → (K6 v6 v7 h4))) else (∀ v5 : Int32, v5 = x7 + (1 : Int32) → (K6 x6 v5 h4)))))))
def eX6_lettingOf_6 (a0 : Nat) (a1 : Nat) (x2 : Int32) (x3 : Int32) (x4 : Int32) (x5 : Int32) (Q : Int32 → Hp → Prop) (x6 : Int32) (x7 : Int32) (h : Hp) : Prop := ∃ N, lpN (fun (K : Int32 × Int32 × Hp → Prop) (s : Int32 × Int32 × Hp) => fX6_lettingOf_6 a0 a1 x2 x3 x4 x5 Q (fun x6 x7 h => K (x6, x7, h)) s.1 s.2.1 s.2.2) N (x6, x7, h)
theorem iX6_lettingOf_6 {a0 : Nat} {a1 : Nat} {x2 : Int32} {x3 : Int32} {x4 : Int32} {x5 : Int32} {Q : Int32 → Hp → Prop} (I : Int32 → Int32 → Hp → Prop) (μ : Int32 → Int32 → Hp → Nat) (hs : ∀ (x6 : Int32) (x7 : Int32) (h : Hp), I x6 x7 h → ∀ K : Int32 → Int32 → Hp → Prop, (∀ (x6' : Int32) (x7' : Int32) (h' : Hp), I x6' x7' h' → μ x6' x7' h' < μ x6 x7 h → K x6' x7' h') → fX6_lettingOf_6 a0 a1 x2 x3 x4 x5 Q K x6 x7 h) : ∀ (x6 : Int32) (x7 : Int32) (h : Hp), I x6 x7 h → eX6_lettingOf_6 a0 a1 x2 x3 x4 x5 Q x6 x7 h := fun x6 x7 h hI => lp_ind (fun s => I s.1 s.2.1 s.2.2) (fun s => μ s.1 s.2.1 s.2.2) (fun s hs' K hK => hs s.1 s.2.1 s.2.2 hs' _ (fun x6' x7' h' h1 h2 => hK (x6', x7', h') h1 h2)) (x6, x7, h) hI
set_option maxRecDepth 20000 in
theorem tX6_lettingOf_6 {G : GG} {X : XX} {a0 : Nat} {a1 : Nat} {x2 : Int32} {x3 : Int32} {x4 : Int32} {x5 : Int32} {x6 : Int32} {x7 : Int32} {h : Hp}  {Q : Int32 → Hp → Prop} (C : Cx G RX6 cX6_lettingOf 8 (some .int) 3 0 0 X) (k0 : kd a0 = 6) (k1 : kd a1 = 8) (hw : eX6_lettingOf_6 a0 a1 x2 x3 x4 x5 Q x6 x7 h) : R0 G X 0 0 (ZM G (fun r h' => ∃ v, r = some (.int v) ∧ Q v h') X) 6 [some (.ref (G.1 a0)), some (.ref (G.1 a1)), some (.int x2), some (.int x3), some (.int x4), some (.int x5), some (.int x6), some (.int x7)] [] h := by
  obtain ⟨N, hw⟩ := hw
  induction N generalizing x6 x7 h with
  | zero => exact hw.elim
  | succ N ih =>
    obtain ⟨K6, eK⟩ : ∃ K : Int32 → Int32 → Hp → Prop, K = (fun x6 x7 h => lpN (fun (K : Int32 × Int32 × Hp → Prop) (s : Int32 × Int32 × Hp) => fX6_lettingOf_6 a0 a1 x2 x3 x4 x5 Q (fun x6 x7 h => K (x6, x7, h)) s.1 s.2.1 s.2.2) N (x6, x7, h)) := ⟨_, rfl⟩
    have hw : fX6_lettingOf_6 a0 a1 x2 x3 x4 x5 Q (fun x6 x7 h => lpN (fun (K : Int32 × Int32 × Hp → Prop) (s : Int32 × Int32 × Hp) => fX6_lettingOf_6 a0 a1 x2 x3 x4 x5 Q (fun x6 x7 h => K (x6, x7, h)) s.1 s.2.1 s.2.2) N (x6, x7, h)) x6 x7 h := hw
    have hK6 : ∀ (x6 : Int32) (x7 : Int32) (h : Hp), K6 x6 x7 h → R0 G X 0 0 (ZM G (fun r h' => ∃ v, r = some (.int v) ∧ Q v h') X) 6 [some (.ref (G.1 a0)), some (.ref (G.1 a1)), some (.int x2), some (.int x3), some (.int x4), some (.int x5), some (.int x6), some (.int x7)] [] h := fun x6 x7 h q => ih (by rw [eK] at q; exact q)
    rw [← eK] at hw
    clear eK ih
    unfold fX6_lettingOf_6 at hw
    refine r_iload C dX6_lettingOf_6 rfl ?_
    refine r_aload_n C dX6_lettingOf_8 rfl ?_
    refine gX6_66 C (k1) dX6_lettingOf_9 ?_
    refine r_icmp_ge 66 C dX6_lettingOf_12 (by decide) (fun hc => ?_) (fun hc => ?_)
    · replace hw := it_t hc hw
      refine r_iload C dX6_lettingOf_66 rfl ?_
      exact r_iret C dX6_lettingOf_68 ⟨_, rfl, hw⟩
    · replace hw := it_f hc hw
      refine r_aload_n C dX6_lettingOf_15 rfl ?_
      refine gX6_18 C (k0) dX6_lettingOf_16 ?_
      refine gX6_45 C (kr6_1 (k0)) dX6_lettingOf_19 ?_
      refine r_if_eq 66 C dX6_lettingOf_22 (by decide) (fun hc => ?_) (fun hc => ?_)
      · replace hw := it_t hc hw
        refine r_iload C dX6_lettingOf_66 rfl ?_
        exact r_iret C dX6_lettingOf_68 ⟨_, rfl, hw⟩
      · replace hw := it_f hc hw
        refine r_iload_n C dX6_lettingOf_25 rfl ?_
        refine r_iload C dX6_lettingOf_26 rfl ?_
        refine kX6_70 C (sX11_bit hw) dX6_lettingOf_28 (Nat.le_of_ble_eq_true rfl) rfl (Nat.le_of_ble_eq_true rfl) (fun v1 hw => ?_)
        refine r_if_eq 60 C dX6_lettingOf_31 (by decide) (fun hc => ?_) (fun hc => ?_)
        · replace hw := it_t hc hw
          obtain ⟨v2, ev2⟩ : ∃ v : Int32, v = x7 + (1 : Int32) := ⟨_, rfl⟩
          replace hw := hw v2 ev2
          refine r_iinc v2 [some (.ref (G.1 a0)), some (.ref (G.1 a1)), some (.int x2), some (.int x3), some (.int x4), some (.int x5), some (.int x6), some (.int v2)] C dX6_lettingOf_60 rfl (by rw [ev2]; rfl) rfl rfl ?_
          refine r_goto 6 C dX6_lettingOf_63 (by decide) ?_
          exact hK6 _ _ _ hw
        · replace hw := it_f hc hw
          refine r_aload_n C dX6_lettingOf_34 rfl ?_
          refine r_aload_n C dX6_lettingOf_35 rfl ?_
          refine r_iload C dX6_lettingOf_36 rfl ?_
          refine r_iload_n C dX6_lettingOf_38 rfl ?_
          refine r_iload C dX6_lettingOf_39 rfl ?_
          refine r_iload C dX6_lettingOf_41 rfl ?_
          refine kX6_74 C (k0) (sX6_lets (k0) (k1) hw) dX6_lettingOf_43 (Nat.le_of_ble_eq_true rfl) rfl (Nat.le_of_ble_eq_true rfl) (fun v3 h4 hw => ?_)
          refine r_if_ne 60 C dX6_lettingOf_46 (by decide) (fun hc => ?_) (fun hc => ?_)
          · replace hw := it_f hc hw
            obtain ⟨v5, ev5⟩ : ∃ v : Int32, v = x7 + (1 : Int32) := ⟨_, rfl⟩
            replace hw := hw v5 ev5
            refine r_iinc v5 [some (.ref (G.1 a0)), some (.ref (G.1 a1)), some (.int x2), some (.int x3), some (.int x4), some (.int x5), some (.int x6), some (.int v5)] C dX6_lettingOf_60 rfl (by rw [ev5]; rfl) rfl rfl ?_
            refine r_goto 6 C dX6_lettingOf_63 (by decide) ?_
            exact hK6 _ _ _ hw
          · replace hw := it_t hc hw
            refine r_iload C dX6_lettingOf_49 rfl ?_
            refine r_iconst (1) C dX6_lettingOf_51 (by decide) ?_
            refine r_iload C dX6_lettingOf_52 rfl ?_
            refine r_ishl C dX6_lettingOf_54 ?_
            refine r_iconst (-1) C dX6_lettingOf_55 (by decide) ?_
            refine r_ixor C dX6_lettingOf_56 ?_
            refine r_iand C dX6_lettingOf_57 ?_
            refine r_topi (fun v6 ev6 => ?_)
            replace hw := hw v6 ev6
            refine r_istore [some (.ref (G.1 a0)), some (.ref (G.1 a1)), some (.int x2), some (.int x3), some (.int x4), some (.int x5), some (.int v6), some (.int x7)] C dX6_lettingOf_58 (Nat.le_of_ble_eq_true rfl) rfl rfl ?_
            obtain ⟨v7, ev7⟩ : ∃ v : Int32, v = x7 + (1 : Int32) := ⟨_, rfl⟩
            replace hw := hw v7 ev7
            refine r_iinc v7 [some (.ref (G.1 a0)), some (.ref (G.1 a1)), some (.int x2), some (.int x3), some (.int x4), some (.int x5), some (.int v6), some (.int v7)] C dX6_lettingOf_60 rfl (by rw [ev7]; rfl) rfl rfl ?_
            refine r_goto 6 C dX6_lettingOf_63 (by decide) ?_
            exact hK6 _ _ _ hw
def wX6_lettingOf (a0 : Nat) (a1 : Nat) (x2 : Int32) (x3 : Int32) (x4 : Int32) (x5 : Int32) (h : Hp) (Q : Int32 → Hp → Prop) : Prop :=
  eX6_lettingOf_6 a0 a1 x2 x3 x4 x5 Q x2 (0 : Int32) h
set_option maxRecDepth 20000 in
theorem sX6_lettingOf {G : GG} {a0 : Nat} {a1 : Nat} {x2 : Int32} {x3 : Int32} {x4 : Int32} {x5 : Int32} {h : Hp} {Q : Int32 → Hp → Prop} (k0 : kd a0 = 6) (k1 : kd a1 = 8) (hw : wX6_lettingOf a0 a1 x2 x3 x4 x5 h Q) : CI G 3 yX6_lettingOf cX6_lettingOf 8 (some .int) [.ref (G.1 a0), .ref (G.1 a1), .int x2, .int x3, .int x4, .int x5] h Q := by
  refine CO_of [some (.ref (G.1 a0)), some (.ref (G.1 a1)), some (.int x2), some (.int x3), some (.int x4), some (.int x5), none, none] (by decide) (Nat.le_of_ble_eq_true rfl) rfl (fun X C => ?_)
  unfold wX6_lettingOf at hw
  refine r_iload_n C dX6_lettingOf_0 rfl ?_
  refine r_istore [some (.ref (G.1 a0)), some (.ref (G.1 a1)), some (.int x2), some (.int x3), some (.int x4), some (.int x5), some (.int x2), none] C dX6_lettingOf_1 (Nat.le_of_ble_eq_true rfl) rfl rfl ?_
  refine r_iconst (0) C dX6_lettingOf_3 (by decide) ?_
  refine r_istore [some (.ref (G.1 a0)), some (.ref (G.1 a1)), some (.int x2), some (.int x3), some (.int x4), some (.int x5), some (.int x2), some (.int (0 : Int32))] C dX6_lettingOf_4 (Nat.le_of_ble_eq_true rfl) rfl rfl ?_
  exact tX6_lettingOf_6 C (k0) (k1) hw
def wX4_hold (x0 : Int64) (x2 : Int32) (h : Hp) (Q : Int32 → Prop) : Prop :=
  if (lg_cmp ((shrL x0 x2) &&& (1 : Int64)) (0 : Int64)) = 0 then (Q (0 : Int32)) else (Q (1 : Int32))
set_option maxRecDepth 20000 in
theorem sX4_hold {G : GG} {x0 : Int64} {x2 : Int32} {h : Hp} {Q : Int32 → Prop} (hw : wX4_hold x0 x2 h Q) : PI G 0 yX4_hold cX4_hold 3 (some .boolean) [.long x0, .int x2] h Q := by
  refine CO_of [some (.long x0), none, some (.int x2)] (by decide) (Nat.le_of_ble_eq_true rfl) rfl (fun X C => ?_)
  unfold wX4_hold at hw
  refine r_lload_n C dX4_hold_0 rfl ?_
  refine r_iload_n C dX4_hold_1 rfl ?_
  refine r_lshr C dX4_hold_2 ?_
  refine r_lconst (1) C dX4_hold_3 (by decide) ?_
  refine r_land C dX4_hold_4 ?_
  refine r_lconst (0) C dX4_hold_5 (by decide) ?_
  refine r_lcmp C dX4_hold_6 ?_
  refine r_if_eq 14 C dX4_hold_7 (by decide) (fun hc => ?_) (fun hc => ?_)
  · replace hw := it_t hc hw
    refine r_iconst (0) C dX4_hold_14 (by decide) ?_
    exact r_zret C dX4_hold_15 rfl ⟨_, rfl, rfl, hw⟩
  · replace hw := it_f hc hw
    refine r_iconst (1) C dX4_hold_10 (by decide) ?_
    refine r_goto 15 C dX4_hold_11 (by decide) ?_
    exact r_zret C dX4_hold_15 rfl ⟨_, rfl, rfl, hw⟩
def wX2_isLet (a0 : Nat) (x1 : Int32) (x2 : Int32) (h : Hp) (Q : Int32 → Prop) : Prop :=
  if (gI h a0 5) = (2 : Int32) then (if x1 = (1 : Int32) then (Q (1 : Int32)) else (wJ6_bitCount_0f7a4 (gI h a0 8) h (fun v1 => wX4_hold (gL h a0 6) (v1 + x2) h (fun v2 => if v2 = 0 then (Q (0 : Int32)) else (Q (1 : Int32)))))) else (Q (1 : Int32))
set_option maxRecDepth 20000 in
theorem sX2_isLet {G : GG} {a0 : Nat} {x1 : Int32} {x2 : Int32} {h : Hp} {Q : Int32 → Prop} (k0 : kd a0 = 2) (hw : wX2_isLet a0 x1 x2 h Q) : PI G 1 yX2_isLet cX2_isLet 3 (some .boolean) [.ref (G.1 a0), .int x1, .int x2] h Q := by
  refine CO_of [some (.ref (G.1 a0)), some (.int x1), some (.int x2)] (by decide) (Nat.le_of_ble_eq_true rfl) rfl (fun X C => ?_)
  unfold wX2_isLet at hw
  refine r_aload_n C dX2_isLet_0 rfl ?_
  refine gX2_66 C (k0) dX2_isLet_1 ?_
  refine r_iconst (2) C dX2_isLet_4 (by decide) ?_
  refine r_icmp_ne 32 C dX2_isLet_5 (by decide) (fun hc => ?_) (fun hc => ?_)
  · replace hw := it_f hc hw
    refine r_iconst (1) C dX2_isLet_32 (by decide) ?_
    refine r_goto 37 C dX2_isLet_33 (by decide) ?_
    exact r_zret C dX2_isLet_37 rfl ⟨_, rfl, rfl, hw⟩
  · replace hw := it_t hc hw
    refine r_iload_n C dX2_isLet_8 rfl ?_
    refine r_iconst (1) C dX2_isLet_9 (by decide) ?_
    refine r_icmp_eq 32 C dX2_isLet_10 (by decide) (fun hc => ?_) (fun hc => ?_)
    · replace hw := it_t hc hw
      refine r_iconst (1) C dX2_isLet_32 (by decide) ?_
      refine r_goto 37 C dX2_isLet_33 (by decide) ?_
      exact r_zret C dX2_isLet_37 rfl ⟨_, rfl, rfl, hw⟩
    · replace hw := it_f hc hw
      refine r_aload_n C dX2_isLet_13 rfl ?_
      refine gX2_73 C (k0) dX2_isLet_14 ?_
      refine r_aload_n C dX2_isLet_17 rfl ?_
      refine gX2_53 C (k0) dX2_isLet_18 ?_
      refine kX2_83 C (sJ6_bitCount_0f7a4 hw) dX2_isLet_21 (Nat.le_of_ble_eq_true rfl) rfl (Nat.le_of_ble_eq_true rfl) (fun v1 hw => ?_)
      refine r_iload_n C dX2_isLet_24 rfl ?_
      refine r_iadd C dX2_isLet_25 ?_
      refine kX2_105 C (sX4_hold hw) dX2_isLet_26 (Nat.le_of_ble_eq_true rfl) rfl (Nat.le_of_ble_eq_true rfl) (fun v2 hw => ?_)
      refine r_if_eq 36 C dX2_isLet_29 (by decide) (fun hc => ?_) (fun hc => ?_)
      · replace hw := it_t hc hw
        refine r_iconst (0) C dX2_isLet_36 (by decide) ?_
        exact r_zret C dX2_isLet_37 rfl ⟨_, rfl, rfl, hw⟩
      · replace hw := it_f hc hw
        refine r_iconst (1) C dX2_isLet_32 (by decide) ?_
        refine r_goto 37 C dX2_isLet_33 (by decide) ?_
        exact r_zret C dX2_isLet_37 rfl ⟨_, rfl, rfl, hw⟩
def wX2_turnOf (a0 : Nat) (x1 : Int32) (x2 : Int32) (h : Hp) (Q : Int32 → Prop) : Prop :=
  if (gI h a0 5) = (1 : Int32) then (vp_in x1 (ln (rf (rf a0 1) 2)) ∧ (Q (-(gI h (rf (rf a0 1) 2) x1.toNatClampNeg)))) else (if x2 = 0 then (vp_in x1 (ln (rf (rf a0 1) 0)) ∧ (Q (gI h (rf (rf a0 1) 0) x1.toNatClampNeg))) else (vp_in x1 (ln (rf (rf a0 1) 1)) ∧ (Q (gI h (rf (rf a0 1) 1) x1.toNatClampNeg))))
set_option maxRecDepth 20000 in
theorem sX2_turnOf {G : GG} {a0 : Nat} {x1 : Int32} {x2 : Int32} {h : Hp} {Q : Int32 → Prop} (k0 : kd a0 = 2) (hw : wX2_turnOf a0 x1 x2 h Q) : PI G 0 yX2_turnOf cX2_turnOf 3 (some .int) [.ref (G.1 a0), .int x1, .int x2] h Q := by
  refine CO_of [some (.ref (G.1 a0)), some (.int x1), some (.int x2)] (by decide) (Nat.le_of_ble_eq_true rfl) rfl (fun X C => ?_)
  unfold wX2_turnOf at hw
  refine r_aload_n C dX2_turnOf_0 rfl ?_
  refine gX2_66 C (k0) dX2_turnOf_1 ?_
  refine r_iconst (1) C dX2_turnOf_4 (by decide) ?_
  refine r_icmp_ne 19 C dX2_turnOf_5 (by decide) (fun hc => ?_) (fun hc => ?_)
  · replace hw := it_f hc hw
    refine r_iload_n C dX2_turnOf_19 rfl ?_
    refine r_if_ne 35 C dX2_turnOf_20 (by decide) (fun hc => ?_) (fun hc => ?_)
    · replace hw := it_f hc hw
      refine r_aload_n C dX2_turnOf_35 rfl ?_
      refine gX2_22 C (k0) dX2_turnOf_36 ?_
      refine gX2_123 C (kr2_1 (k0)) dX2_turnOf_39 ?_
      refine r_iload_n C dX2_turnOf_42 rfl ?_
      obtain ⟨hi1, hw⟩ := hw
      refine r_iald C (kr8_1 (kr2_1 (k0))) hi1 dX2_turnOf_43 ?_
      exact r_iret C dX2_turnOf_44 ⟨_, rfl, rfl, hw⟩
    · replace hw := it_t hc hw
      refine r_aload_n C dX2_turnOf_23 rfl ?_
      refine gX2_22 C (k0) dX2_turnOf_24 ?_
      refine gX2_120 C (kr2_1 (k0)) dX2_turnOf_27 ?_
      refine r_iload_n C dX2_turnOf_30 rfl ?_
      obtain ⟨hi2, hw⟩ := hw
      refine r_iald C (kr8_0 (kr2_1 (k0))) hi2 dX2_turnOf_31 ?_
      refine r_goto 44 C dX2_turnOf_32 (by decide) ?_
      exact r_iret C dX2_turnOf_44 ⟨_, rfl, rfl, hw⟩
  · replace hw := it_t hc hw
    refine r_aload_n C dX2_turnOf_8 rfl ?_
    refine gX2_22 C (k0) dX2_turnOf_9 ?_
    refine gX2_117 C (kr2_1 (k0)) dX2_turnOf_12 ?_
    refine r_iload_n C dX2_turnOf_15 rfl ?_
    obtain ⟨hi3, hw⟩ := hw
    refine r_iald C (kr8_2 (kr2_1 (k0))) hi3 dX2_turnOf_16 ?_
    refine r_ineg C dX2_turnOf_17 ?_
    exact r_iret C dX2_turnOf_18 ⟨_, rfl, rfl, hw⟩
def fX2_firstOf_9 (a0 : Nat) (x1 : Int32) (x2 : Int32) (h : Hp) (Q : Int32 → Prop) (K9 : Int32 → Int32 → Int32 → Prop) (x3 : Int32) (x4 : Int32) (x5 : Int32) : Prop :=
  if (gI h (rf a0 1) 3) ≤ x5 then (Q x3) else (wX11_bit x1 x5 h (fun v1 => if v1 = 0 then (∀ v2 : Int32, v2 = x5 + (1 : Int32) → (K9 x3 x4 v2)) else (wX2_turnOf a0 x5 x2 h (fun v3 => if x4 ≤ v3 then (∀ v4 : Int32, v4 = x5 + (1 : Int32) → (K9 x3 x4 v4)) else (wX2_turnOf a0 x5 x2 h (fun v5 => ∀ v6 : Int32, v6 = x5 + (1 : Int32) → (K9 x5 v5 v6)))))))
def eX2_firstOf_9 (a0 : Nat) (x1 : Int32) (x2 : Int32) (h : Hp) (Q : Int32 → Prop) (x3 : Int32) (x4 : Int32) (x5 : Int32) : Prop := ∃ N, lpN (fun (K : Int32 × Int32 × Int32 → Prop) (s : Int32 × Int32 × Int32) => fX2_firstOf_9 a0 x1 x2 h Q (fun x3 x4 x5 => K (x3, x4, x5)) s.1 s.2.1 s.2.2) N (x3, x4, x5)
theorem iX2_firstOf_9 {a0 : Nat} {x1 : Int32} {x2 : Int32} {h : Hp} {Q : Int32 → Prop} (I : Int32 → Int32 → Int32 → Prop) (μ : Int32 → Int32 → Int32 → Nat) (hs : ∀ (x3 : Int32) (x4 : Int32) (x5 : Int32), I x3 x4 x5 → ∀ K : Int32 → Int32 → Int32 → Prop, (∀ (x3' : Int32) (x4' : Int32) (x5' : Int32), I x3' x4' x5' → μ x3' x4' x5' < μ x3 x4 x5 → K x3' x4' x5') → fX2_firstOf_9 a0 x1 x2 h Q K x3 x4 x5) : ∀ (x3 : Int32) (x4 : Int32) (x5 : Int32), I x3 x4 x5 → eX2_firstOf_9 a0 x1 x2 h Q x3 x4 x5 := fun x3 x4 x5 hI => lp_ind (fun s => I s.1 s.2.1 s.2.2) (fun s => μ s.1 s.2.1 s.2.2) (fun s hs' K hK => hs s.1 s.2.1 s.2.2 hs' _ (fun x3' x4' x5' h1 h2 => hK (x3', x4', x5') h1 h2)) (x3, x4, x5) hI
set_option maxRecDepth 20000 in
theorem tX2_firstOf_9 {G : GG} {X : XX} {a0 : Nat} {x1 : Int32} {x2 : Int32} {x3 : Int32} {x4 : Int32} {x5 : Int32} {h : Hp}  {Q : Int32 → Prop} (C : Cx G RX2 cX2_firstOf 6 (some .int) 1 0 0 X) (k0 : kd a0 = 2) (hw : eX2_firstOf_9 a0 x1 x2 h Q x3 x4 x5) : R0 G X 0 0 (ZM G (fun r h' => ∃ v, r = some (.int v) ∧ h' = h ∧ Q v) X) 9 [some (.ref (G.1 a0)), some (.int x1), some (.int x2), some (.int x3), some (.int x4), some (.int x5)] [] h := by
  obtain ⟨N, hw⟩ := hw
  induction N generalizing x3 x4 x5 with
  | zero => exact hw.elim
  | succ N ih =>
    obtain ⟨K9, eK⟩ : ∃ K : Int32 → Int32 → Int32 → Prop, K = (fun x3 x4 x5 => lpN (fun (K : Int32 × Int32 × Int32 → Prop) (s : Int32 × Int32 × Int32) => fX2_firstOf_9 a0 x1 x2 h Q (fun x3 x4 x5 => K (x3, x4, x5)) s.1 s.2.1 s.2.2) N (x3, x4, x5)) := ⟨_, rfl⟩
    have hw : fX2_firstOf_9 a0 x1 x2 h Q (fun x3 x4 x5 => lpN (fun (K : Int32 × Int32 × Int32 → Prop) (s : Int32 × Int32 × Int32) => fX2_firstOf_9 a0 x1 x2 h Q (fun x3 x4 x5 => K (x3, x4, x5)) s.1 s.2.1 s.2.2) N (x3, x4, x5)) x3 x4 x5 := hw
    have hK9 : ∀ (x3 : Int32) (x4 : Int32) (x5 : Int32), K9 x3 x4 x5 → R0 G X 0 0 (ZM G (fun r h' => ∃ v, r = some (.int v) ∧ h' = h ∧ Q v) X) 9 [some (.ref (G.1 a0)), some (.int x1), some (.int x2), some (.int x3), some (.int x4), some (.int x5)] [] h := fun x3 x4 x5 q => ih (by rw [eK] at q; exact q)
    rw [← eK] at hw
    clear eK ih
    unfold fX2_firstOf_9 at hw
    refine r_iload C dX2_firstOf_9 rfl ?_
    refine r_aload_n C dX2_firstOf_11 rfl ?_
    refine gX2_22 C (k0) dX2_firstOf_12 ?_
    refine gX2_110 C (kr2_1 (k0)) dX2_firstOf_15 ?_
    refine r_icmp_ge 60 C dX2_firstOf_18 (by decide) (fun hc => ?_) (fun hc => ?_)
    · replace hw := it_t hc hw
      refine r_iload_n C dX2_firstOf_60 rfl ?_
      exact r_iret C dX2_firstOf_61 ⟨_, rfl, rfl, hw⟩
    · replace hw := it_f hc hw
      refine r_iload_n C dX2_firstOf_21 rfl ?_
      refine r_iload C dX2_firstOf_22 rfl ?_
      refine kX2_111 C (sX11_bit hw) dX2_firstOf_24 (Nat.le_of_ble_eq_true rfl) rfl (Nat.le_of_ble_eq_true rfl) (fun v1 hw => ?_)
      refine r_if_eq 54 C dX2_firstOf_27 (by decide) (fun hc => ?_) (fun hc => ?_)
      · replace hw := it_t hc hw
        obtain ⟨v2, ev2⟩ : ∃ v : Int32, v = x5 + (1 : Int32) := ⟨_, rfl⟩
        replace hw := hw v2 ev2
        refine r_iinc v2 [some (.ref (G.1 a0)), some (.int x1), some (.int x2), some (.int x3), some (.int x4), some (.int v2)] C dX2_firstOf_54 rfl (by rw [ev2]; rfl) rfl rfl ?_
        refine r_goto 9 C dX2_firstOf_57 (by decide) ?_
        exact hK9 _ _ _ hw
      · replace hw := it_f hc hw
        refine r_aload_n C dX2_firstOf_30 rfl ?_
        refine r_iload C dX2_firstOf_31 rfl ?_
        refine r_iload_n C dX2_firstOf_33 rfl ?_
        refine kX2_114 C (k0) (sX2_turnOf (k0) hw) dX2_firstOf_34 (Nat.le_of_ble_eq_true rfl) rfl (Nat.le_of_ble_eq_true rfl) (fun v3 hw => ?_)
        refine r_iload C dX2_firstOf_37 rfl ?_
        refine r_icmp_ge 54 C dX2_firstOf_39 (by decide) (fun hc => ?_) (fun hc => ?_)
        · replace hw := it_t hc hw
          obtain ⟨v4, ev4⟩ : ∃ v : Int32, v = x5 + (1 : Int32) := ⟨_, rfl⟩
          replace hw := hw v4 ev4
          refine r_iinc v4 [some (.ref (G.1 a0)), some (.int x1), some (.int x2), some (.int x3), some (.int x4), some (.int v4)] C dX2_firstOf_54 rfl (by rw [ev4]; rfl) rfl rfl ?_
          refine r_goto 9 C dX2_firstOf_57 (by decide) ?_
          exact hK9 _ _ _ hw
        · replace hw := it_f hc hw
          refine r_aload_n C dX2_firstOf_42 rfl ?_
          refine r_iload C dX2_firstOf_43 rfl ?_
          refine r_iload_n C dX2_firstOf_45 rfl ?_
          refine kX2_114 C (k0) (sX2_turnOf (k0) hw) dX2_firstOf_46 (Nat.le_of_ble_eq_true rfl) rfl (Nat.le_of_ble_eq_true rfl) (fun v5 hw => ?_)
          refine r_istore [some (.ref (G.1 a0)), some (.int x1), some (.int x2), some (.int x3), some (.int v5), some (.int x5)] C dX2_firstOf_49 (Nat.le_of_ble_eq_true rfl) rfl rfl ?_
          refine r_iload C dX2_firstOf_51 rfl ?_
          refine r_istore_n [some (.ref (G.1 a0)), some (.int x1), some (.int x2), some (.int x5), some (.int v5), some (.int x5)] C dX2_firstOf_53 (Nat.le_of_ble_eq_true rfl) rfl rfl ?_
          obtain ⟨v6, ev6⟩ : ∃ v : Int32, v = x5 + (1 : Int32) := ⟨_, rfl⟩
          replace hw := hw v6 ev6
          refine r_iinc v6 [some (.ref (G.1 a0)), some (.int x1), some (.int x2), some (.int x5), some (.int v5), some (.int v6)] C dX2_firstOf_54 rfl (by rw [ev6]; rfl) rfl rfl ?_
          refine r_goto 9 C dX2_firstOf_57 (by decide) ?_
          exact hK9 _ _ _ hw
def wX2_firstOf (a0 : Nat) (x1 : Int32) (x2 : Int32) (h : Hp) (Q : Int32 → Prop) : Prop :=
  eX2_firstOf_9 a0 x1 x2 h Q (0 : Int32) (2147483647 : Int32) (0 : Int32)
set_option maxRecDepth 20000 in
theorem sX2_firstOf {G : GG} {a0 : Nat} {x1 : Int32} {x2 : Int32} {h : Hp} {Q : Int32 → Prop} (k0 : kd a0 = 2) (hw : wX2_firstOf a0 x1 x2 h Q) : PI G 1 yX2_firstOf cX2_firstOf 6 (some .int) [.ref (G.1 a0), .int x1, .int x2] h Q := by
  refine CO_of [some (.ref (G.1 a0)), some (.int x1), some (.int x2), none, none, none] (by decide) (Nat.le_of_ble_eq_true rfl) rfl (fun X C => ?_)
  unfold wX2_firstOf at hw
  refine r_iconst (0) C dX2_firstOf_0 (by decide) ?_
  refine r_istore_n [some (.ref (G.1 a0)), some (.int x1), some (.int x2), some (.int (0 : Int32)), none, none] C dX2_firstOf_1 (Nat.le_of_ble_eq_true rfl) rfl rfl ?_
  refine r_ldc (2147483647) C wd748 dX2_firstOf_2 ?_
  refine r_istore [some (.ref (G.1 a0)), some (.int x1), some (.int x2), some (.int (0 : Int32)), some (.int (2147483647 : Int32)), none] C dX2_firstOf_4 (Nat.le_of_ble_eq_true rfl) rfl rfl ?_
  refine r_iconst (0) C dX2_firstOf_6 (by decide) ?_
  refine r_istore [some (.ref (G.1 a0)), some (.int x1), some (.int x2), some (.int (0 : Int32)), some (.int (2147483647 : Int32)), some (.int (0 : Int32))] C dX2_firstOf_7 (Nat.le_of_ble_eq_true rfl) rfl rfl ?_
  exact tX2_firstOf_9 C (k0) hw
def wX2_move (a0 : Nat) (x1 : Int32) (x2 : Int32) (x3 : Int32) (h : Hp) (Q : Hp → Prop) : Prop :=
  if x2 = 0 then (∀ h4 : Hp, h4 = sI h a0 8 ((gI h a0 8) ||| (shl (1 : Int32) x1)) → (∀ h5 : Hp, h5 = sI h4 a0 7 ((gI h4 a0 7) ||| (shl (1 : Int32) x1)) → (vp_in x1 (ln (rf a0 3)) ∧ (∀ h7 : Hp, h7 = sI h5 (rf a0 3) x1.toNatClampNeg x3 → (Q h7))))) else (∀ h1 : Hp, h1 = sI h a0 8 ((gI h a0 8) &&& ((shl (1 : Int32) x1) ^^^ (-1 : Int32))) → (vp_in x1 (ln (rf a0 4)) ∧ (∀ h3 : Hp, h3 = sI h1 (rf a0 4) x1.toNatClampNeg x3 → (Q h3))))
set_option maxRecDepth 20000 in
theorem sX2_move {G : GG} {a0 : Nat} {x1 : Int32} {x2 : Int32} {x3 : Int32} {h : Hp} {Q : Hp → Prop} (k0 : kd a0 = 2) (hw : wX2_move a0 x1 x2 x3 h Q) : CV G 0 yX2_move cX2_move 4 none [.ref (G.1 a0), .int x1, .int x2, .int x3] h Q := by
  refine CO_of [some (.ref (G.1 a0)), some (.int x1), some (.int x2), some (.int x3)] (by decide) (Nat.le_of_ble_eq_true rfl) rfl (fun X C => ?_)
  unfold wX2_move at hw
  refine r_iload_n C dX2_move_0 rfl ?_
  refine r_if_ne 38 C dX2_move_1 (by decide) (fun hc => ?_) (fun hc => ?_)
  · replace hw := it_f hc hw
    refine r_aload_n C dX2_move_38 rfl ?_
    refine r_dup C dX2_move_39 rfl ?_
    refine gX2_53 C (k0) dX2_move_40 ?_
    refine r_iconst (1) C dX2_move_43 (by decide) ?_
    refine r_iload_n C dX2_move_44 rfl ?_
    refine r_ishl C dX2_move_45 ?_
    refine r_iconst (-1) C dX2_move_46 (by decide) ?_
    refine r_ixor C dX2_move_47 ?_
    refine r_iand C dX2_move_48 ?_
    refine pX2_53 C (k0) dX2_move_49 ?_
    refine r_toph (fun h1 eh1 => ?_)
    replace hw := hw h1 eh1
    refine r_aload_n C dX2_move_52 rfl ?_
    refine gX2_15 C (k0) dX2_move_53 ?_
    refine r_iload_n C dX2_move_56 rfl ?_
    refine r_iload_n C dX2_move_57 rfl ?_
    obtain ⟨hi2, hw⟩ := hw
    refine r_iast C (kr2_4 (k0)) hi2 dX2_move_58 ?_
    refine r_toph (fun h3 eh3 => ?_)
    replace hw := hw h3 eh3
    exact r_vret C dX2_move_59 ⟨rfl, hw⟩
  · replace hw := it_t hc hw
    refine r_aload_n C dX2_move_4 rfl ?_
    refine r_dup C dX2_move_5 rfl ?_
    refine gX2_53 C (k0) dX2_move_6 ?_
    refine r_iconst (1) C dX2_move_9 (by decide) ?_
    refine r_iload_n C dX2_move_10 rfl ?_
    refine r_ishl C dX2_move_11 ?_
    refine r_ior C dX2_move_12 ?_
    refine pX2_53 C (k0) dX2_move_13 ?_
    refine r_toph (fun h4 eh4 => ?_)
    replace hw := hw h4 eh4
    refine r_aload_n C dX2_move_16 rfl ?_
    refine r_dup C dX2_move_17 rfl ?_
    refine gX2_40 C (k0) dX2_move_18 ?_
    refine r_iconst (1) C dX2_move_21 (by decide) ?_
    refine r_iload_n C dX2_move_22 rfl ?_
    refine r_ishl C dX2_move_23 ?_
    refine r_ior C dX2_move_24 ?_
    refine pX2_40 C (k0) dX2_move_25 ?_
    refine r_toph (fun h5 eh5 => ?_)
    replace hw := hw h5 eh5
    refine r_aload_n C dX2_move_28 rfl ?_
    refine gX2_9 C (k0) dX2_move_29 ?_
    refine r_iload_n C dX2_move_32 rfl ?_
    refine r_iload_n C dX2_move_33 rfl ?_
    obtain ⟨hi6, hw⟩ := hw
    refine r_iast C (kr2_3 (k0)) hi6 dX2_move_34 ?_
    refine r_toph (fun h7 eh7 => ?_)
    replace hw := hw h7 eh7
    refine r_goto 59 C dX2_move_35 (by decide) ?_
    exact r_vret C dX2_move_59 ⟨rfl, hw⟩
def fX2_letThrough_72 (a0 : Nat) (x2 : Int32) (x3 : Int32) (x5 : Int32) (x7 : Int32) (K42 : Int32 → Int32 → Hp → Prop) (Q : Hp → Prop) (K72 : Int32 → Int32 → Hp → Prop) (x6 : Int32) (x8 : Int32) (h : Hp) : Prop :=
  if x5 ≤ x8 then (∀ h1 : Hp, h1 = sI h a0 10 ((gI h a0 10) + (1 : Int32)) → (∀ v2 : Int32, v2 = x7 + (1 : Int32) → (K42 x6 v2 h1))) else (wX2_firstOf a0 x6 x2 h (fun v3 => ∀ v4 : Int32, v4 = (x6 &&& ((shl (1 : Int32) v3) ^^^ (-1 : Int32))) → (wX2_move a0 v3 x2 x3 h (fun h6 => ∀ v7 : Int32, v7 = x8 + (1 : Int32) → (K72 v4 v7 h6)))))
def eX2_letThrough_72 (a0 : Nat) (x2 : Int32) (x3 : Int32) (x5 : Int32) (x7 : Int32) (K42 : Int32 → Int32 → Hp → Prop) (Q : Hp → Prop) (x6 : Int32) (x8 : Int32) (h : Hp) : Prop := ∃ N, lpN (fun (K : Int32 × Int32 × Hp → Prop) (s : Int32 × Int32 × Hp) => fX2_letThrough_72 a0 x2 x3 x5 x7 K42 Q (fun x6 x8 h => K (x6, x8, h)) s.1 s.2.1 s.2.2) N (x6, x8, h)
theorem iX2_letThrough_72 {a0 : Nat} {x2 : Int32} {x3 : Int32} {x5 : Int32} {x7 : Int32} {K42 : Int32 → Int32 → Hp → Prop} {Q : Hp → Prop} (I : Int32 → Int32 → Hp → Prop) (μ : Int32 → Int32 → Hp → Nat) (hs : ∀ (x6 : Int32) (x8 : Int32) (h : Hp), I x6 x8 h → ∀ K : Int32 → Int32 → Hp → Prop, (∀ (x6' : Int32) (x8' : Int32) (h' : Hp), I x6' x8' h' → μ x6' x8' h' < μ x6 x8 h → K x6' x8' h') → fX2_letThrough_72 a0 x2 x3 x5 x7 K42 Q K x6 x8 h) : ∀ (x6 : Int32) (x8 : Int32) (h : Hp), I x6 x8 h → eX2_letThrough_72 a0 x2 x3 x5 x7 K42 Q x6 x8 h := fun x6 x8 h hI => lp_ind (fun s => I s.1 s.2.1 s.2.2) (fun s => μ s.1 s.2.1 s.2.2) (fun s hs' K hK => hs s.1 s.2.1 s.2.2 hs' _ (fun x6' x8' h' h1 h2 => hK (x6', x8', h') h1 h2)) (x6, x8, h) hI
set_option maxRecDepth 20000 in
theorem tX2_letThrough_72 {G : GG} {X : XX} {a0 : Nat} {x2 : Int32} {x3 : Int32} {x5 : Int32} {x6 : Int32} {x7 : Int32} {x8 : Int32} {h : Hp}  {K42 : Int32 → Int32 → Hp → Prop} {Q : Hp → Prop} (C : Cx G RX2 cX2_letThrough 10 none 4 0 0 X) (k0 : kd a0 = 2) (hK42 : ∀ (y6 : Int32) (y7 : Int32) (h' : Hp), K42 y6 y7 h' → R0 G X 0 0 (ZM G (fun r h' => r = none ∧ Q h') X) 42 [some (.ref (G.1 a0)), none, some (.int x2), some (.int x3), none, some (.int x5), some (.int y6), some (.int y7), none, none] [] h') (hw : eX2_letThrough_72 a0 x2 x3 x5 x7 K42 Q x6 x8 h) : R0 G X 0 0 (ZM G (fun r h' => r = none ∧ Q h') X) 72 [some (.ref (G.1 a0)), none, some (.int x2), some (.int x3), none, some (.int x5), some (.int x6), some (.int x7), some (.int x8), none] [] h := by
  obtain ⟨N, hw⟩ := hw
  induction N generalizing x6 x8 h with
  | zero => exact hw.elim
  | succ N ih =>
    obtain ⟨K72, eK⟩ : ∃ K : Int32 → Int32 → Hp → Prop, K = (fun x6 x8 h => lpN (fun (K : Int32 × Int32 × Hp → Prop) (s : Int32 × Int32 × Hp) => fX2_letThrough_72 a0 x2 x3 x5 x7 K42 Q (fun x6 x8 h => K (x6, x8, h)) s.1 s.2.1 s.2.2) N (x6, x8, h)) := ⟨_, rfl⟩
    have hw : fX2_letThrough_72 a0 x2 x3 x5 x7 K42 Q (fun x6 x8 h => lpN (fun (K : Int32 × Int32 × Hp → Prop) (s : Int32 × Int32 × Hp) => fX2_letThrough_72 a0 x2 x3 x5 x7 K42 Q (fun x6 x8 h => K (x6, x8, h)) s.1 s.2.1 s.2.2) N (x6, x8, h)) x6 x8 h := hw
    have hK72 : ∀ (x6 : Int32) (x8 : Int32) (h : Hp), K72 x6 x8 h → R0 G X 0 0 (ZM G (fun r h' => r = none ∧ Q h') X) 72 [some (.ref (G.1 a0)), none, some (.int x2), some (.int x3), none, some (.int x5), some (.int x6), some (.int x7), some (.int x8), none] [] h := fun x6 x8 h q => ih (by rw [eK] at q; exact q)
    rw [← eK] at hw
    clear eK ih
    unfold fX2_letThrough_72 at hw
    refine r_iload C dX2_letThrough_72 rfl ?_
    refine r_iload C dX2_letThrough_74 rfl ?_
    refine r_icmp_ge 113 C dX2_letThrough_76 (by decide) (fun hc => ?_) (fun hc => ?_)
    · replace hw := it_t hc hw
      refine r_aload_n C dX2_letThrough_113 rfl ?_
      refine r_dup C dX2_letThrough_114 rfl ?_
      refine gX2_77 C (k0) dX2_letThrough_115 ?_
      refine r_iconst (1) C dX2_letThrough_118 (by decide) ?_
      refine r_iadd C dX2_letThrough_119 ?_
      refine pX2_77 C (k0) dX2_letThrough_120 ?_
      refine r_toph (fun h1 eh1 => ?_)
      replace hw := hw h1 eh1
      obtain ⟨v2, ev2⟩ : ∃ v : Int32, v = x7 + (1 : Int32) := ⟨_, rfl⟩
      replace hw := hw v2 ev2
      refine r_iinc v2 [some (.ref (G.1 a0)), none, some (.int x2), some (.int x3), none, some (.int x5), some (.int x6), some (.int v2), some (.int x8), none] C dX2_letThrough_123 rfl (by rw [ev2]; rfl) rfl rfl ?_
      refine r_goto 42 C dX2_letThrough_126 (by decide) ?_
      refine r_weak [some (.ref (G.1 a0)), none, some (.int x2), some (.int x3), none, some (.int x5), some (.int x6), some (.int v2), none, none] (lw_k (lw_k (lw_k (lw_k (lw_k (lw_k (lw_k (lw_k (lw_d (lw_k (lw_n))))))))))) ?_
      exact hK42 _ _ _ hw
    · replace hw := it_f hc hw
      refine r_aload_n C dX2_letThrough_79 rfl ?_
      refine r_iload C dX2_letThrough_80 rfl ?_
      refine r_iload_n C dX2_letThrough_82 rfl ?_
      refine kX2_98 C (k0) (sX2_firstOf (k0) hw) dX2_letThrough_83 (Nat.le_of_ble_eq_true rfl) rfl (Nat.le_of_ble_eq_true rfl) (fun v3 hw => ?_)
      refine r_istore [some (.ref (G.1 a0)), none, some (.int x2), some (.int x3), none, some (.int x5), some (.int x6), some (.int x7), some (.int x8), some (.int v3)] C dX2_letThrough_86 (Nat.le_of_ble_eq_true rfl) rfl rfl ?_
      refine r_iload C dX2_letThrough_88 rfl ?_
      refine r_iconst (1) C dX2_letThrough_90 (by decide) ?_
      refine r_iload C dX2_letThrough_91 rfl ?_
      refine r_ishl C dX2_letThrough_93 ?_
      refine r_iconst (-1) C dX2_letThrough_94 (by decide) ?_
      refine r_ixor C dX2_letThrough_95 ?_
      refine r_iand C dX2_letThrough_96 ?_
      refine r_topi (fun v4 ev4 => ?_)
      replace hw := hw v4 ev4
      refine r_istore [some (.ref (G.1 a0)), none, some (.int x2), some (.int x3), none, some (.int x5), some (.int v4), some (.int x7), some (.int x8), some (.int v3)] C dX2_letThrough_97 (Nat.le_of_ble_eq_true rfl) rfl rfl ?_
      refine r_aload_n C dX2_letThrough_99 rfl ?_
      refine r_iload C dX2_letThrough_100 rfl ?_
      refine r_iload_n C dX2_letThrough_102 rfl ?_
      refine r_iload_n C dX2_letThrough_103 rfl ?_
      refine kX2_101 C (k0) (sX2_move (k0) hw) dX2_letThrough_104 (Nat.le_of_ble_eq_true rfl) rfl (Nat.le_of_ble_eq_true rfl) (fun h6 hw => ?_)
      obtain ⟨v7, ev7⟩ : ∃ v : Int32, v = x8 + (1 : Int32) := ⟨_, rfl⟩
      replace hw := hw v7 ev7
      refine r_iinc v7 [some (.ref (G.1 a0)), none, some (.int x2), some (.int x3), none, some (.int x5), some (.int v4), some (.int x7), some (.int v7), some (.int v3)] C dX2_letThrough_107 rfl (by rw [ev7]; rfl) rfl rfl ?_
      refine r_goto 72 C dX2_letThrough_110 (by decide) ?_
      refine r_weak [some (.ref (G.1 a0)), none, some (.int x2), some (.int x3), none, some (.int x5), some (.int v4), some (.int x7), some (.int v7), none] (lw_k (lw_k (lw_k (lw_k (lw_k (lw_k (lw_k (lw_k (lw_k (lw_d (lw_n))))))))))) ?_
      exact hK72 _ _ _ hw
def fX2_letThrough_42 (a0 : Nat) (x2 : Int32) (x3 : Int32) (x5 : Int32) (Q : Hp → Prop) (K42 : Int32 → Int32 → Hp → Prop) (x6 : Int32) (x7 : Int32) (h : Hp) : Prop :=
  if (12 : Int32) ≤ x7 then (Q h) else (wJ6_bitCount_0f7a4 x6 h (fun v1 => if v1 < x5 then (Q h) else (wX2_isLet a0 x2 x5 h (fun v2 => if v2 = 0 then (Q h) else (eX2_letThrough_72 a0 x2 x3 x5 x7 K42 Q x6 (0 : Int32) h)))))
def eX2_letThrough_42 (a0 : Nat) (x2 : Int32) (x3 : Int32) (x5 : Int32) (Q : Hp → Prop) (x6 : Int32) (x7 : Int32) (h : Hp) : Prop := ∃ N, lpN (fun (K : Int32 × Int32 × Hp → Prop) (s : Int32 × Int32 × Hp) => fX2_letThrough_42 a0 x2 x3 x5 Q (fun x6 x7 h => K (x6, x7, h)) s.1 s.2.1 s.2.2) N (x6, x7, h)
theorem iX2_letThrough_42 {a0 : Nat} {x2 : Int32} {x3 : Int32} {x5 : Int32} {Q : Hp → Prop} (I : Int32 → Int32 → Hp → Prop) (μ : Int32 → Int32 → Hp → Nat) (hs : ∀ (x6 : Int32) (x7 : Int32) (h : Hp), I x6 x7 h → ∀ K : Int32 → Int32 → Hp → Prop, (∀ (x6' : Int32) (x7' : Int32) (h' : Hp), I x6' x7' h' → μ x6' x7' h' < μ x6 x7 h → K x6' x7' h') → fX2_letThrough_42 a0 x2 x3 x5 Q K x6 x7 h) : ∀ (x6 : Int32) (x7 : Int32) (h : Hp), I x6 x7 h → eX2_letThrough_42 a0 x2 x3 x5 Q x6 x7 h := fun x6 x7 h hI => lp_ind (fun s => I s.1 s.2.1 s.2.2) (fun s => μ s.1 s.2.1 s.2.2) (fun s hs' K hK => hs s.1 s.2.1 s.2.2 hs' _ (fun x6' x7' h' h1 h2 => hK (x6', x7', h') h1 h2)) (x6, x7, h) hI
set_option maxRecDepth 20000 in
theorem tX2_letThrough_42 {G : GG} {X : XX} {a0 : Nat} {x2 : Int32} {x3 : Int32} {x5 : Int32} {x6 : Int32} {x7 : Int32} {h : Hp}  {Q : Hp → Prop} (C : Cx G RX2 cX2_letThrough 10 none 4 0 0 X) (k0 : kd a0 = 2) (hw : eX2_letThrough_42 a0 x2 x3 x5 Q x6 x7 h) : R0 G X 0 0 (ZM G (fun r h' => r = none ∧ Q h') X) 42 [some (.ref (G.1 a0)), none, some (.int x2), some (.int x3), none, some (.int x5), some (.int x6), some (.int x7), none, none] [] h := by
  obtain ⟨N, hw⟩ := hw
  induction N generalizing x6 x7 h with
  | zero => exact hw.elim
  | succ N ih =>
    obtain ⟨K42, eK⟩ : ∃ K : Int32 → Int32 → Hp → Prop, K = (fun x6 x7 h => lpN (fun (K : Int32 × Int32 × Hp → Prop) (s : Int32 × Int32 × Hp) => fX2_letThrough_42 a0 x2 x3 x5 Q (fun x6 x7 h => K (x6, x7, h)) s.1 s.2.1 s.2.2) N (x6, x7, h)) := ⟨_, rfl⟩
    have hw : fX2_letThrough_42 a0 x2 x3 x5 Q (fun x6 x7 h => lpN (fun (K : Int32 × Int32 × Hp → Prop) (s : Int32 × Int32 × Hp) => fX2_letThrough_42 a0 x2 x3 x5 Q (fun x6 x7 h => K (x6, x7, h)) s.1 s.2.1 s.2.2) N (x6, x7, h)) x6 x7 h := hw
    have hK42 : ∀ (x6 : Int32) (x7 : Int32) (h : Hp), K42 x6 x7 h → R0 G X 0 0 (ZM G (fun r h' => r = none ∧ Q h') X) 42 [some (.ref (G.1 a0)), none, some (.int x2), some (.int x3), none, some (.int x5), some (.int x6), some (.int x7), none, none] [] h := fun x6 x7 h q => ih (by rw [eK] at q; exact q)
    rw [← eK] at hw
    clear eK ih
    unfold fX2_letThrough_42 at hw
    refine r_iload C dX2_letThrough_42 rfl ?_
    refine r_bipush (12) C dX2_letThrough_44 (by decide) ?_
    refine r_icmp_ge 129 C dX2_letThrough_46 (by decide) (fun hc => ?_) (fun hc => ?_)
    · replace hw := it_t hc hw
      exact r_vret C dX2_letThrough_129 ⟨rfl, hw⟩
    · replace hw := it_f hc hw
      refine r_iload C dX2_letThrough_49 rfl ?_
      refine kX2_83 C (sJ6_bitCount_0f7a4 hw) dX2_letThrough_51 (Nat.le_of_ble_eq_true rfl) rfl (Nat.le_of_ble_eq_true rfl) (fun v1 hw => ?_)
      refine r_iload C dX2_letThrough_54 rfl ?_
      refine r_icmp_lt 129 C dX2_letThrough_56 (by decide) (fun hc => ?_) (fun hc => ?_)
      · replace hw := it_t hc hw
        exact r_vret C dX2_letThrough_129 ⟨rfl, hw⟩
      · replace hw := it_f hc hw
        refine r_aload_n C dX2_letThrough_59 rfl ?_
        refine r_iload_n C dX2_letThrough_60 rfl ?_
        refine r_iload C dX2_letThrough_61 rfl ?_
        refine kX2_94 C (k0) (sX2_isLet (k0) hw) dX2_letThrough_63 (Nat.le_of_ble_eq_true rfl) rfl (Nat.le_of_ble_eq_true rfl) (fun v2 hw => ?_)
        refine r_if_eq 129 C dX2_letThrough_66 (by decide) (fun hc => ?_) (fun hc => ?_)
        · replace hw := it_t hc hw
          exact r_vret C dX2_letThrough_129 ⟨rfl, hw⟩
        · replace hw := it_f hc hw
          refine r_iconst (0) C dX2_letThrough_69 (by decide) ?_
          refine r_istore [some (.ref (G.1 a0)), none, some (.int x2), some (.int x3), none, some (.int x5), some (.int x6), some (.int x7), some (.int (0 : Int32)), none] C dX2_letThrough_70 (Nat.le_of_ble_eq_true rfl) rfl rfl ?_
          exact tX2_letThrough_72 C (k0) hK42 hw
def wX2_letThrough (a0 : Nat) (x1 : Int32) (x2 : Int32) (x3 : Int32) (x4 : Int32) (h : Hp) (Q : Hp → Prop) : Prop :=
  wX4_numberOf (rf a0 0) x1 h (fun v1 => wJ6_bitCount_0f7a4 x4 h (fun v2 => if v1 ≤ v2 then (wX6_lettingOf (rf a0 2) (rf a0 1) x4 x1 x2 x3 h (fun v3 h4 => eX2_letThrough_42 a0 x2 x3 v1 Q v3 (0 : Int32) h4)) else (Q h)))
set_option maxRecDepth 20000 in
theorem sX2_letThrough {G : GG} {a0 : Nat} {x1 : Int32} {x2 : Int32} {x3 : Int32} {x4 : Int32} {h : Hp} {Q : Hp → Prop} (k0 : kd a0 = 2) (hw : wX2_letThrough a0 x1 x2 x3 x4 h Q) : CV G 4 yX2_letThrough cX2_letThrough 10 none [.ref (G.1 a0), .int x1, .int x2, .int x3, .int x4] h Q := by
  refine CO_of [some (.ref (G.1 a0)), some (.int x1), some (.int x2), some (.int x3), some (.int x4), none, none, none, none, none] (by decide) (Nat.le_of_ble_eq_true rfl) rfl (fun X C => ?_)
  unfold wX2_letThrough at hw
  refine r_aload_n C dX2_letThrough_0 rfl ?_
  refine gX2_18 C (k0) dX2_letThrough_1 ?_
  refine r_iload_n C dX2_letThrough_4 rfl ?_
  refine kX2_80 C (kr2_0 (k0)) (sX4_numberOf (kr2_0 (k0)) hw) dX2_letThrough_5 (Nat.le_of_ble_eq_true rfl) rfl (Nat.le_of_ble_eq_true rfl) (fun v1 hw => ?_)
  refine r_istore [some (.ref (G.1 a0)), some (.int x1), some (.int x2), some (.int x3), some (.int x4), some (.int v1), none, none, none, none] C dX2_letThrough_8 (Nat.le_of_ble_eq_true rfl) rfl rfl ?_
  refine r_iload C dX2_letThrough_10 rfl ?_
  refine kX2_83 C (sJ6_bitCount_0f7a4 hw) dX2_letThrough_12 (Nat.le_of_ble_eq_true rfl) rfl (Nat.le_of_ble_eq_true rfl) (fun v2 hw => ?_)
  refine r_iload C dX2_letThrough_15 rfl ?_
  refine r_icmp_ge 21 C dX2_letThrough_17 (by decide) (fun hc => ?_) (fun hc => ?_)
  · replace hw := it_t hc hw
    refine r_aload_n C dX2_letThrough_21 rfl ?_
    refine gX2_26 C (k0) dX2_letThrough_22 ?_
    refine r_aload_n C dX2_letThrough_25 rfl ?_
    refine gX2_22 C (k0) dX2_letThrough_26 ?_
    refine r_iload C dX2_letThrough_29 rfl ?_
    refine r_iload_n C dX2_letThrough_31 rfl ?_
    refine r_iload_n C dX2_letThrough_32 rfl ?_
    refine r_iload_n C dX2_letThrough_33 rfl ?_
    refine kX2_88 C (kr2_2 (k0)) (sX6_lettingOf (kr2_2 (k0)) (kr2_1 (k0)) hw) dX2_letThrough_34 (Nat.le_of_ble_eq_true rfl) rfl (Nat.le_of_ble_eq_true rfl) (fun v3 h4 hw => ?_)
    refine r_istore [some (.ref (G.1 a0)), some (.int x1), some (.int x2), some (.int x3), some (.int x4), some (.int v1), some (.int v3), none, none, none] C dX2_letThrough_37 (Nat.le_of_ble_eq_true rfl) rfl rfl ?_
    refine r_iconst (0) C dX2_letThrough_39 (by decide) ?_
    refine r_istore [some (.ref (G.1 a0)), some (.int x1), some (.int x2), some (.int x3), some (.int x4), some (.int v1), some (.int v3), some (.int (0 : Int32)), none, none] C dX2_letThrough_40 (Nat.le_of_ble_eq_true rfl) rfl rfl ?_
    refine r_weak [some (.ref (G.1 a0)), none, some (.int x2), some (.int x3), none, some (.int v1), some (.int v3), some (.int (0 : Int32)), none, none] (lw_k (lw_d (lw_k (lw_k (lw_d (lw_k (lw_k (lw_k (lw_k (lw_k (lw_n))))))))))) ?_
    exact tX2_letThrough_42 C (k0) hw
  · replace hw := it_f hc hw
    exact r_vret C dX2_letThrough_20 ⟨rfl, hw⟩
def wX8_waitingIn (a0 : Nat) (x1 : Int32) (x2 : Int32) (h : Hp) (Q : Int32 → Prop) : Prop :=
  if x2 = 0 then (Q (0 : Int32)) else (wX8_dueBy a0 (rf a0 1) x1 h (fun v1 => Q (v1 &&& x2)))
set_option maxRecDepth 20000 in
theorem sX8_waitingIn {G : GG} {a0 : Nat} {x1 : Int32} {x2 : Int32} {h : Hp} {Q : Int32 → Prop} (k0 : kd a0 = 8) (hw : wX8_waitingIn a0 x1 x2 h Q) : PI G 1 yX8_waitingIn cX8_waitingIn 3 (some .int) [.ref (G.1 a0), .int x1, .int x2] h Q := by
  refine CO_of [some (.ref (G.1 a0)), some (.int x1), some (.int x2)] (by decide) (Nat.le_of_ble_eq_true rfl) rfl (fun X C => ?_)
  unfold wX8_waitingIn at hw
  refine r_iload_n C dX8_waitingIn_0 rfl ?_
  refine r_if_ne 8 C dX8_waitingIn_1 (by decide) (fun hc => ?_) (fun hc => ?_)
  · replace hw := it_f hc hw
    refine r_aload_n C dX8_waitingIn_8 rfl ?_
    refine r_aload_n C dX8_waitingIn_9 rfl ?_
    refine gX8_15 C (k0) dX8_waitingIn_10 ?_
    refine r_iload_n C dX8_waitingIn_13 rfl ?_
    refine kX8_29 C (k0) (sX8_dueBy (k0) (kr8_1 (k0)) hw) dX8_waitingIn_14 (Nat.le_of_ble_eq_true rfl) rfl (Nat.le_of_ble_eq_true rfl) (fun v1 hw => ?_)
    refine r_iload_n C dX8_waitingIn_17 rfl ?_
    refine r_iand C dX8_waitingIn_18 ?_
    exact r_iret C dX8_waitingIn_19 ⟨_, rfl, rfl, hw⟩
  · replace hw := it_t hc hw
    refine r_iconst (0) C dX8_waitingIn_4 (by decide) ?_
    refine r_goto 19 C dX8_waitingIn_5 (by decide) ?_
    exact r_iret C dX8_waitingIn_19 ⟨_, rfl, rfl, hw⟩
def fX8_costOf_4 (a0 : Nat) (x1 : Int32) (h : Hp) (Q : Int32 → Prop) (K4 : Int32 → Int32 → Prop) (x2 : Int32) (x3 : Int32) : Prop :=
  if (gI h a0 3) ≤ x3 then (Q x2) else (wX11_bit x1 x3 h (fun v1 => if v1 = 0 then (∀ v2 : Int32, v2 = x3 + (1 : Int32) → (K4 x2 v2)) else (vp_in x3 (ln (rf a0 2)) ∧ (∀ v4 : Int32, v4 = (x2 + (gI h (rf a0 2) x3.toNatClampNeg)) → (∀ v5 : Int32, v5 = x3 + (1 : Int32) → (K4 v4 v5))))))
def eX8_costOf_4 (a0 : Nat) (x1 : Int32) (h : Hp) (Q : Int32 → Prop) (x2 : Int32) (x3 : Int32) : Prop := ∃ N, lpN (fun (K : Int32 × Int32 → Prop) (s : Int32 × Int32) => fX8_costOf_4 a0 x1 h Q (fun x2 x3 => K (x2, x3)) s.1 s.2) N (x2, x3)
theorem iX8_costOf_4 {a0 : Nat} {x1 : Int32} {h : Hp} {Q : Int32 → Prop} (I : Int32 → Int32 → Prop) (μ : Int32 → Int32 → Nat) (hs : ∀ (x2 : Int32) (x3 : Int32), I x2 x3 → ∀ K : Int32 → Int32 → Prop, (∀ (x2' : Int32) (x3' : Int32), I x2' x3' → μ x2' x3' < μ x2 x3 → K x2' x3') → fX8_costOf_4 a0 x1 h Q K x2 x3) : ∀ (x2 : Int32) (x3 : Int32), I x2 x3 → eX8_costOf_4 a0 x1 h Q x2 x3 := fun x2 x3 hI => lp_ind (fun s => I s.1 s.2) (fun s => μ s.1 s.2) (fun s hs' K hK => hs s.1 s.2 hs' _ (fun x2' x3' h1 h2 => hK (x2', x3') h1 h2)) (x2, x3) hI
set_option maxRecDepth 20000 in
theorem tX8_costOf_4 {G : GG} {X : XX} {a0 : Nat} {x1 : Int32} {x2 : Int32} {x3 : Int32} {h : Hp}  {Q : Int32 → Prop} (C : Cx G RX8 cX8_costOf 4 (some .int) 1 0 0 X) (k0 : kd a0 = 8) (hw : eX8_costOf_4 a0 x1 h Q x2 x3) : R0 G X 0 0 (ZM G (fun r h' => ∃ v, r = some (.int v) ∧ h' = h ∧ Q v) X) 4 [some (.ref (G.1 a0)), some (.int x1), some (.int x2), some (.int x3)] [] h := by
  obtain ⟨N, hw⟩ := hw
  induction N generalizing x2 x3 with
  | zero => exact hw.elim
  | succ N ih =>
    obtain ⟨K4, eK⟩ : ∃ K : Int32 → Int32 → Prop, K = (fun x2 x3 => lpN (fun (K : Int32 × Int32 → Prop) (s : Int32 × Int32) => fX8_costOf_4 a0 x1 h Q (fun x2 x3 => K (x2, x3)) s.1 s.2) N (x2, x3)) := ⟨_, rfl⟩
    have hw : fX8_costOf_4 a0 x1 h Q (fun x2 x3 => lpN (fun (K : Int32 × Int32 → Prop) (s : Int32 × Int32) => fX8_costOf_4 a0 x1 h Q (fun x2 x3 => K (x2, x3)) s.1 s.2) N (x2, x3)) x2 x3 := hw
    have hK4 : ∀ (x2 : Int32) (x3 : Int32), K4 x2 x3 → R0 G X 0 0 (ZM G (fun r h' => ∃ v, r = some (.int v) ∧ h' = h ∧ Q v) X) 4 [some (.ref (G.1 a0)), some (.int x1), some (.int x2), some (.int x3)] [] h := fun x2 x3 q => ih (by rw [eK] at q; exact q)
    rw [← eK] at hw
    clear eK ih
    unfold fX8_costOf_4 at hw
    refine r_iload_n C dX8_costOf_4 rfl ?_
    refine r_aload_n C dX8_costOf_5 rfl ?_
    refine gX8_25 C (k0) dX8_costOf_6 ?_
    refine r_icmp_ge 35 C dX8_costOf_9 (by decide) (fun hc => ?_) (fun hc => ?_)
    · replace hw := it_t hc hw
      refine r_iload_n C dX8_costOf_35 rfl ?_
      exact r_iret C dX8_costOf_36 ⟨_, rfl, rfl, hw⟩
    · replace hw := it_f hc hw
      refine r_iload_n C dX8_costOf_12 rfl ?_
      refine r_iload_n C dX8_costOf_13 rfl ?_
      refine kX8_33 C (sX11_bit hw) dX8_costOf_14 (Nat.le_of_ble_eq_true rfl) rfl (Nat.le_of_ble_eq_true rfl) (fun v1 hw => ?_)
      refine r_if_eq 29 C dX8_costOf_17 (by decide) (fun hc => ?_) (fun hc => ?_)
      · replace hw := it_t hc hw
        obtain ⟨v2, ev2⟩ : ∃ v : Int32, v = x3 + (1 : Int32) := ⟨_, rfl⟩
        replace hw := hw v2 ev2
        refine r_iinc v2 [some (.ref (G.1 a0)), some (.int x1), some (.int x2), some (.int v2)] C dX8_costOf_29 rfl (by rw [ev2]; rfl) rfl rfl ?_
        refine r_goto 4 C dX8_costOf_32 (by decide) ?_
        exact hK4 _ _ hw
      · replace hw := it_f hc hw
        refine r_iload_n C dX8_costOf_20 rfl ?_
        refine r_aload_n C dX8_costOf_21 rfl ?_
        refine gX8_18 C (k0) dX8_costOf_22 ?_
        refine r_iload_n C dX8_costOf_25 rfl ?_
        obtain ⟨hi3, hw⟩ := hw
        refine r_iald C (kr8_2 (k0)) hi3 dX8_costOf_26 ?_
        refine r_iadd C dX8_costOf_27 ?_
        refine r_topi (fun v4 ev4 => ?_)
        replace hw := hw v4 ev4
        refine r_istore_n [some (.ref (G.1 a0)), some (.int x1), some (.int v4), some (.int x3)] C dX8_costOf_28 (Nat.le_of_ble_eq_true rfl) rfl rfl ?_
        obtain ⟨v5, ev5⟩ : ∃ v : Int32, v = x3 + (1 : Int32) := ⟨_, rfl⟩
        replace hw := hw v5 ev5
        refine r_iinc v5 [some (.ref (G.1 a0)), some (.int x1), some (.int v4), some (.int v5)] C dX8_costOf_29 rfl (by rw [ev5]; rfl) rfl rfl ?_
        refine r_goto 4 C dX8_costOf_32 (by decide) ?_
        exact hK4 _ _ hw
def wX8_costOf (a0 : Nat) (x1 : Int32) (h : Hp) (Q : Int32 → Prop) : Prop :=
  eX8_costOf_4 a0 x1 h Q (0 : Int32) (0 : Int32)
set_option maxRecDepth 20000 in
theorem sX8_costOf {G : GG} {a0 : Nat} {x1 : Int32} {h : Hp} {Q : Int32 → Prop} (k0 : kd a0 = 8) (hw : wX8_costOf a0 x1 h Q) : PI G 1 yX8_costOf cX8_costOf 4 (some .int) [.ref (G.1 a0), .int x1] h Q := by
  refine CO_of [some (.ref (G.1 a0)), some (.int x1), none, none] (by decide) (Nat.le_of_ble_eq_true rfl) rfl (fun X C => ?_)
  unfold wX8_costOf at hw
  refine r_iconst (0) C dX8_costOf_0 (by decide) ?_
  refine r_istore_n [some (.ref (G.1 a0)), some (.int x1), some (.int (0 : Int32)), none] C dX8_costOf_1 (Nat.le_of_ble_eq_true rfl) rfl rfl ?_
  refine r_iconst (0) C dX8_costOf_2 (by decide) ?_
  refine r_istore_n [some (.ref (G.1 a0)), some (.int x1), some (.int (0 : Int32)), some (.int (0 : Int32))] C dX8_costOf_3 (Nat.le_of_ble_eq_true rfl) rfl rfl ?_
  exact tX8_costOf_4 C (k0) hw
def fX2_goThrough_15 (a0 : Nat) (x2 : Int32) (K7 : Int32 → Hp → Prop) (Q : Hp → Prop) (K15 : Int32 → Hp → Prop) (x3 : Int32) (h : Hp) : Prop :=
  if (gI h (rf a0 0) 1) ≤ x3 then (wX8_waitingOut (rf a0 1) x2 (gI h a0 7) h (fun v1 => wX8_waitingIn (rf a0 1) x2 (gI h a0 8) h (fun v2 => wX8_costOf (rf a0 1) (v1 ||| v2) h (fun v3 => ∀ h4 : Hp, h4 = sI h a0 9 ((gI h a0 9) + v3) → (∀ v5 : Int32, v5 = x2 + (1 : Int32) → (K7 v5 h4)))))) else (wX8_waitingOut (rf a0 1) x2 (gI h a0 7) h (fun v6 => wX2_letThrough a0 x3 (0 : Int32) x2 v6 h (fun h8 => wX8_waitingIn (rf a0 1) x2 (gI h8 a0 8) h8 (fun v9 => wX2_letThrough a0 x3 (1 : Int32) x2 v9 h8 (fun h11 => ∀ v12 : Int32, v12 = x3 + (1 : Int32) → (K15 v12 h11))))))
def eX2_goThrough_15 (a0 : Nat) (x2 : Int32) (K7 : Int32 → Hp → Prop) (Q : Hp → Prop) (x3 : Int32) (h : Hp) : Prop := ∃ N, lpN (fun (K : Int32 × Hp → Prop) (s : Int32 × Hp) => fX2_goThrough_15 a0 x2 K7 Q (fun x3 h => K (x3, h)) s.1 s.2) N (x3, h)
theorem iX2_goThrough_15 {a0 : Nat} {x2 : Int32} {K7 : Int32 → Hp → Prop} {Q : Hp → Prop} (I : Int32 → Hp → Prop) (μ : Int32 → Hp → Nat) (hs : ∀ (x3 : Int32) (h : Hp), I x3 h → ∀ K : Int32 → Hp → Prop, (∀ (x3' : Int32) (h' : Hp), I x3' h' → μ x3' h' < μ x3 h → K x3' h') → fX2_goThrough_15 a0 x2 K7 Q K x3 h) : ∀ (x3 : Int32) (h : Hp), I x3 h → eX2_goThrough_15 a0 x2 K7 Q x3 h := fun x3 h hI => lp_ind (fun s => I s.1 s.2) (fun s => μ s.1 s.2) (fun s hs' K hK => hs s.1 s.2 hs' _ (fun x3' h' h1 h2 => hK (x3', h') h1 h2)) (x3, h) hI
set_option maxRecDepth 20000 in
theorem tX2_goThrough_15 {G : GG} {X : XX} {a0 : Nat} {x2 : Int32} {x3 : Int32} {h : Hp}  {K7 : Int32 → Hp → Prop} {Q : Hp → Prop} (C : Cx G RX2 cX2_goThrough 4 none 5 0 0 X) (k0 : kd a0 = 2) (hK7 : ∀ (y2 : Int32) (h' : Hp), K7 y2 h' → R0 G X 0 0 (ZM G (fun r h' => r = none ∧ Q h') X) 7 [some (.ref (G.1 a0)), none, some (.int y2), none] [] h') (hw : eX2_goThrough_15 a0 x2 K7 Q x3 h) : R0 G X 0 0 (ZM G (fun r h' => r = none ∧ Q h') X) 15 [some (.ref (G.1 a0)), none, some (.int x2), some (.int x3)] [] h := by
  obtain ⟨N, hw⟩ := hw
  induction N generalizing x3 h with
  | zero => exact hw.elim
  | succ N ih =>
    obtain ⟨K15, eK⟩ : ∃ K : Int32 → Hp → Prop, K = (fun x3 h => lpN (fun (K : Int32 × Hp → Prop) (s : Int32 × Hp) => fX2_goThrough_15 a0 x2 K7 Q (fun x3 h => K (x3, h)) s.1 s.2) N (x3, h)) := ⟨_, rfl⟩
    have hw : fX2_goThrough_15 a0 x2 K7 Q (fun x3 h => lpN (fun (K : Int32 × Hp → Prop) (s : Int32 × Hp) => fX2_goThrough_15 a0 x2 K7 Q (fun x3 h => K (x3, h)) s.1 s.2) N (x3, h)) x3 h := hw
    have hK15 : ∀ (x3 : Int32) (h : Hp), K15 x3 h → R0 G X 0 0 (ZM G (fun r h' => r = none ∧ Q h') X) 15 [some (.ref (G.1 a0)), none, some (.int x2), some (.int x3)] [] h := fun x3 h q => ih (by rw [eK] at q; exact q)
    rw [← eK] at hw
    clear eK ih
    unfold fX2_goThrough_15 at hw
    refine r_iload_n C dX2_goThrough_15 rfl ?_
    refine r_aload_n C dX2_goThrough_16 rfl ?_
    refine gX2_18 C (k0) dX2_goThrough_17 ?_
    refine gX2_34 C (kr2_0 (k0)) dX2_goThrough_20 ?_
    refine r_icmp_ge 70 C dX2_goThrough_23 (by decide) (fun hc => ?_) (fun hc => ?_)
    · replace hw := it_t hc hw
      refine r_aload_n C dX2_goThrough_70 rfl ?_
      refine r_dup C dX2_goThrough_71 rfl ?_
      refine gX2_59 C (k0) dX2_goThrough_72 ?_
      refine r_aload_n C dX2_goThrough_75 rfl ?_
      refine gX2_22 C (k0) dX2_goThrough_76 ?_
      refine r_aload_n C dX2_goThrough_79 rfl ?_
      refine gX2_22 C (k0) dX2_goThrough_80 ?_
      refine r_iload_n C dX2_goThrough_83 rfl ?_
      refine r_aload_n C dX2_goThrough_84 rfl ?_
      refine gX2_40 C (k0) dX2_goThrough_85 ?_
      refine kX2_43 C (kr2_1 (k0)) (sX8_waitingOut (kr2_1 (k0)) hw) dX2_goThrough_88 (Nat.le_of_ble_eq_true rfl) rfl (Nat.le_of_ble_eq_true rfl) (fun v1 hw => ?_)
      refine r_aload_n C dX2_goThrough_91 rfl ?_
      refine gX2_22 C (k0) dX2_goThrough_92 ?_
      refine r_iload_n C dX2_goThrough_95 rfl ?_
      refine r_aload_n C dX2_goThrough_96 rfl ?_
      refine gX2_53 C (k0) dX2_goThrough_97 ?_
      refine kX2_56 C (kr2_1 (k0)) (sX8_waitingIn (kr2_1 (k0)) hw) dX2_goThrough_100 (Nat.le_of_ble_eq_true rfl) rfl (Nat.le_of_ble_eq_true rfl) (fun v2 hw => ?_)
      refine r_ior C dX2_goThrough_103 ?_
      refine kX2_62 C (kr2_1 (k0)) (sX8_costOf (kr2_1 (k0)) hw) dX2_goThrough_104 (Nat.le_of_ble_eq_true rfl) rfl (Nat.le_of_ble_eq_true rfl) (fun v3 hw => ?_)
      refine r_iadd C dX2_goThrough_107 ?_
      refine pX2_59 C (k0) dX2_goThrough_108 ?_
      refine r_toph (fun h4 eh4 => ?_)
      replace hw := hw h4 eh4
      obtain ⟨v5, ev5⟩ : ∃ v : Int32, v = x2 + (1 : Int32) := ⟨_, rfl⟩
      replace hw := hw v5 ev5
      refine r_iinc v5 [some (.ref (G.1 a0)), none, some (.int v5), some (.int x3)] C dX2_goThrough_111 rfl (by rw [ev5]; rfl) rfl rfl ?_
      refine r_goto 7 C dX2_goThrough_114 (by decide) ?_
      refine r_weak [some (.ref (G.1 a0)), none, some (.int v5), none] (lw_k (lw_k (lw_k (lw_d (lw_n))))) ?_
      exact hK7 _ _ hw
    · replace hw := it_f hc hw
      refine r_aload_n C dX2_goThrough_26 rfl ?_
      refine r_iload_n C dX2_goThrough_27 rfl ?_
      refine r_iconst (0) C dX2_goThrough_28 (by decide) ?_
      refine r_iload_n C dX2_goThrough_29 rfl ?_
      refine r_aload_n C dX2_goThrough_30 rfl ?_
      refine gX2_22 C (k0) dX2_goThrough_31 ?_
      refine r_iload_n C dX2_goThrough_34 rfl ?_
      refine r_aload_n C dX2_goThrough_35 rfl ?_
      refine gX2_40 C (k0) dX2_goThrough_36 ?_
      refine kX2_43 C (kr2_1 (k0)) (sX8_waitingOut (kr2_1 (k0)) hw) dX2_goThrough_39 (Nat.le_of_ble_eq_true rfl) rfl (Nat.le_of_ble_eq_true rfl) (fun v6 hw => ?_)
      refine kX2_49 C (k0) (sX2_letThrough (k0) hw) dX2_goThrough_42 (Nat.le_of_ble_eq_true rfl) rfl (Nat.le_of_ble_eq_true rfl) (fun h8 hw => ?_)
      refine r_aload_n C dX2_goThrough_45 rfl ?_
      refine r_iload_n C dX2_goThrough_46 rfl ?_
      refine r_iconst (1) C dX2_goThrough_47 (by decide) ?_
      refine r_iload_n C dX2_goThrough_48 rfl ?_
      refine r_aload_n C dX2_goThrough_49 rfl ?_
      refine gX2_22 C (k0) dX2_goThrough_50 ?_
      refine r_iload_n C dX2_goThrough_53 rfl ?_
      refine r_aload_n C dX2_goThrough_54 rfl ?_
      refine gX2_53 C (k0) dX2_goThrough_55 ?_
      refine kX2_56 C (kr2_1 (k0)) (sX8_waitingIn (kr2_1 (k0)) hw) dX2_goThrough_58 (Nat.le_of_ble_eq_true rfl) rfl (Nat.le_of_ble_eq_true rfl) (fun v9 hw => ?_)
      refine kX2_49 C (k0) (sX2_letThrough (k0) hw) dX2_goThrough_61 (Nat.le_of_ble_eq_true rfl) rfl (Nat.le_of_ble_eq_true rfl) (fun h11 hw => ?_)
      obtain ⟨v12, ev12⟩ : ∃ v : Int32, v = x3 + (1 : Int32) := ⟨_, rfl⟩
      replace hw := hw v12 ev12
      refine r_iinc v12 [some (.ref (G.1 a0)), none, some (.int x2), some (.int v12)] C dX2_goThrough_64 rfl (by rw [ev12]; rfl) rfl rfl ?_
      refine r_goto 15 C dX2_goThrough_67 (by decide) ?_
      exact hK15 _ _ hw
def fX2_goThrough_7 (a0 : Nat) (Q : Hp → Prop) (K7 : Int32 → Hp → Prop) (x2 : Int32) (h : Hp) : Prop :=
  if (60 : Int32) ≤ x2 then (Q h) else (eX2_goThrough_15 a0 x2 K7 Q (0 : Int32) h)
def eX2_goThrough_7 (a0 : Nat) (Q : Hp → Prop) (x2 : Int32) (h : Hp) : Prop := ∃ N, lpN (fun (K : Int32 × Hp → Prop) (s : Int32 × Hp) => fX2_goThrough_7 a0 Q (fun x2 h => K (x2, h)) s.1 s.2) N (x2, h)
theorem iX2_goThrough_7 {a0 : Nat} {Q : Hp → Prop} (I : Int32 → Hp → Prop) (μ : Int32 → Hp → Nat) (hs : ∀ (x2 : Int32) (h : Hp), I x2 h → ∀ K : Int32 → Hp → Prop, (∀ (x2' : Int32) (h' : Hp), I x2' h' → μ x2' h' < μ x2 h → K x2' h') → fX2_goThrough_7 a0 Q K x2 h) : ∀ (x2 : Int32) (h : Hp), I x2 h → eX2_goThrough_7 a0 Q x2 h := fun x2 h hI => lp_ind (fun s => I s.1 s.2) (fun s => μ s.1 s.2) (fun s hs' K hK => hs s.1 s.2 hs' _ (fun x2' h' h1 h2 => hK (x2', h') h1 h2)) (x2, h) hI
set_option maxRecDepth 20000 in
theorem tX2_goThrough_7 {G : GG} {X : XX} {a0 : Nat} {x2 : Int32} {h : Hp}  {Q : Hp → Prop} (C : Cx G RX2 cX2_goThrough 4 none 5 0 0 X) (k0 : kd a0 = 2) (hw : eX2_goThrough_7 a0 Q x2 h) : R0 G X 0 0 (ZM G (fun r h' => r = none ∧ Q h') X) 7 [some (.ref (G.1 a0)), none, some (.int x2), none] [] h := by
  obtain ⟨N, hw⟩ := hw
  induction N generalizing x2 h with
  | zero => exact hw.elim
  | succ N ih =>
    obtain ⟨K7, eK⟩ : ∃ K : Int32 → Hp → Prop, K = (fun x2 h => lpN (fun (K : Int32 × Hp → Prop) (s : Int32 × Hp) => fX2_goThrough_7 a0 Q (fun x2 h => K (x2, h)) s.1 s.2) N (x2, h)) := ⟨_, rfl⟩
    have hw : fX2_goThrough_7 a0 Q (fun x2 h => lpN (fun (K : Int32 × Hp → Prop) (s : Int32 × Hp) => fX2_goThrough_7 a0 Q (fun x2 h => K (x2, h)) s.1 s.2) N (x2, h)) x2 h := hw
    have hK7 : ∀ (x2 : Int32) (h : Hp), K7 x2 h → R0 G X 0 0 (ZM G (fun r h' => r = none ∧ Q h') X) 7 [some (.ref (G.1 a0)), none, some (.int x2), none] [] h := fun x2 h q => ih (by rw [eK] at q; exact q)
    rw [← eK] at hw
    clear eK ih
    unfold fX2_goThrough_7 at hw
    refine r_iload_n C dX2_goThrough_7 rfl ?_
    refine r_bipush (60) C dX2_goThrough_8 (by decide) ?_
    refine r_icmp_ge 117 C dX2_goThrough_10 (by decide) (fun hc => ?_) (fun hc => ?_)
    · replace hw := it_t hc hw
      exact r_vret C dX2_goThrough_117 ⟨rfl, hw⟩
    · replace hw := it_f hc hw
      refine r_iconst (0) C dX2_goThrough_13 (by decide) ?_
      refine r_istore_n [some (.ref (G.1 a0)), none, some (.int x2), some (.int (0 : Int32))] C dX2_goThrough_14 (Nat.le_of_ble_eq_true rfl) rfl rfl ?_
      exact tX2_goThrough_15 C (k0) hK7 hw
def wX2_goThrough (a0 : Nat) (x1 : Int32) (h : Hp) (Q : Hp → Prop) : Prop :=
  wX2_begin a0 x1 h (fun h2 => eX2_goThrough_7 a0 Q (0 : Int32) h2)
set_option maxRecDepth 20000 in
theorem sX2_goThrough {G : GG} {a0 : Nat} {x1 : Int32} {h : Hp} {Q : Hp → Prop} (k0 : kd a0 = 2) (hw : wX2_goThrough a0 x1 h Q) : CV G 5 yX2_goThrough cX2_goThrough 4 none [.ref (G.1 a0), .int x1] h Q := by
  refine CO_of [some (.ref (G.1 a0)), some (.int x1), none, none] (by decide) (Nat.le_of_ble_eq_true rfl) rfl (fun X C => ?_)
  unfold wX2_goThrough at hw
  refine r_aload_n C dX2_goThrough_0 rfl ?_
  refine r_iload_n C dX2_goThrough_1 rfl ?_
  refine kX2_30 C (k0) (sX2_begin (k0) hw) dX2_goThrough_2 (Nat.le_of_ble_eq_true rfl) rfl (Nat.le_of_ble_eq_true rfl) (fun h2 hw => ?_)
  refine r_iconst (0) C dX2_goThrough_5 (by decide) ?_
  refine r_istore_n [some (.ref (G.1 a0)), some (.int x1), some (.int (0 : Int32)), none] C dX2_goThrough_6 (Nat.le_of_ble_eq_true rfl) rfl rfl ?_
  refine r_weak [some (.ref (G.1 a0)), none, some (.int (0 : Int32)), none] (lw_k (lw_d (lw_k (lw_k (lw_n))))) ?_
  exact tX2_goThrough_7 C (k0) hw
def wX3_move (a0 : Nat) (x1 : Int32) (x2 : Int32) (h : Hp) (Q : Hp → Prop) : Prop :=
  if x2 = 0 then (∀ h2 : Hp, h2 = sI h a0 2 ((gI h a0 2) ||| x1) → (∀ h3 : Hp, h3 = sI h2 a0 3 ((gI h2 a0 3) ||| x1) → (Q h3))) else (∀ h1 : Hp, h1 = sI h a0 2 ((gI h a0 2) &&& (x1 ^^^ (-1 : Int32))) → (Q h1))
set_option maxRecDepth 20000 in
theorem sX3_move {G : GG} {a0 : Nat} {x1 : Int32} {x2 : Int32} {h : Hp} {Q : Hp → Prop} (k0 : kd a0 = 3) (hw : wX3_move a0 x1 x2 h Q) : CV G 0 yX3_move cX3_move 3 none [.ref (G.1 a0), .int x1, .int x2] h Q := by
  refine CO_of [some (.ref (G.1 a0)), some (.int x1), some (.int x2)] (by decide) (Nat.le_of_ble_eq_true rfl) rfl (fun X C => ?_)
  unfold wX3_move at hw
  refine r_iload_n C dX3_move_0 rfl ?_
  refine r_if_ne 27 C dX3_move_1 (by decide) (fun hc => ?_) (fun hc => ?_)
  · replace hw := it_f hc hw
    refine r_aload_n C dX3_move_27 rfl ?_
    refine r_dup C dX3_move_28 rfl ?_
    refine gX3_15 C (k0) dX3_move_29 ?_
    refine r_iload_n C dX3_move_32 rfl ?_
    refine r_iconst (-1) C dX3_move_33 (by decide) ?_
    refine r_ixor C dX3_move_34 ?_
    refine r_iand C dX3_move_35 ?_
    refine pX3_15 C (k0) dX3_move_36 ?_
    refine r_toph (fun h1 eh1 => ?_)
    replace hw := hw h1 eh1
    exact r_vret C dX3_move_39 ⟨rfl, hw⟩
  · replace hw := it_t hc hw
    refine r_aload_n C dX3_move_4 rfl ?_
    refine r_dup C dX3_move_5 rfl ?_
    refine gX3_15 C (k0) dX3_move_6 ?_
    refine r_iload_n C dX3_move_9 rfl ?_
    refine r_ior C dX3_move_10 ?_
    refine pX3_15 C (k0) dX3_move_11 ?_
    refine r_toph (fun h2 eh2 => ?_)
    replace hw := hw h2 eh2
    refine r_aload_n C dX3_move_14 rfl ?_
    refine r_dup C dX3_move_15 rfl ?_
    refine gX3_19 C (k0) dX3_move_16 ?_
    refine r_iload_n C dX3_move_19 rfl ?_
    refine r_ior C dX3_move_20 ?_
    refine pX3_19 C (k0) dX3_move_21 ?_
    refine r_toph (fun h3 eh3 => ?_)
    replace hw := hw h3 eh3
    refine r_goto 39 C dX3_move_24 (by decide) ?_
    exact r_vret C dX3_move_39 ⟨rfl, hw⟩
