def jX9_line_48 (a0 : Nat) (h : Hp) (Q : Hp → Prop) : Prop :=
  wX5_add (rf a0 0) (59 : Int32) (0 : Int32) h (fun h2 => Q h2)
set_option maxRecDepth 20000 in
theorem tX9_line_48 {G : GG} {X : XX} {a0 : Nat} {h : Hp}  {Q : Hp → Prop} (C : Cx G RX9 cX9_line 1 none 123 0 0 X) (k0 : kd a0 = 9) (hw : jX9_line_48 a0 h Q) : R0 G X 0 0 (ZM G (fun r h' => r = none ∧ Q h') X) 48 [some (.ref (G.1 a0))] [] h := by
  unfold jX9_line_48 at hw
  refine r_aload_n C dX9_line_48 rfl ?_
  refine gX9_10 C (k0) dX9_line_49 ?_
  refine r_bipush (59) C dX9_line_52 (by decide) ?_
  refine r_iconst (0) C dX9_line_54 (by decide) ?_
  refine kX9_45 C (kr9_0 (k0)) (sX5_add (kr9_0 (k0)) hw) dX9_line_55 (Nat.le_of_ble_eq_true rfl) rfl (Nat.le_of_ble_eq_true rfl) (fun h2 hw => ?_)
  exact r_vret C dX9_line_58 ⟨rfl, hw⟩
def wX9_line (a0 : Nat) (h : Hp) (Q : Hp → Prop) : Prop :=
  ∃ n1, n1 ≤ 120 ∧ ((wG0 n1).1 a0 (0 : Int32) (0 : Int32) h (fun h3 => if (gI h3 a0 4) = 0 then (jX9_line_48 a0 h3 Q) else (wX9_sign a0 h3 (fun v4 => if v4 = (63 : Int32) then (∀ h5 : Hp, h5 = sI h3 a0 3 ((gI h3 a0 3) + (1 : Int32)) → (wX5_add (rf a0 0) (63 : Int32) (0 : Int32) h5 (fun h7 => ∃ n8, n8 ≤ 120 ∧ ((wG0 n8).1 a0 (0 : Int32) (0 : Int32) h7 (fun h10 => jX9_line_48 a0 h10 Q))))) else (jX9_line_48 a0 h3 Q)))))
set_option maxRecDepth 20000 in
theorem sX9_line {G : GG} {a0 : Nat} {h : Hp} {Q : Hp → Prop} (k0 : kd a0 = 9) (hw : wX9_line a0 h Q) : CV G 123 yX9_line cX9_line 1 none [.ref (G.1 a0)] h Q := by
  refine CO_of [some (.ref (G.1 a0))] (by decide) (Nat.le_of_ble_eq_true rfl) rfl (fun X C => ?_)
  unfold wX9_line at hw
  refine r_aload_n C dX9_line_0 rfl ?_
  refine r_iconst (0) C dX9_line_1 (by decide) ?_
  refine r_iconst (0) C dX9_line_2 (by decide) ?_
  obtain ⟨n1, hnn1, hw⟩ := hw
  refine kX9_41 C (k0) ((sG0 G n1).1 _ _ _ _ _ (k0) hw) dX9_line_3 (by omega) rfl (Nat.le_of_ble_eq_true rfl) (fun h3 hw => ?_)
  refine r_aload_n C dX9_line_6 rfl ?_
  refine gX9_27 C (k0) dX9_line_7 ?_
  refine r_if_eq 48 C dX9_line_10 (by decide) (fun hc => ?_) (fun hc => ?_)
  · replace hw := it_t hc hw
    exact tX9_line_48 C (k0) hw
  · replace hw := it_f hc hw
    refine r_aload_n C dX9_line_13 rfl ?_
    refine kX9_37 C (k0) (sX9_sign (k0) hw) dX9_line_14 (Nat.le_of_ble_eq_true rfl) rfl (Nat.le_of_ble_eq_true rfl) (fun v4 hw => ?_)
    refine r_bipush (63) C dX9_line_17 (by decide) ?_
    refine r_icmp_ne 48 C dX9_line_19 (by decide) (fun hc => ?_) (fun hc => ?_)
    · replace hw := it_f hc hw
      exact tX9_line_48 C (k0) hw
    · replace hw := it_t hc hw
      refine r_aload_n C dX9_line_22 rfl ?_
      refine r_dup C dX9_line_23 rfl ?_
      refine gX9_24 C (k0) dX9_line_24 ?_
      refine r_iconst (1) C dX9_line_27 (by decide) ?_
      refine r_iadd C dX9_line_28 ?_
      refine pX9_24 C (k0) dX9_line_29 ?_
      refine r_toph (fun h5 eh5 => ?_)
      replace hw := hw h5 eh5
      refine r_aload_n C dX9_line_32 rfl ?_
      refine gX9_10 C (k0) dX9_line_33 ?_
      refine r_bipush (63) C dX9_line_36 (by decide) ?_
      refine r_iconst (0) C dX9_line_38 (by decide) ?_
      refine kX9_45 C (kr9_0 (k0)) (sX5_add (kr9_0 (k0)) hw) dX9_line_39 (Nat.le_of_ble_eq_true rfl) rfl (Nat.le_of_ble_eq_true rfl) (fun h7 hw => ?_)
      refine r_aload_n C dX9_line_42 rfl ?_
      refine r_iconst (0) C dX9_line_43 (by decide) ?_
      refine r_iconst (0) C dX9_line_44 (by decide) ?_
      obtain ⟨n8, hnn8, hw⟩ := hw
      refine kX9_41 C (k0) ((sG0 G n8).1 _ _ _ _ _ (k0) hw) dX9_line_45 (by omega) rfl (Nat.le_of_ble_eq_true rfl) (fun h10 hw => ?_)
      exact tX9_line_48 C (k0) hw
def jX9_read_72 (a0 : Nat) (h : Hp) (Q : Int32 → Hp → Prop) : Prop :=
  if (gI h a0 4) = 0 then (Q (gI h a0 3) h) else (if (gI h a0 3) < (gI h a0 2) then (Q (gI h a0 3) h) else (Q (-1 : Int32) h))
set_option maxRecDepth 20000 in
theorem tX9_read_72 {G : GG} {X : XX} {a0 : Nat} {h : Hp}  {Q : Int32 → Hp → Prop} (C : Cx G RX9 cX9_read 3 (some .int) 124 0 0 X) (k0 : kd a0 = 9) (hw : jX9_read_72 a0 h Q) : R0 G X 0 0 (ZM G (fun r h' => ∃ v, r = some (.int v) ∧ Q v h') X) 72 [some (.ref (G.1 a0)), none, none] [] h := by
  unfold jX9_read_72 at hw
  refine r_aload_n C dX9_read_72 rfl ?_
  refine gX9_27 C (k0) dX9_read_73 ?_
  refine r_if_eq 94 C dX9_read_76 (by decide) (fun hc => ?_) (fun hc => ?_)
  · replace hw := it_t hc hw
    refine r_aload_n C dX9_read_94 rfl ?_
    refine gX9_24 C (k0) dX9_read_95 ?_
    exact r_iret C dX9_read_98 ⟨_, rfl, hw⟩
  · replace hw := it_f hc hw
    refine r_aload_n C dX9_read_79 rfl ?_
    refine gX9_24 C (k0) dX9_read_80 ?_
    refine r_aload_n C dX9_read_83 rfl ?_
    refine gX9_20 C (k0) dX9_read_84 ?_
    refine r_icmp_lt 94 C dX9_read_87 (by decide) (fun hc => ?_) (fun hc => ?_)
    · replace hw := it_t hc hw
      refine r_aload_n C dX9_read_94 rfl ?_
      refine gX9_24 C (k0) dX9_read_95 ?_
      exact r_iret C dX9_read_98 ⟨_, rfl, hw⟩
    · replace hw := it_f hc hw
      refine r_iconst (-1) C dX9_read_90 (by decide) ?_
      refine r_goto 98 C dX9_read_91 (by decide) ?_
      exact r_iret C dX9_read_98 ⟨_, rfl, hw⟩
def fX9_read_28 (a0 : Nat) (Q : Int32 → Hp → Prop) (K28 : Int32 → Hp → Prop) (x2 : Int32) (h : Hp) : Prop :=
  if (gI h a0 2) ≤ x2 then (jX9_read_72 a0 h Q) else (if (gI h a0 4) = 0 then (jX9_read_72 a0 h Q) else (wX9_sign a0 h (fun v1 => if v1 = (59 : Int32) then (∀ h2 : Hp, h2 = sI h a0 3 ((gI h a0 3) + (1 : Int32)) → (wX9_line a0 h2 (fun h4 => ∀ v5 : Int32, v5 = x2 + (1 : Int32) → (K28 v5 h4)))) else (jX9_read_72 a0 h Q))))
def eX9_read_28 (a0 : Nat) (Q : Int32 → Hp → Prop) (x2 : Int32) (h : Hp) : Prop := ∃ N, lpN (fun (K : Int32 × Hp → Prop) (s : Int32 × Hp) => fX9_read_28 a0 Q (fun x2 h => K (x2, h)) s.1 s.2) N (x2, h)
theorem iX9_read_28 {a0 : Nat} {Q : Int32 → Hp → Prop} (I : Int32 → Hp → Prop) (μ : Int32 → Hp → Nat) (hs : ∀ (x2 : Int32) (h : Hp), I x2 h → ∀ K : Int32 → Hp → Prop, (∀ (x2' : Int32) (h' : Hp), I x2' h' → μ x2' h' < μ x2 h → K x2' h') → fX9_read_28 a0 Q K x2 h) : ∀ (x2 : Int32) (h : Hp), I x2 h → eX9_read_28 a0 Q x2 h := fun x2 h hI => lp_ind (fun s => I s.1 s.2) (fun s => μ s.1 s.2) (fun s hs' K hK => hs s.1 s.2 hs' _ (fun x2' h' h1 h2 => hK (x2', h') h1 h2)) (x2, h) hI
set_option maxRecDepth 20000 in
theorem tX9_read_28 {G : GG} {X : XX} {a0 : Nat} {x2 : Int32} {h : Hp}  {Q : Int32 → Hp → Prop} (C : Cx G RX9 cX9_read 3 (some .int) 124 0 0 X) (k0 : kd a0 = 9) (hw : eX9_read_28 a0 Q x2 h) : R0 G X 0 0 (ZM G (fun r h' => ∃ v, r = some (.int v) ∧ Q v h') X) 28 [some (.ref (G.1 a0)), none, some (.int x2)] [] h := by
  obtain ⟨N, hw⟩ := hw
  induction N generalizing x2 h with
  | zero => exact hw.elim
  | succ N ih =>
    obtain ⟨K28, eK⟩ : ∃ K : Int32 → Hp → Prop, K = (fun x2 h => lpN (fun (K : Int32 × Hp → Prop) (s : Int32 × Hp) => fX9_read_28 a0 Q (fun x2 h => K (x2, h)) s.1 s.2) N (x2, h)) := ⟨_, rfl⟩
    have hw : fX9_read_28 a0 Q (fun x2 h => lpN (fun (K : Int32 × Hp → Prop) (s : Int32 × Hp) => fX9_read_28 a0 Q (fun x2 h => K (x2, h)) s.1 s.2) N (x2, h)) x2 h := hw
    have hK28 : ∀ (x2 : Int32) (h : Hp), K28 x2 h → R0 G X 0 0 (ZM G (fun r h' => ∃ v, r = some (.int v) ∧ Q v h') X) 28 [some (.ref (G.1 a0)), none, some (.int x2)] [] h := fun x2 h q => ih (by rw [eK] at q; exact q)
    rw [← eK] at hw
    clear eK ih
    unfold fX9_read_28 at hw
    refine r_iload_n C dX9_read_28 rfl ?_
    refine r_aload_n C dX9_read_29 rfl ?_
    refine gX9_20 C (k0) dX9_read_30 ?_
    refine r_icmp_ge 72 C dX9_read_33 (by decide) (fun hc => ?_) (fun hc => ?_)
    · replace hw := it_t hc hw
      refine r_weak [some (.ref (G.1 a0)), none, none] (lw_k (lw_k (lw_d (lw_n)))) ?_
      exact tX9_read_72 C (k0) hw
    · replace hw := it_f hc hw
      refine r_aload_n C dX9_read_36 rfl ?_
      refine gX9_27 C (k0) dX9_read_37 ?_
      refine r_if_eq 72 C dX9_read_40 (by decide) (fun hc => ?_) (fun hc => ?_)
      · replace hw := it_t hc hw
        refine r_weak [some (.ref (G.1 a0)), none, none] (lw_k (lw_k (lw_d (lw_n)))) ?_
        exact tX9_read_72 C (k0) hw
      · replace hw := it_f hc hw
        refine r_aload_n C dX9_read_43 rfl ?_
        refine kX9_37 C (k0) (sX9_sign (k0) hw) dX9_read_44 (Nat.le_of_ble_eq_true rfl) rfl (Nat.le_of_ble_eq_true rfl) (fun v1 hw => ?_)
        refine r_bipush (59) C dX9_read_47 (by decide) ?_
        refine r_icmp_ne 72 C dX9_read_49 (by decide) (fun hc => ?_) (fun hc => ?_)
        · replace hw := it_f hc hw
          refine r_weak [some (.ref (G.1 a0)), none, none] (lw_k (lw_k (lw_d (lw_n)))) ?_
          exact tX9_read_72 C (k0) hw
        · replace hw := it_t hc hw
          refine r_aload_n C dX9_read_52 rfl ?_
          refine r_dup C dX9_read_53 rfl ?_
          refine gX9_24 C (k0) dX9_read_54 ?_
          refine r_iconst (1) C dX9_read_57 (by decide) ?_
          refine r_iadd C dX9_read_58 ?_
          refine pX9_24 C (k0) dX9_read_59 ?_
          refine r_toph (fun h2 eh2 => ?_)
          replace hw := hw h2 eh2
          refine r_aload_n C dX9_read_62 rfl ?_
          refine kX9_34 C (k0) (sX9_line (k0) hw) dX9_read_63 (Nat.le_of_ble_eq_true rfl) rfl (Nat.le_of_ble_eq_true rfl) (fun h4 hw => ?_)
          obtain ⟨v5, ev5⟩ : ∃ v : Int32, v = x2 + (1 : Int32) := ⟨_, rfl⟩
          replace hw := hw v5 ev5
          refine r_iinc v5 [some (.ref (G.1 a0)), none, some (.int v5)] C dX9_read_66 rfl (by rw [ev5]; rfl) rfl rfl ?_
          refine r_goto 28 C dX9_read_69 (by decide) ?_
          exact hK28 _ _ hw
def wX9_read (a0 : Nat) (x1 : Int32) (h : Hp) (Q : Int32 → Hp → Prop) : Prop :=
  ∀ h1 : Hp, h1 = sI h a0 2 x1 → (∀ h2 : Hp, h2 = sI h1 a0 3 (0 : Int32) → (∀ h3 : Hp, h3 = sI h2 a0 4 (1 : Int32) → (wX5_clear (rf a0 0) h3 (fun h5 => wX9_line a0 h5 (fun h7 => eX9_read_28 a0 Q (1 : Int32) h7)))))
set_option maxRecDepth 20000 in
theorem sX9_read {G : GG} {a0 : Nat} {x1 : Int32} {h : Hp} {Q : Int32 → Hp → Prop} (k0 : kd a0 = 9) (hw : wX9_read a0 x1 h Q) : CI G 124 yX9_read cX9_read 3 (some .int) [.ref (G.1 a0), .int x1] h Q := by
  refine CO_of [some (.ref (G.1 a0)), some (.int x1), none] (by decide) (Nat.le_of_ble_eq_true rfl) rfl (fun X C => ?_)
  unfold wX9_read at hw
  refine r_aload_n C dX9_read_0 rfl ?_
  refine r_iload_n C dX9_read_1 rfl ?_
  refine pX9_20 C (k0) dX9_read_2 ?_
  refine r_toph (fun h1 eh1 => ?_)
  replace hw := hw h1 eh1
  refine r_aload_n C dX9_read_5 rfl ?_
  refine r_iconst (0) C dX9_read_6 (by decide) ?_
  refine pX9_24 C (k0) dX9_read_7 ?_
  refine r_toph (fun h2 eh2 => ?_)
  replace hw := hw h2 eh2
  refine r_aload_n C dX9_read_10 rfl ?_
  refine r_iconst (1) C dX9_read_11 (by decide) ?_
  refine pX9_27 C (k0) ⟨rfl, rfl⟩ dX9_read_12 ?_
  refine r_toph (fun h3 eh3 => ?_)
  replace hw := hw h3 eh3
  refine r_aload_n C dX9_read_15 rfl ?_
  refine gX9_10 C (k0) dX9_read_16 ?_
  refine kX9_31 C (kr9_0 (k0)) (sX5_clear (kr9_0 (k0)) hw) dX9_read_19 (Nat.le_of_ble_eq_true rfl) rfl (Nat.le_of_ble_eq_true rfl) (fun h5 hw => ?_)
  refine r_aload_n C dX9_read_22 rfl ?_
  refine kX9_34 C (k0) (sX9_line (k0) hw) dX9_read_23 (Nat.le_of_ble_eq_true rfl) rfl (Nat.le_of_ble_eq_true rfl) (fun h7 hw => ?_)
  refine r_iconst (1) C dX9_read_26 (by decide) ?_
  refine r_istore_n [some (.ref (G.1 a0)), some (.int x1), some (.int (1 : Int32))] C dX9_read_27 (Nat.le_of_ble_eq_true rfl) rfl rfl ?_
  refine r_weak [some (.ref (G.1 a0)), none, some (.int (1 : Int32))] (lw_k (lw_d (lw_k (lw_n)))) ?_
  exact tX9_read_28 C (k0) hw
def jX6_become_29 (a0 : Nat) (x3 : Int32) (b0 : Nat) (h : Hp) (Q : Int32 → Hp → Prop) : Prop :=
  wX5_takeFrom b0 (rf (rf a0 3) 0) h (fun h2 => Q x3 h2)
set_option maxRecDepth 20000 in
theorem tX6_become_29 {G : GG} {X : XX} {a0 : Nat} {x3 : Int32} {b0 : Nat} {h : Hp}  {Q : Int32 → Hp → Prop} (C : Cx G RX6 cX6_become 4 (some .int) 125 0 0 X) (k0 : kd a0 = 6) (kb0 : kd b0 = 5) (hw : jX6_become_29 a0 x3 b0 h Q) : R0 G X 0 0 (ZM G (fun r h' => ∃ v, r = some (.int v) ∧ Q v h') X) 29 [some (.ref (G.1 a0)), none, none, some (.int x3)] [.ref (G.1 b0)] h := by
  unfold jX6_become_29 at hw
  refine r_aload_n C dX6_become_29 rfl ?_
  refine gX6_30 C (k0) dX6_become_30 ?_
  refine gX6_38 C (kr6_3 (k0)) dX6_become_33 ?_
  refine kX6_41 C (kb0) (sX5_takeFrom (kb0) (kr9_0 (kr6_3 (k0))) hw) dX6_become_36 (Nat.le_of_ble_eq_true rfl) rfl (Nat.le_of_ble_eq_true rfl) (fun h2 hw => ?_)
  refine r_iload_n C dX6_become_39 rfl ?_
  exact r_iret C dX6_become_40 ⟨_, rfl, hw⟩
def wX6_become (a0 : Nat) (x1 : Int32) (x2 : Int32) (h : Hp) (Q : Int32 → Hp → Prop) : Prop :=
  wX9_read (rf a0 3) x2 h (fun v1 h2 => if v1 = (-1 : Int32) then (if x1 = 0 then (jX6_become_29 a0 v1 (rf a0 1) h2 Q) else (jX6_become_29 a0 v1 (rf a0 2) h2 Q)) else (Q v1 h2))
set_option maxRecDepth 20000 in
theorem sX6_become {G : GG} {a0 : Nat} {x1 : Int32} {x2 : Int32} {h : Hp} {Q : Int32 → Hp → Prop} (k0 : kd a0 = 6) (hw : wX6_become a0 x1 x2 h Q) : CI G 125 yX6_become cX6_become 4 (some .int) [.ref (G.1 a0), .int x1, .int x2] h Q := by
  refine CO_of [some (.ref (G.1 a0)), some (.int x1), some (.int x2), none] (by decide) (Nat.le_of_ble_eq_true rfl) rfl (fun X C => ?_)
  unfold wX6_become at hw
  refine r_aload_n C dX6_become_0 rfl ?_
  refine gX6_30 C (k0) dX6_become_1 ?_
  refine r_iload_n C dX6_become_4 rfl ?_
  refine kX6_34 C (kr6_3 (k0)) (sX9_read (kr6_3 (k0)) hw) dX6_become_5 (Nat.le_of_ble_eq_true rfl) rfl (Nat.le_of_ble_eq_true rfl) (fun v1 h2 hw => ?_)
  refine r_istore_n [some (.ref (G.1 a0)), some (.int x1), some (.int x2), some (.int v1)] C dX6_become_8 (Nat.le_of_ble_eq_true rfl) rfl rfl ?_
  refine r_iload_n C dX6_become_9 rfl ?_
  refine r_iconst (-1) C dX6_become_10 (by decide) ?_
  refine r_icmp_ne 39 C dX6_become_11 (by decide) (fun hc => ?_) (fun hc => ?_)
  · replace hw := it_f hc hw
    refine r_iload_n C dX6_become_39 rfl ?_
    exact r_iret C dX6_become_40 ⟨_, rfl, hw⟩
  · replace hw := it_t hc hw
    refine r_iload_n C dX6_become_14 rfl ?_
    refine r_if_ne 25 C dX6_become_15 (by decide) (fun hc => ?_) (fun hc => ?_)
    · replace hw := it_f hc hw
      refine r_aload_n C dX6_become_25 rfl ?_
      refine gX6_22 C (k0) dX6_become_26 ?_
      refine r_weak [some (.ref (G.1 a0)), none, none, some (.int v1)] (lw_k (lw_d (lw_d (lw_k (lw_n))))) ?_
      exact tX6_become_29 C (k0) (kr6_2 (k0)) hw
    · replace hw := it_t hc hw
      refine r_aload_n C dX6_become_18 rfl ?_
      refine gX6_18 C (k0) dX6_become_19 ?_
      refine r_goto 29 C dX6_become_22 (by decide) ?_
      refine r_weak [some (.ref (G.1 a0)), none, none, some (.int v1)] (lw_k (lw_d (lw_d (lw_k (lw_n))))) ?_
      exact tX6_become_29 C (k0) (kr6_1 (k0)) hw
def wX6_chance (a0 : Nat) (x1 : Int32) (x2 : Int32) (x3 : Int32) (h : Hp) (Q : Int32 → Hp → Prop) : Prop :=
  if (gI h (rf a0 2) 4) = 0 then (Q (6 : Int32) h) else (wX6_name a0 x3 x1 (0 : Int32) (0 : Int32) (0 : Int32) x2 h (fun h2 => wX5_value (rf a0 2) (rf a0 0) h2 (fun v3 h4 => Q (mx (0 : Int32) (mn (12 : Int32) v3)) h4)))
set_option maxRecDepth 20000 in
theorem sX6_chance {G : GG} {a0 : Nat} {x1 : Int32} {x2 : Int32} {x3 : Int32} {h : Hp} {Q : Int32 → Hp → Prop} (k0 : kd a0 = 6) (hw : wX6_chance a0 x1 x2 x3 h Q) : CI G 2 yX6_chance cX6_chance 4 (some .int) [.ref (G.1 a0), .int x1, .int x2, .int x3] h Q := by
  refine CO_of [some (.ref (G.1 a0)), some (.int x1), some (.int x2), some (.int x3)] (by decide) (Nat.le_of_ble_eq_true rfl) rfl (fun X C => ?_)
  unfold wX6_chance at hw
  refine r_aload_n C dX6_chance_0 rfl ?_
  refine gX6_22 C (k0) dX6_chance_1 ?_
  refine gX6_45 C (kr6_2 (k0)) dX6_chance_4 ?_
  refine r_if_ne 13 C dX6_chance_7 (by decide) (fun hc => ?_) (fun hc => ?_)
  · replace hw := it_f hc hw
    refine r_aload_n C dX6_chance_13 rfl ?_
    refine r_iload_n C dX6_chance_14 rfl ?_
    refine r_iload_n C dX6_chance_15 rfl ?_
    refine r_iconst (0) C dX6_chance_16 (by decide) ?_
    refine r_iconst (0) C dX6_chance_17 (by decide) ?_
    refine r_iconst (0) C dX6_chance_18 (by decide) ?_
    refine r_iload_n C dX6_chance_19 rfl ?_
    refine kX6_58 C (k0) (sX6_name (k0) hw) dX6_chance_20 (Nat.le_of_ble_eq_true rfl) rfl (Nat.le_of_ble_eq_true rfl) (fun h2 hw => ?_)
    refine r_iconst (0) C dX6_chance_23 (by decide) ?_
    refine r_bipush (12) C dX6_chance_24 (by decide) ?_
    refine r_aload_n C dX6_chance_26 rfl ?_
    refine gX6_22 C (k0) dX6_chance_27 ?_
    refine r_aload_n C dX6_chance_30 rfl ?_
    refine gX6_11 C (k0) dX6_chance_31 ?_
    refine kX6_62 C (kr6_2 (k0)) (sX5_value (kr6_2 (k0)) (kr6_0 (k0)) hw) dX6_chance_34 (Nat.le_of_ble_eq_true rfl) rfl (Nat.le_of_ble_eq_true rfl) (fun v3 h4 hw => ?_)
    refine r_mmin C ⟨wd666, wd667, wd109, wd668⟩ (Nat.le_of_ble_eq_true rfl) rfl (Nat.le_of_ble_eq_true rfl) dX6_chance_37 ?_
    refine r_mmax C ⟨wd669, wd670, wd109, wd671⟩ (Nat.le_of_ble_eq_true rfl) rfl (Nat.le_of_ble_eq_true rfl) dX6_chance_40 ?_
    exact r_iret C dX6_chance_43 ⟨_, rfl, hw⟩
  · replace hw := it_t hc hw
    refine r_bipush (6) C dX6_chance_10 (by decide) ?_
    exact r_iret C dX6_chance_12 ⟨_, rfl, hw⟩
def fX7_findGroups_25 (a0 : Nat) (x4 : Int32) (Q : Hp → Prop) (K25 : Int32 → Hp → Prop) (x5 : Int32) (h : Hp) : Prop :=
  if (gI h a0 6) ≤ x5 then (Q h) else (if (x5 &&& (x4 ^^^ (-1 : Int32))) = 0 then (wJ6_bitCount_0f7a4 x5 h (fun v2 => wX4_numberOf (rf a0 0) (0 : Int32) h (fun v3 => if v2 = v3 then (vp_in (gI h a0 5) (ln (rf a0 4)) ∧ (∀ h6 : Hp, h6 = sI h (rf a0 4) (gI h a0 5).toNatClampNeg x5 → (∀ h7 : Hp, h7 = sI h6 a0 5 ((gI h6 a0 5) + (1 : Int32)) → (∀ v8 : Int32, v8 = x5 + (1 : Int32) → (K25 v8 h7))))) else (∀ v4 : Int32, v4 = x5 + (1 : Int32) → (K25 v4 h))))) else (∀ v1 : Int32, v1 = x5 + (1 : Int32) → (K25 v1 h)))
def eX7_findGroups_25 (a0 : Nat) (x4 : Int32) (Q : Hp → Prop) (x5 : Int32) (h : Hp) : Prop := ∃ N, lpN (fun (K : Int32 × Hp → Prop) (s : Int32 × Hp) => fX7_findGroups_25 a0 x4 Q (fun x5 h => K (x5, h)) s.1 s.2) N (x5, h)
theorem iX7_findGroups_25 {a0 : Nat} {x4 : Int32} {Q : Hp → Prop} (I : Int32 → Hp → Prop) (μ : Int32 → Hp → Nat) (hs : ∀ (x5 : Int32) (h : Hp), I x5 h → ∀ K : Int32 → Hp → Prop, (∀ (x5' : Int32) (h' : Hp), I x5' h' → μ x5' h' < μ x5 h → K x5' h') → fX7_findGroups_25 a0 x4 Q K x5 h) : ∀ (x5 : Int32) (h : Hp), I x5 h → eX7_findGroups_25 a0 x4 Q x5 h := fun x5 h hI => lp_ind (fun s => I s.1 s.2) (fun s => μ s.1 s.2) (fun s hs' K hK => hs s.1 s.2 hs' _ (fun x5' h' h1 h2 => hK (x5', h') h1 h2)) (x5, h) hI
set_option maxRecDepth 20000 in
theorem tX7_findGroups_25 {G : GG} {X : XX} {a0 : Nat} {x4 : Int32} {x5 : Int32} {h : Hp}  {Q : Hp → Prop} (C : Cx G RX7 cX7_findGroups 6 none 4 0 0 X) (k0 : kd a0 = 7) (hw : eX7_findGroups_25 a0 x4 Q x5 h) : R0 G X 0 0 (ZM G (fun r h' => r = none ∧ Q h') X) 25 [some (.ref (G.1 a0)), none, none, none, some (.int x4), some (.int x5)] [] h := by
  obtain ⟨N, hw⟩ := hw
  induction N generalizing x5 h with
  | zero => exact hw.elim
  | succ N ih =>
    obtain ⟨K25, eK⟩ : ∃ K : Int32 → Hp → Prop, K = (fun x5 h => lpN (fun (K : Int32 × Hp → Prop) (s : Int32 × Hp) => fX7_findGroups_25 a0 x4 Q (fun x5 h => K (x5, h)) s.1 s.2) N (x5, h)) := ⟨_, rfl⟩
    have hw : fX7_findGroups_25 a0 x4 Q (fun x5 h => lpN (fun (K : Int32 × Hp → Prop) (s : Int32 × Hp) => fX7_findGroups_25 a0 x4 Q (fun x5 h => K (x5, h)) s.1 s.2) N (x5, h)) x5 h := hw
    have hK25 : ∀ (x5 : Int32) (h : Hp), K25 x5 h → R0 G X 0 0 (ZM G (fun r h' => r = none ∧ Q h') X) 25 [some (.ref (G.1 a0)), none, none, none, some (.int x4), some (.int x5)] [] h := fun x5 h q => ih (by rw [eK] at q; exact q)
    rw [← eK] at hw
    clear eK ih
    unfold fX7_findGroups_25 at hw
    refine r_iload C dX7_findGroups_25 rfl ?_
    refine r_aload_n C dX7_findGroups_27 rfl ?_
    refine gX7_44 C (k0) dX7_findGroups_28 ?_
    refine r_icmp_ge 87 C dX7_findGroups_31 (by decide) (fun hc => ?_) (fun hc => ?_)
    · replace hw := it_t hc hw
      exact r_vret C dX7_findGroups_87 ⟨rfl, hw⟩
    · replace hw := it_f hc hw
      refine r_iload C dX7_findGroups_34 rfl ?_
      refine r_iload C dX7_findGroups_36 rfl ?_
      refine r_iconst (-1) C dX7_findGroups_38 (by decide) ?_
      refine r_ixor C dX7_findGroups_39 ?_
      refine r_iand C dX7_findGroups_40 ?_
      refine r_if_ne 81 C dX7_findGroups_41 (by decide) (fun hc => ?_) (fun hc => ?_)
      · replace hw := it_f hc hw
        obtain ⟨v1, ev1⟩ : ∃ v : Int32, v = x5 + (1 : Int32) := ⟨_, rfl⟩
        replace hw := hw v1 ev1
        refine r_iinc v1 [some (.ref (G.1 a0)), none, none, none, some (.int x4), some (.int v1)] C dX7_findGroups_81 rfl (by rw [ev1]; rfl) rfl rfl ?_
        refine r_goto 25 C dX7_findGroups_84 (by decide) ?_
        exact hK25 _ _ hw
      · replace hw := it_t hc hw
        refine r_iload C dX7_findGroups_44 rfl ?_
        refine kX7_77 C (sJ6_bitCount_0f7a4 hw) dX7_findGroups_46 (Nat.le_of_ble_eq_true rfl) rfl (Nat.le_of_ble_eq_true rfl) (fun v2 hw => ?_)
        refine r_aload_n C dX7_findGroups_49 rfl ?_
        refine gX7_20 C (k0) dX7_findGroups_50 ?_
        refine r_iconst (0) C dX7_findGroups_53 (by decide) ?_
        refine kX7_81 C (kr7_0 (k0)) (sX4_numberOf (kr7_0 (k0)) hw) dX7_findGroups_54 (Nat.le_of_ble_eq_true rfl) rfl (Nat.le_of_ble_eq_true rfl) (fun v3 hw => ?_)
        refine r_icmp_ne 81 C dX7_findGroups_57 (by decide) (fun hc => ?_) (fun hc => ?_)
        · replace hw := it_f hc hw
          obtain ⟨v4, ev4⟩ : ∃ v : Int32, v = x5 + (1 : Int32) := ⟨_, rfl⟩
          replace hw := hw v4 ev4
          refine r_iinc v4 [some (.ref (G.1 a0)), none, none, none, some (.int x4), some (.int v4)] C dX7_findGroups_81 rfl (by rw [ev4]; rfl) rfl rfl ?_
          refine r_goto 25 C dX7_findGroups_84 (by decide) ?_
          exact hK25 _ _ hw
        · replace hw := it_t hc hw
          refine r_aload_n C dX7_findGroups_60 rfl ?_
          refine gX7_17 C (k0) dX7_findGroups_61 ?_
          refine r_aload_n C dX7_findGroups_64 rfl ?_
          refine gX7_55 C (k0) dX7_findGroups_65 ?_
          refine r_iload C dX7_findGroups_68 rfl ?_
          obtain ⟨hi5, hw⟩ := hw
          refine r_iast C (kr7_4 (k0)) hi5 dX7_findGroups_70 ?_
          refine r_toph (fun h6 eh6 => ?_)
          replace hw := hw h6 eh6
          refine r_aload_n C dX7_findGroups_71 rfl ?_
          refine r_dup C dX7_findGroups_72 rfl ?_
          refine gX7_55 C (k0) dX7_findGroups_73 ?_
          refine r_iconst (1) C dX7_findGroups_76 (by decide) ?_
          refine r_iadd C dX7_findGroups_77 ?_
          refine pX7_55 C (k0) dX7_findGroups_78 ?_
          refine r_toph (fun h7 eh7 => ?_)
          replace hw := hw h7 eh7
          obtain ⟨v8, ev8⟩ : ∃ v : Int32, v = x5 + (1 : Int32) := ⟨_, rfl⟩
          replace hw := hw v8 ev8
          refine r_iinc v8 [some (.ref (G.1 a0)), none, none, none, some (.int x4), some (.int v8)] C dX7_findGroups_81 rfl (by rw [ev8]; rfl) rfl rfl ?_
          refine r_goto 25 C dX7_findGroups_84 (by decide) ?_
          exact hK25 _ _ hw
def wX7_findGroups (a0 : Nat) (x1 : Int32) (x2 : Int32) (x3 : Int32) (h : Hp) (Q : Hp → Prop) : Prop :=
  wX6_lettingOf (rf a0 2) (rf a0 1) x1 (0 : Int32) x2 x3 h (fun v1 h2 => ∀ h3 : Hp, h3 = sI h2 a0 5 (0 : Int32) → (eX7_findGroups_25 a0 v1 Q (1 : Int32) h3))
set_option maxRecDepth 20000 in
theorem sX7_findGroups {G : GG} {a0 : Nat} {x1 : Int32} {x2 : Int32} {x3 : Int32} {h : Hp} {Q : Hp → Prop} (k0 : kd a0 = 7) (hw : wX7_findGroups a0 x1 x2 x3 h Q) : CV G 4 yX7_findGroups cX7_findGroups 6 none [.ref (G.1 a0), .int x1, .int x2, .int x3] h Q := by
  refine CO_of [some (.ref (G.1 a0)), some (.int x1), some (.int x2), some (.int x3), none, none] (by decide) (Nat.le_of_ble_eq_true rfl) rfl (fun X C => ?_)
  unfold wX7_findGroups at hw
  refine r_aload_n C dX7_findGroups_0 rfl ?_
  refine gX7_28 C (k0) dX7_findGroups_1 ?_
  refine r_aload_n C dX7_findGroups_4 rfl ?_
  refine gX7_24 C (k0) dX7_findGroups_5 ?_
  refine r_iload_n C dX7_findGroups_8 rfl ?_
  refine r_iconst (0) C dX7_findGroups_9 (by decide) ?_
  refine r_iload_n C dX7_findGroups_10 rfl ?_
  refine r_iload_n C dX7_findGroups_11 rfl ?_
  refine kX7_71 C (kr7_2 (k0)) (sX6_lettingOf (kr7_2 (k0)) (kr7_1 (k0)) hw) dX7_findGroups_12 (Nat.le_of_ble_eq_true rfl) rfl (Nat.le_of_ble_eq_true rfl) (fun v1 h2 hw => ?_)
  refine r_istore [some (.ref (G.1 a0)), some (.int x1), some (.int x2), some (.int x3), some (.int v1), none] C dX7_findGroups_15 (Nat.le_of_ble_eq_true rfl) rfl rfl ?_
  refine r_aload_n C dX7_findGroups_17 rfl ?_
  refine r_iconst (0) C dX7_findGroups_18 (by decide) ?_
  refine pX7_55 C (k0) dX7_findGroups_19 ?_
  refine r_toph (fun h3 eh3 => ?_)
  replace hw := hw h3 eh3
  refine r_iconst (1) C dX7_findGroups_22 (by decide) ?_
  refine r_istore [some (.ref (G.1 a0)), some (.int x1), some (.int x2), some (.int x3), some (.int v1), some (.int (1 : Int32))] C dX7_findGroups_23 (Nat.le_of_ble_eq_true rfl) rfl rfl ?_
  refine r_weak [some (.ref (G.1 a0)), none, none, none, some (.int v1), some (.int (1 : Int32))] (lw_k (lw_d (lw_d (lw_d (lw_k (lw_k (lw_n))))))) ?_
  exact tX7_findGroups_25 C (k0) hw
def wX7_lower (a0 : Nat) (x1 : Int32) (x2 : Int32) (h : Hp) (Q : Hp → Prop) : Prop :=
  vp_in x1 (ln (rf a0 3)) ∧ (vp_in x1 (ln (rf a0 3)) ∧ (∀ h3 : Hp, h3 = sI h (rf a0 3) x1.toNatClampNeg (mn (gI h (rf a0 3) x1.toNatClampNeg) x2) → (Q h3)))
set_option maxRecDepth 20000 in
theorem sX7_lower {G : GG} {a0 : Nat} {x1 : Int32} {x2 : Int32} {h : Hp} {Q : Hp → Prop} (k0 : kd a0 = 7) (hw : wX7_lower a0 x1 x2 h Q) : CV G 1 yX7_lower cX7_lower 3 none [.ref (G.1 a0), .int x1, .int x2] h Q := by
  refine CO_of [some (.ref (G.1 a0)), some (.int x1), some (.int x2)] (by decide) (Nat.le_of_ble_eq_true rfl) rfl (fun X C => ?_)
  unfold wX7_lower at hw
  refine r_aload_n C dX7_lower_0 rfl ?_
  refine gX7_13 C (k0) dX7_lower_1 ?_
  refine r_iload_n C dX7_lower_4 rfl ?_
  refine r_aload_n C dX7_lower_5 rfl ?_
  refine gX7_13 C (k0) dX7_lower_6 ?_
  refine r_iload_n C dX7_lower_9 rfl ?_
  obtain ⟨hi1, hw⟩ := hw
  refine r_iald C (kr7_3 (k0)) hi1 dX7_lower_10 ?_
  refine r_iload_n C dX7_lower_11 rfl ?_
  refine r_mmin C ⟨wd776, wd667, wd109, wd668⟩ (Nat.le_of_ble_eq_true rfl) rfl (Nat.le_of_ble_eq_true rfl) dX7_lower_12 ?_
  obtain ⟨hi2, hw⟩ := hw
  refine r_iast C (kr7_3 (k0)) hi2 dX7_lower_15 ?_
  refine r_toph (fun h3 eh3 => ?_)
  replace hw := hw h3 eh3
  exact r_vret C dX7_lower_16 ⟨rfl, hw⟩
def fX7_goOut_32 (a0 : Nat) (x1 : Int32) (x2 : Int32) (x3 : Int32) (K2 : Int32 → Hp → Prop) (K12 : Int32 → Hp → Prop) (Q : Hp → Prop) (K32 : Int32 → Hp → Prop) (x4 : Int32) (h : Hp) : Prop :=
  if (gI h a0 5) ≤ x4 then (∀ v1 : Int32, v1 = x2 + (1 : Int32) → (K12 v1 h)) else (if x3 = (2147483647 : Int32) then (∀ v2 : Int32, v2 = x2 + (1 : Int32) → (K12 v2 h)) else (vp_in x4 (ln (rf a0 4)) ∧ (if ((gI h (rf a0 4) x4.toNatClampNeg) &&& x1) = 0 then (vp_in x4 (ln (rf a0 4)) ∧ (vp_in x4 (ln (rf a0 4)) ∧ (wX7_lower a0 (((x1 ||| (gI h (rf a0 4) x4.toNatClampNeg)) * (32 : Int32)) + (x2 ||| (gI h (rf a0 4) x4.toNatClampNeg))) x3 h (fun h8 => ∀ v9 : Int32, v9 = x4 + (1 : Int32) → (K32 v9 h8))))) else (∀ v4 : Int32, v4 = x4 + (1 : Int32) → (K32 v4 h)))))
def eX7_goOut_32 (a0 : Nat) (x1 : Int32) (x2 : Int32) (x3 : Int32) (K2 : Int32 → Hp → Prop) (K12 : Int32 → Hp → Prop) (Q : Hp → Prop) (x4 : Int32) (h : Hp) : Prop := ∃ N, lpN (fun (K : Int32 × Hp → Prop) (s : Int32 × Hp) => fX7_goOut_32 a0 x1 x2 x3 K2 K12 Q (fun x4 h => K (x4, h)) s.1 s.2) N (x4, h)
theorem iX7_goOut_32 {a0 : Nat} {x1 : Int32} {x2 : Int32} {x3 : Int32} {K2 : Int32 → Hp → Prop} {K12 : Int32 → Hp → Prop} {Q : Hp → Prop} (I : Int32 → Hp → Prop) (μ : Int32 → Hp → Nat) (hs : ∀ (x4 : Int32) (h : Hp), I x4 h → ∀ K : Int32 → Hp → Prop, (∀ (x4' : Int32) (h' : Hp), I x4' h' → μ x4' h' < μ x4 h → K x4' h') → fX7_goOut_32 a0 x1 x2 x3 K2 K12 Q K x4 h) : ∀ (x4 : Int32) (h : Hp), I x4 h → eX7_goOut_32 a0 x1 x2 x3 K2 K12 Q x4 h := fun x4 h hI => lp_ind (fun s => I s.1 s.2) (fun s => μ s.1 s.2) (fun s hs' K hK => hs s.1 s.2 hs' _ (fun x4' h' h1 h2 => hK (x4', h') h1 h2)) (x4, h) hI
set_option maxRecDepth 20000 in
theorem tX7_goOut_32 {G : GG} {X : XX} {a0 : Nat} {x1 : Int32} {x2 : Int32} {x3 : Int32} {x4 : Int32} {h : Hp}  {K2 : Int32 → Hp → Prop} {K12 : Int32 → Hp → Prop} {Q : Hp → Prop} (C : Cx G RX7 cX7_goOut 5 none 2 0 0 X) (k0 : kd a0 = 7) (hK2 : ∀ (y1 : Int32) (h' : Hp), K2 y1 h' → R0 G X 0 0 (ZM G (fun r h' => r = none ∧ Q h') X) 2 [some (.ref (G.1 a0)), some (.int y1), none, none, none] [] h') (hK12 : ∀ (y2 : Int32) (h' : Hp), K12 y2 h' → R0 G X 0 0 (ZM G (fun r h' => r = none ∧ Q h') X) 12 [some (.ref (G.1 a0)), some (.int x1), some (.int y2), none, none] [] h') (hw : eX7_goOut_32 a0 x1 x2 x3 K2 K12 Q x4 h) : R0 G X 0 0 (ZM G (fun r h' => r = none ∧ Q h') X) 32 [some (.ref (G.1 a0)), some (.int x1), some (.int x2), some (.int x3), some (.int x4)] [] h := by
  obtain ⟨N, hw⟩ := hw
  induction N generalizing x4 h with
  | zero => exact hw.elim
  | succ N ih =>
    obtain ⟨K32, eK⟩ : ∃ K : Int32 → Hp → Prop, K = (fun x4 h => lpN (fun (K : Int32 × Hp → Prop) (s : Int32 × Hp) => fX7_goOut_32 a0 x1 x2 x3 K2 K12 Q (fun x4 h => K (x4, h)) s.1 s.2) N (x4, h)) := ⟨_, rfl⟩
    have hw : fX7_goOut_32 a0 x1 x2 x3 K2 K12 Q (fun x4 h => lpN (fun (K : Int32 × Hp → Prop) (s : Int32 × Hp) => fX7_goOut_32 a0 x1 x2 x3 K2 K12 Q (fun x4 h => K (x4, h)) s.1 s.2) N (x4, h)) x4 h := hw
    have hK32 : ∀ (x4 : Int32) (h : Hp), K32 x4 h → R0 G X 0 0 (ZM G (fun r h' => r = none ∧ Q h') X) 32 [some (.ref (G.1 a0)), some (.int x1), some (.int x2), some (.int x3), some (.int x4)] [] h := fun x4 h q => ih (by rw [eK] at q; exact q)
    rw [← eK] at hw
    clear eK ih
    unfold fX7_goOut_32 at hw
    refine r_iload C dX7_goOut_32 rfl ?_
    refine r_aload_n C dX7_goOut_34 rfl ?_
    refine gX7_55 C (k0) dX7_goOut_35 ?_
    refine r_icmp_ge 92 C dX7_goOut_38 (by decide) (fun hc => ?_) (fun hc => ?_)
    · replace hw := it_t hc hw
      obtain ⟨v1, ev1⟩ : ∃ v : Int32, v = x2 + (1 : Int32) := ⟨_, rfl⟩
      replace hw := hw v1 ev1
      refine r_iinc v1 [some (.ref (G.1 a0)), some (.int x1), some (.int v1), some (.int x3), some (.int x4)] C dX7_goOut_92 rfl (by rw [ev1]; rfl) rfl rfl ?_
      refine r_goto 12 C dX7_goOut_95 (by decide) ?_
      refine r_weak [some (.ref (G.1 a0)), some (.int x1), some (.int v1), none, none] (lw_k (lw_k (lw_k (lw_d (lw_d (lw_n)))))) ?_
      exact hK12 _ _ hw
    · replace hw := it_f hc hw
      refine r_iload_n C dX7_goOut_41 rfl ?_
      refine r_ldc (2147483647) C wd777 dX7_goOut_42 ?_
      refine r_icmp_eq 92 C dX7_goOut_44 (by decide) (fun hc => ?_) (fun hc => ?_)
      · replace hw := it_t hc hw
        obtain ⟨v2, ev2⟩ : ∃ v : Int32, v = x2 + (1 : Int32) := ⟨_, rfl⟩
        replace hw := hw v2 ev2
        refine r_iinc v2 [some (.ref (G.1 a0)), some (.int x1), some (.int v2), some (.int x3), some (.int x4)] C dX7_goOut_92 rfl (by rw [ev2]; rfl) rfl rfl ?_
        refine r_goto 12 C dX7_goOut_95 (by decide) ?_
        refine r_weak [some (.ref (G.1 a0)), some (.int x1), some (.int v2), none, none] (lw_k (lw_k (lw_k (lw_d (lw_d (lw_n)))))) ?_
        exact hK12 _ _ hw
      · replace hw := it_f hc hw
        refine r_aload_n C dX7_goOut_47 rfl ?_
        refine gX7_17 C (k0) dX7_goOut_48 ?_
        refine r_iload C dX7_goOut_51 rfl ?_
        obtain ⟨hi3, hw⟩ := hw
        refine r_iald C (kr7_4 (k0)) hi3 dX7_goOut_53 ?_
        refine r_iload_n C dX7_goOut_54 rfl ?_
        refine r_iand C dX7_goOut_55 ?_
        refine r_if_ne 86 C dX7_goOut_56 (by decide) (fun hc => ?_) (fun hc => ?_)
        · replace hw := it_f hc hw
          obtain ⟨v4, ev4⟩ : ∃ v : Int32, v = x4 + (1 : Int32) := ⟨_, rfl⟩
          replace hw := hw v4 ev4
          refine r_iinc v4 [some (.ref (G.1 a0)), some (.int x1), some (.int x2), some (.int x3), some (.int v4)] C dX7_goOut_86 rfl (by rw [ev4]; rfl) rfl rfl ?_
          refine r_goto 32 C dX7_goOut_89 (by decide) ?_
          exact hK32 _ _ hw
        · replace hw := it_t hc hw
          refine r_aload_n C dX7_goOut_59 rfl ?_
          refine r_iload_n C dX7_goOut_60 rfl ?_
          refine r_aload_n C dX7_goOut_61 rfl ?_
          refine gX7_17 C (k0) dX7_goOut_62 ?_
          refine r_iload C dX7_goOut_65 rfl ?_
          obtain ⟨hi5, hw⟩ := hw
          refine r_iald C (kr7_4 (k0)) hi5 dX7_goOut_67 ?_
          refine r_ior C dX7_goOut_68 ?_
          refine r_bipush (32) C dX7_goOut_69 (by decide) ?_
          refine r_imul C dX7_goOut_71 ?_
          refine r_iload_n C dX7_goOut_72 rfl ?_
          refine r_aload_n C dX7_goOut_73 rfl ?_
          refine gX7_17 C (k0) dX7_goOut_74 ?_
          refine r_iload C dX7_goOut_77 rfl ?_
          obtain ⟨hi6, hw⟩ := hw
          refine r_iald C (kr7_4 (k0)) hi6 dX7_goOut_79 ?_
          refine r_ior C dX7_goOut_80 ?_
          refine r_iadd C dX7_goOut_81 ?_
          refine r_iload_n C dX7_goOut_82 rfl ?_
          refine kX7_86 C (k0) (sX7_lower (k0) hw) dX7_goOut_83 (Nat.le_of_ble_eq_true rfl) rfl (Nat.le_of_ble_eq_true rfl) (fun h8 hw => ?_)
          obtain ⟨v9, ev9⟩ : ∃ v : Int32, v = x4 + (1 : Int32) := ⟨_, rfl⟩
          replace hw := hw v9 ev9
          refine r_iinc v9 [some (.ref (G.1 a0)), some (.int x1), some (.int x2), some (.int x3), some (.int v9)] C dX7_goOut_86 rfl (by rw [ev9]; rfl) rfl rfl ?_
          refine r_goto 32 C dX7_goOut_89 (by decide) ?_
          exact hK32 _ _ hw
def fX7_goOut_12 (a0 : Nat) (x1 : Int32) (K2 : Int32 → Hp → Prop) (Q : Hp → Prop) (K12 : Int32 → Hp → Prop) (x2 : Int32) (h : Hp) : Prop :=
  if x1 < x2 then (∀ v1 : Int32, v1 = x1 + (1 : Int32) → (K2 v1 h)) else (vp_in ((x1 * (32 : Int32)) + x2) (ln (rf a0 3)) ∧ (∀ v3 : Int32, v3 = (gI h (rf a0 3) ((x1 * (32 : Int32)) + x2).toNatClampNeg) → (eX7_goOut_32 a0 x1 x2 v3 K2 K12 Q (0 : Int32) h)))
def eX7_goOut_12 (a0 : Nat) (x1 : Int32) (K2 : Int32 → Hp → Prop) (Q : Hp → Prop) (x2 : Int32) (h : Hp) : Prop := ∃ N, lpN (fun (K : Int32 × Hp → Prop) (s : Int32 × Hp) => fX7_goOut_12 a0 x1 K2 Q (fun x2 h => K (x2, h)) s.1 s.2) N (x2, h)
theorem iX7_goOut_12 {a0 : Nat} {x1 : Int32} {K2 : Int32 → Hp → Prop} {Q : Hp → Prop} (I : Int32 → Hp → Prop) (μ : Int32 → Hp → Nat) (hs : ∀ (x2 : Int32) (h : Hp), I x2 h → ∀ K : Int32 → Hp → Prop, (∀ (x2' : Int32) (h' : Hp), I x2' h' → μ x2' h' < μ x2 h → K x2' h') → fX7_goOut_12 a0 x1 K2 Q K x2 h) : ∀ (x2 : Int32) (h : Hp), I x2 h → eX7_goOut_12 a0 x1 K2 Q x2 h := fun x2 h hI => lp_ind (fun s => I s.1 s.2) (fun s => μ s.1 s.2) (fun s hs' K hK => hs s.1 s.2 hs' _ (fun x2' h' h1 h2 => hK (x2', h') h1 h2)) (x2, h) hI
set_option maxRecDepth 20000 in
theorem tX7_goOut_12 {G : GG} {X : XX} {a0 : Nat} {x1 : Int32} {x2 : Int32} {h : Hp}  {K2 : Int32 → Hp → Prop} {Q : Hp → Prop} (C : Cx G RX7 cX7_goOut 5 none 2 0 0 X) (k0 : kd a0 = 7) (hK2 : ∀ (y1 : Int32) (h' : Hp), K2 y1 h' → R0 G X 0 0 (ZM G (fun r h' => r = none ∧ Q h') X) 2 [some (.ref (G.1 a0)), some (.int y1), none, none, none] [] h') (hw : eX7_goOut_12 a0 x1 K2 Q x2 h) : R0 G X 0 0 (ZM G (fun r h' => r = none ∧ Q h') X) 12 [some (.ref (G.1 a0)), some (.int x1), some (.int x2), none, none] [] h := by
  obtain ⟨N, hw⟩ := hw
  induction N generalizing x2 h with
  | zero => exact hw.elim
  | succ N ih =>
    obtain ⟨K12, eK⟩ : ∃ K : Int32 → Hp → Prop, K = (fun x2 h => lpN (fun (K : Int32 × Hp → Prop) (s : Int32 × Hp) => fX7_goOut_12 a0 x1 K2 Q (fun x2 h => K (x2, h)) s.1 s.2) N (x2, h)) := ⟨_, rfl⟩
    have hw : fX7_goOut_12 a0 x1 K2 Q (fun x2 h => lpN (fun (K : Int32 × Hp → Prop) (s : Int32 × Hp) => fX7_goOut_12 a0 x1 K2 Q (fun x2 h => K (x2, h)) s.1 s.2) N (x2, h)) x2 h := hw
    have hK12 : ∀ (x2 : Int32) (h : Hp), K12 x2 h → R0 G X 0 0 (ZM G (fun r h' => r = none ∧ Q h') X) 12 [some (.ref (G.1 a0)), some (.int x1), some (.int x2), none, none] [] h := fun x2 h q => ih (by rw [eK] at q; exact q)
    rw [← eK] at hw
    clear eK ih
    unfold fX7_goOut_12 at hw
    refine r_iload_n C dX7_goOut_12 rfl ?_
    refine r_iload_n C dX7_goOut_13 rfl ?_
    refine r_icmp_gt 98 C dX7_goOut_14 (by decide) (fun hc => ?_) (fun hc => ?_)
    · replace hw := it_t hc hw
      obtain ⟨v1, ev1⟩ : ∃ v : Int32, v = x1 + (1 : Int32) := ⟨_, rfl⟩
      replace hw := hw v1 ev1
      refine r_iinc v1 [some (.ref (G.1 a0)), some (.int v1), some (.int x2), none, none] C dX7_goOut_98 rfl (by rw [ev1]; rfl) rfl rfl ?_
      refine r_goto 2 C dX7_goOut_101 (by decide) ?_
      refine r_weak [some (.ref (G.1 a0)), some (.int v1), none, none, none] (lw_k (lw_k (lw_d (lw_k (lw_k (lw_n)))))) ?_
      exact hK2 _ _ hw
    · replace hw := it_f hc hw
      refine r_aload_n C dX7_goOut_17 rfl ?_
      refine gX7_13 C (k0) dX7_goOut_18 ?_
      refine r_iload_n C dX7_goOut_21 rfl ?_
      refine r_bipush (32) C dX7_goOut_22 (by decide) ?_
      refine r_imul C dX7_goOut_24 ?_
      refine r_iload_n C dX7_goOut_25 rfl ?_
      refine r_iadd C dX7_goOut_26 ?_
      obtain ⟨hi2, hw⟩ := hw
      refine r_iald C (kr7_3 (k0)) hi2 dX7_goOut_27 ?_
      refine r_topi (fun v3 ev3 => ?_)
      replace hw := hw v3 ev3
      refine r_istore_n [some (.ref (G.1 a0)), some (.int x1), some (.int x2), some (.int v3), none] C dX7_goOut_28 (Nat.le_of_ble_eq_true rfl) rfl rfl ?_
      refine r_iconst (0) C dX7_goOut_29 (by decide) ?_
      refine r_istore [some (.ref (G.1 a0)), some (.int x1), some (.int x2), some (.int v3), some (.int (0 : Int32))] C dX7_goOut_30 (Nat.le_of_ble_eq_true rfl) rfl rfl ?_
      exact tX7_goOut_32 C (k0) hK2 hK12 hw
def fX7_goOut_2 (a0 : Nat) (Q : Hp → Prop) (K2 : Int32 → Hp → Prop) (x1 : Int32) (h : Hp) : Prop :=
  if (gI h a0 6) ≤ x1 then (Q h) else (eX7_goOut_12 a0 x1 K2 Q (0 : Int32) h)
def eX7_goOut_2 (a0 : Nat) (Q : Hp → Prop) (x1 : Int32) (h : Hp) : Prop := ∃ N, lpN (fun (K : Int32 × Hp → Prop) (s : Int32 × Hp) => fX7_goOut_2 a0 Q (fun x1 h => K (x1, h)) s.1 s.2) N (x1, h)
theorem iX7_goOut_2 {a0 : Nat} {Q : Hp → Prop} (I : Int32 → Hp → Prop) (μ : Int32 → Hp → Nat) (hs : ∀ (x1 : Int32) (h : Hp), I x1 h → ∀ K : Int32 → Hp → Prop, (∀ (x1' : Int32) (h' : Hp), I x1' h' → μ x1' h' < μ x1 h → K x1' h') → fX7_goOut_2 a0 Q K x1 h) : ∀ (x1 : Int32) (h : Hp), I x1 h → eX7_goOut_2 a0 Q x1 h := fun x1 h hI => lp_ind (fun s => I s.1 s.2) (fun s => μ s.1 s.2) (fun s hs' K hK => hs s.1 s.2 hs' _ (fun x1' h' h1 h2 => hK (x1', h') h1 h2)) (x1, h) hI
set_option maxRecDepth 20000 in
theorem tX7_goOut_2 {G : GG} {X : XX} {a0 : Nat} {x1 : Int32} {h : Hp}  {Q : Hp → Prop} (C : Cx G RX7 cX7_goOut 5 none 2 0 0 X) (k0 : kd a0 = 7) (hw : eX7_goOut_2 a0 Q x1 h) : R0 G X 0 0 (ZM G (fun r h' => r = none ∧ Q h') X) 2 [some (.ref (G.1 a0)), some (.int x1), none, none, none] [] h := by
  obtain ⟨N, hw⟩ := hw
  induction N generalizing x1 h with
  | zero => exact hw.elim
  | succ N ih =>
    obtain ⟨K2, eK⟩ : ∃ K : Int32 → Hp → Prop, K = (fun x1 h => lpN (fun (K : Int32 × Hp → Prop) (s : Int32 × Hp) => fX7_goOut_2 a0 Q (fun x1 h => K (x1, h)) s.1 s.2) N (x1, h)) := ⟨_, rfl⟩
    have hw : fX7_goOut_2 a0 Q (fun x1 h => lpN (fun (K : Int32 × Hp → Prop) (s : Int32 × Hp) => fX7_goOut_2 a0 Q (fun x1 h => K (x1, h)) s.1 s.2) N (x1, h)) x1 h := hw
    have hK2 : ∀ (x1 : Int32) (h : Hp), K2 x1 h → R0 G X 0 0 (ZM G (fun r h' => r = none ∧ Q h') X) 2 [some (.ref (G.1 a0)), some (.int x1), none, none, none] [] h := fun x1 h q => ih (by rw [eK] at q; exact q)
    rw [← eK] at hw
    clear eK ih
    unfold fX7_goOut_2 at hw
    refine r_iload_n C dX7_goOut_2 rfl ?_
    refine r_aload_n C dX7_goOut_3 rfl ?_
    refine gX7_44 C (k0) dX7_goOut_4 ?_
    refine r_icmp_ge 104 C dX7_goOut_7 (by decide) (fun hc => ?_) (fun hc => ?_)
    · replace hw := it_t hc hw
      exact r_vret C dX7_goOut_104 ⟨rfl, hw⟩
    · replace hw := it_f hc hw
      refine r_iconst (0) C dX7_goOut_10 (by decide) ?_
      refine r_istore_n [some (.ref (G.1 a0)), some (.int x1), some (.int (0 : Int32)), none, none] C dX7_goOut_11 (Nat.le_of_ble_eq_true rfl) rfl rfl ?_
      exact tX7_goOut_12 C (k0) hK2 hw
def wX7_goOut (a0 : Nat) (h : Hp) (Q : Hp → Prop) : Prop :=
  eX7_goOut_2 a0 Q (0 : Int32) h
set_option maxRecDepth 20000 in
theorem sX7_goOut {G : GG} {a0 : Nat} {h : Hp} {Q : Hp → Prop} (k0 : kd a0 = 7) (hw : wX7_goOut a0 h Q) : CV G 2 yX7_goOut cX7_goOut 5 none [.ref (G.1 a0)] h Q := by
  refine CO_of [some (.ref (G.1 a0)), none, none, none, none] (by decide) (Nat.le_of_ble_eq_true rfl) rfl (fun X C => ?_)
  unfold wX7_goOut at hw
  refine r_iconst (0) C dX7_goOut_0 (by decide) ?_
  refine r_istore_n [some (.ref (G.1 a0)), some (.int (0 : Int32)), none, none, none] C dX7_goOut_1 (Nat.le_of_ble_eq_true rfl) rfl rfl ?_
  exact tX7_goOut_2 C (k0) hw
def fX7_comeIn_31 (a0 : Nat) (x1 : Int32) (x2 : Int32) (x3 : Int32) (K2 : Int32 → Hp → Prop) (K12 : Int32 → Hp → Prop) (Q : Hp → Prop) (K31 : Int32 → Hp → Prop) (x4 : Int32) (h : Hp) : Prop :=
  if (gI h a0 5) ≤ x4 then (∀ v1 : Int32, v1 = x2 + (-1 : Int32) → (K12 v1 h)) else (if x3 = (2147483647 : Int32) then (∀ v2 : Int32, v2 = x2 + (-1 : Int32) → (K12 v2 h)) else (vp_in x4 (ln (rf a0 4)) ∧ (if ((gI h (rf a0 4) x4.toNatClampNeg) &&& (x2 ^^^ (-1 : Int32))) = 0 then (vp_in x4 (ln (rf a0 4)) ∧ (wX7_lower a0 ((x1 * (32 : Int32)) + (x2 &&& ((gI h (rf a0 4) x4.toNatClampNeg) ^^^ (-1 : Int32)))) x3 h (fun h7 => ∀ v8 : Int32, v8 = x4 + (1 : Int32) → (K31 v8 h7)))) else (∀ v4 : Int32, v4 = x4 + (1 : Int32) → (K31 v4 h)))))
def eX7_comeIn_31 (a0 : Nat) (x1 : Int32) (x2 : Int32) (x3 : Int32) (K2 : Int32 → Hp → Prop) (K12 : Int32 → Hp → Prop) (Q : Hp → Prop) (x4 : Int32) (h : Hp) : Prop := ∃ N, lpN (fun (K : Int32 × Hp → Prop) (s : Int32 × Hp) => fX7_comeIn_31 a0 x1 x2 x3 K2 K12 Q (fun x4 h => K (x4, h)) s.1 s.2) N (x4, h)
theorem iX7_comeIn_31 {a0 : Nat} {x1 : Int32} {x2 : Int32} {x3 : Int32} {K2 : Int32 → Hp → Prop} {K12 : Int32 → Hp → Prop} {Q : Hp → Prop} (I : Int32 → Hp → Prop) (μ : Int32 → Hp → Nat) (hs : ∀ (x4 : Int32) (h : Hp), I x4 h → ∀ K : Int32 → Hp → Prop, (∀ (x4' : Int32) (h' : Hp), I x4' h' → μ x4' h' < μ x4 h → K x4' h') → fX7_comeIn_31 a0 x1 x2 x3 K2 K12 Q K x4 h) : ∀ (x4 : Int32) (h : Hp), I x4 h → eX7_comeIn_31 a0 x1 x2 x3 K2 K12 Q x4 h := fun x4 h hI => lp_ind (fun s => I s.1 s.2) (fun s => μ s.1 s.2) (fun s hs' K hK => hs s.1 s.2 hs' _ (fun x4' h' h1 h2 => hK (x4', h') h1 h2)) (x4, h) hI
set_option maxRecDepth 20000 in
theorem tX7_comeIn_31 {G : GG} {X : XX} {a0 : Nat} {x1 : Int32} {x2 : Int32} {x3 : Int32} {x4 : Int32} {h : Hp}  {K2 : Int32 → Hp → Prop} {K12 : Int32 → Hp → Prop} {Q : Hp → Prop} (C : Cx G RX7 cX7_comeIn 5 none 2 0 0 X) (k0 : kd a0 = 7) (hK2 : ∀ (y1 : Int32) (h' : Hp), K2 y1 h' → R0 G X 0 0 (ZM G (fun r h' => r = none ∧ Q h') X) 2 [some (.ref (G.1 a0)), some (.int y1), none, none, none] [] h') (hK12 : ∀ (y2 : Int32) (h' : Hp), K12 y2 h' → R0 G X 0 0 (ZM G (fun r h' => r = none ∧ Q h') X) 12 [some (.ref (G.1 a0)), some (.int x1), some (.int y2), none, none] [] h') (hw : eX7_comeIn_31 a0 x1 x2 x3 K2 K12 Q x4 h) : R0 G X 0 0 (ZM G (fun r h' => r = none ∧ Q h') X) 31 [some (.ref (G.1 a0)), some (.int x1), some (.int x2), some (.int x3), some (.int x4)] [] h := by
  obtain ⟨N, hw⟩ := hw
  induction N generalizing x4 h with
  | zero => exact hw.elim
  | succ N ih =>
    obtain ⟨K31, eK⟩ : ∃ K : Int32 → Hp → Prop, K = (fun x4 h => lpN (fun (K : Int32 × Hp → Prop) (s : Int32 × Hp) => fX7_comeIn_31 a0 x1 x2 x3 K2 K12 Q (fun x4 h => K (x4, h)) s.1 s.2) N (x4, h)) := ⟨_, rfl⟩
    have hw : fX7_comeIn_31 a0 x1 x2 x3 K2 K12 Q (fun x4 h => lpN (fun (K : Int32 × Hp → Prop) (s : Int32 × Hp) => fX7_comeIn_31 a0 x1 x2 x3 K2 K12 Q (fun x4 h => K (x4, h)) s.1 s.2) N (x4, h)) x4 h := hw
    have hK31 : ∀ (x4 : Int32) (h : Hp), K31 x4 h → R0 G X 0 0 (ZM G (fun r h' => r = none ∧ Q h') X) 31 [some (.ref (G.1 a0)), some (.int x1), some (.int x2), some (.int x3), some (.int x4)] [] h := fun x4 h q => ih (by rw [eK] at q; exact q)
    rw [← eK] at hw
    clear eK ih
    unfold fX7_comeIn_31 at hw
    refine r_iload C dX7_comeIn_31 rfl ?_
    refine r_aload_n C dX7_comeIn_33 rfl ?_
    refine gX7_55 C (k0) dX7_comeIn_34 ?_
    refine r_icmp_ge 87 C dX7_comeIn_37 (by decide) (fun hc => ?_) (fun hc => ?_)
    · replace hw := it_t hc hw
      obtain ⟨v1, ev1⟩ : ∃ v : Int32, v = x2 + (-1 : Int32) := ⟨_, rfl⟩
      replace hw := hw v1 ev1
      refine r_iinc v1 [some (.ref (G.1 a0)), some (.int x1), some (.int v1), some (.int x3), some (.int x4)] C dX7_comeIn_87 rfl (by rw [ev1]; rfl) rfl rfl ?_
      refine r_goto 12 C dX7_comeIn_90 (by decide) ?_
      refine r_weak [some (.ref (G.1 a0)), some (.int x1), some (.int v1), none, none] (lw_k (lw_k (lw_k (lw_d (lw_d (lw_n)))))) ?_
      exact hK12 _ _ hw
    · replace hw := it_f hc hw
      refine r_iload_n C dX7_comeIn_40 rfl ?_
      refine r_ldc (2147483647) C wd777 dX7_comeIn_41 ?_
      refine r_icmp_eq 87 C dX7_comeIn_43 (by decide) (fun hc => ?_) (fun hc => ?_)
      · replace hw := it_t hc hw
        obtain ⟨v2, ev2⟩ : ∃ v : Int32, v = x2 + (-1 : Int32) := ⟨_, rfl⟩
        replace hw := hw v2 ev2
        refine r_iinc v2 [some (.ref (G.1 a0)), some (.int x1), some (.int v2), some (.int x3), some (.int x4)] C dX7_comeIn_87 rfl (by rw [ev2]; rfl) rfl rfl ?_
        refine r_goto 12 C dX7_comeIn_90 (by decide) ?_
        refine r_weak [some (.ref (G.1 a0)), some (.int x1), some (.int v2), none, none] (lw_k (lw_k (lw_k (lw_d (lw_d (lw_n)))))) ?_
        exact hK12 _ _ hw
      · replace hw := it_f hc hw
        refine r_aload_n C dX7_comeIn_46 rfl ?_
        refine gX7_17 C (k0) dX7_comeIn_47 ?_
        refine r_iload C dX7_comeIn_50 rfl ?_
        obtain ⟨hi3, hw⟩ := hw
        refine r_iald C (kr7_4 (k0)) hi3 dX7_comeIn_52 ?_
        refine r_iload_n C dX7_comeIn_53 rfl ?_
        refine r_iconst (-1) C dX7_comeIn_54 (by decide) ?_
        refine r_ixor C dX7_comeIn_55 ?_
        refine r_iand C dX7_comeIn_56 ?_
        refine r_if_ne 81 C dX7_comeIn_57 (by decide) (fun hc => ?_) (fun hc => ?_)
        · replace hw := it_f hc hw
          obtain ⟨v4, ev4⟩ : ∃ v : Int32, v = x4 + (1 : Int32) := ⟨_, rfl⟩
          replace hw := hw v4 ev4
          refine r_iinc v4 [some (.ref (G.1 a0)), some (.int x1), some (.int x2), some (.int x3), some (.int v4)] C dX7_comeIn_81 rfl (by rw [ev4]; rfl) rfl rfl ?_
          refine r_goto 31 C dX7_comeIn_84 (by decide) ?_
          exact hK31 _ _ hw
        · replace hw := it_t hc hw
          refine r_aload_n C dX7_comeIn_60 rfl ?_
          refine r_iload_n C dX7_comeIn_61 rfl ?_
          refine r_bipush (32) C dX7_comeIn_62 (by decide) ?_
          refine r_imul C dX7_comeIn_64 ?_
          refine r_iload_n C dX7_comeIn_65 rfl ?_
          refine r_aload_n C dX7_comeIn_66 rfl ?_
          refine gX7_17 C (k0) dX7_comeIn_67 ?_
          refine r_iload C dX7_comeIn_70 rfl ?_
          obtain ⟨hi5, hw⟩ := hw
          refine r_iald C (kr7_4 (k0)) hi5 dX7_comeIn_72 ?_
          refine r_iconst (-1) C dX7_comeIn_73 (by decide) ?_
          refine r_ixor C dX7_comeIn_74 ?_
          refine r_iand C dX7_comeIn_75 ?_
          refine r_iadd C dX7_comeIn_76 ?_
          refine r_iload_n C dX7_comeIn_77 rfl ?_
          refine kX7_86 C (k0) (sX7_lower (k0) hw) dX7_comeIn_78 (Nat.le_of_ble_eq_true rfl) rfl (Nat.le_of_ble_eq_true rfl) (fun h7 hw => ?_)
          obtain ⟨v8, ev8⟩ : ∃ v : Int32, v = x4 + (1 : Int32) := ⟨_, rfl⟩
          replace hw := hw v8 ev8
          refine r_iinc v8 [some (.ref (G.1 a0)), some (.int x1), some (.int x2), some (.int x3), some (.int v8)] C dX7_comeIn_81 rfl (by rw [ev8]; rfl) rfl rfl ?_
          refine r_goto 31 C dX7_comeIn_84 (by decide) ?_
          exact hK31 _ _ hw
def fX7_comeIn_12 (a0 : Nat) (x1 : Int32) (K2 : Int32 → Hp → Prop) (Q : Hp → Prop) (K12 : Int32 → Hp → Prop) (x2 : Int32) (h : Hp) : Prop :=
  if x2 ≤ 0 then (∀ v1 : Int32, v1 = x1 + (1 : Int32) → (K2 v1 h)) else (vp_in ((x1 * (32 : Int32)) + x2) (ln (rf a0 3)) ∧ (∀ v3 : Int32, v3 = (gI h (rf a0 3) ((x1 * (32 : Int32)) + x2).toNatClampNeg) → (eX7_comeIn_31 a0 x1 x2 v3 K2 K12 Q (0 : Int32) h)))
def eX7_comeIn_12 (a0 : Nat) (x1 : Int32) (K2 : Int32 → Hp → Prop) (Q : Hp → Prop) (x2 : Int32) (h : Hp) : Prop := ∃ N, lpN (fun (K : Int32 × Hp → Prop) (s : Int32 × Hp) => fX7_comeIn_12 a0 x1 K2 Q (fun x2 h => K (x2, h)) s.1 s.2) N (x2, h)
theorem iX7_comeIn_12 {a0 : Nat} {x1 : Int32} {K2 : Int32 → Hp → Prop} {Q : Hp → Prop} (I : Int32 → Hp → Prop) (μ : Int32 → Hp → Nat) (hs : ∀ (x2 : Int32) (h : Hp), I x2 h → ∀ K : Int32 → Hp → Prop, (∀ (x2' : Int32) (h' : Hp), I x2' h' → μ x2' h' < μ x2 h → K x2' h') → fX7_comeIn_12 a0 x1 K2 Q K x2 h) : ∀ (x2 : Int32) (h : Hp), I x2 h → eX7_comeIn_12 a0 x1 K2 Q x2 h := fun x2 h hI => lp_ind (fun s => I s.1 s.2) (fun s => μ s.1 s.2) (fun s hs' K hK => hs s.1 s.2 hs' _ (fun x2' h' h1 h2 => hK (x2', h') h1 h2)) (x2, h) hI
set_option maxRecDepth 20000 in
theorem tX7_comeIn_12 {G : GG} {X : XX} {a0 : Nat} {x1 : Int32} {x2 : Int32} {h : Hp}  {K2 : Int32 → Hp → Prop} {Q : Hp → Prop} (C : Cx G RX7 cX7_comeIn 5 none 2 0 0 X) (k0 : kd a0 = 7) (hK2 : ∀ (y1 : Int32) (h' : Hp), K2 y1 h' → R0 G X 0 0 (ZM G (fun r h' => r = none ∧ Q h') X) 2 [some (.ref (G.1 a0)), some (.int y1), none, none, none] [] h') (hw : eX7_comeIn_12 a0 x1 K2 Q x2 h) : R0 G X 0 0 (ZM G (fun r h' => r = none ∧ Q h') X) 12 [some (.ref (G.1 a0)), some (.int x1), some (.int x2), none, none] [] h := by
  obtain ⟨N, hw⟩ := hw
  induction N generalizing x2 h with
  | zero => exact hw.elim
  | succ N ih =>
    obtain ⟨K12, eK⟩ : ∃ K : Int32 → Hp → Prop, K = (fun x2 h => lpN (fun (K : Int32 × Hp → Prop) (s : Int32 × Hp) => fX7_comeIn_12 a0 x1 K2 Q (fun x2 h => K (x2, h)) s.1 s.2) N (x2, h)) := ⟨_, rfl⟩
    have hw : fX7_comeIn_12 a0 x1 K2 Q (fun x2 h => lpN (fun (K : Int32 × Hp → Prop) (s : Int32 × Hp) => fX7_comeIn_12 a0 x1 K2 Q (fun x2 h => K (x2, h)) s.1 s.2) N (x2, h)) x2 h := hw
    have hK12 : ∀ (x2 : Int32) (h : Hp), K12 x2 h → R0 G X 0 0 (ZM G (fun r h' => r = none ∧ Q h') X) 12 [some (.ref (G.1 a0)), some (.int x1), some (.int x2), none, none] [] h := fun x2 h q => ih (by rw [eK] at q; exact q)
    rw [← eK] at hw
    clear eK ih
    unfold fX7_comeIn_12 at hw
    refine r_iload_n C dX7_comeIn_12 rfl ?_
    refine r_if_le 93 C dX7_comeIn_13 (by decide) (fun hc => ?_) (fun hc => ?_)
    · replace hw := it_t hc hw
      obtain ⟨v1, ev1⟩ : ∃ v : Int32, v = x1 + (1 : Int32) := ⟨_, rfl⟩
      replace hw := hw v1 ev1
      refine r_iinc v1 [some (.ref (G.1 a0)), some (.int v1), some (.int x2), none, none] C dX7_comeIn_93 rfl (by rw [ev1]; rfl) rfl rfl ?_
      refine r_goto 2 C dX7_comeIn_96 (by decide) ?_
      refine r_weak [some (.ref (G.1 a0)), some (.int v1), none, none, none] (lw_k (lw_k (lw_d (lw_k (lw_k (lw_n)))))) ?_
      exact hK2 _ _ hw
    · replace hw := it_f hc hw
      refine r_aload_n C dX7_comeIn_16 rfl ?_
      refine gX7_13 C (k0) dX7_comeIn_17 ?_
      refine r_iload_n C dX7_comeIn_20 rfl ?_
      refine r_bipush (32) C dX7_comeIn_21 (by decide) ?_
      refine r_imul C dX7_comeIn_23 ?_
      refine r_iload_n C dX7_comeIn_24 rfl ?_
      refine r_iadd C dX7_comeIn_25 ?_
      obtain ⟨hi2, hw⟩ := hw
      refine r_iald C (kr7_3 (k0)) hi2 dX7_comeIn_26 ?_
      refine r_topi (fun v3 ev3 => ?_)
      replace hw := hw v3 ev3
      refine r_istore_n [some (.ref (G.1 a0)), some (.int x1), some (.int x2), some (.int v3), none] C dX7_comeIn_27 (Nat.le_of_ble_eq_true rfl) rfl rfl ?_
      refine r_iconst (0) C dX7_comeIn_28 (by decide) ?_
      refine r_istore [some (.ref (G.1 a0)), some (.int x1), some (.int x2), some (.int v3), some (.int (0 : Int32))] C dX7_comeIn_29 (Nat.le_of_ble_eq_true rfl) rfl rfl ?_
      exact tX7_comeIn_31 C (k0) hK2 hK12 hw
def fX7_comeIn_2 (a0 : Nat) (Q : Hp → Prop) (K2 : Int32 → Hp → Prop) (x1 : Int32) (h : Hp) : Prop :=
  if (gI h a0 6) ≤ x1 then (Q h) else (eX7_comeIn_12 a0 x1 K2 Q x1 h)
def eX7_comeIn_2 (a0 : Nat) (Q : Hp → Prop) (x1 : Int32) (h : Hp) : Prop := ∃ N, lpN (fun (K : Int32 × Hp → Prop) (s : Int32 × Hp) => fX7_comeIn_2 a0 Q (fun x1 h => K (x1, h)) s.1 s.2) N (x1, h)
theorem iX7_comeIn_2 {a0 : Nat} {Q : Hp → Prop} (I : Int32 → Hp → Prop) (μ : Int32 → Hp → Nat) (hs : ∀ (x1 : Int32) (h : Hp), I x1 h → ∀ K : Int32 → Hp → Prop, (∀ (x1' : Int32) (h' : Hp), I x1' h' → μ x1' h' < μ x1 h → K x1' h') → fX7_comeIn_2 a0 Q K x1 h) : ∀ (x1 : Int32) (h : Hp), I x1 h → eX7_comeIn_2 a0 Q x1 h := fun x1 h hI => lp_ind (fun s => I s.1 s.2) (fun s => μ s.1 s.2) (fun s hs' K hK => hs s.1 s.2 hs' _ (fun x1' h' h1 h2 => hK (x1', h') h1 h2)) (x1, h) hI
set_option maxRecDepth 20000 in
theorem tX7_comeIn_2 {G : GG} {X : XX} {a0 : Nat} {x1 : Int32} {h : Hp}  {Q : Hp → Prop} (C : Cx G RX7 cX7_comeIn 5 none 2 0 0 X) (k0 : kd a0 = 7) (hw : eX7_comeIn_2 a0 Q x1 h) : R0 G X 0 0 (ZM G (fun r h' => r = none ∧ Q h') X) 2 [some (.ref (G.1 a0)), some (.int x1), none, none, none] [] h := by
  obtain ⟨N, hw⟩ := hw
  induction N generalizing x1 h with
  | zero => exact hw.elim
  | succ N ih =>
    obtain ⟨K2, eK⟩ : ∃ K : Int32 → Hp → Prop, K = (fun x1 h => lpN (fun (K : Int32 × Hp → Prop) (s : Int32 × Hp) => fX7_comeIn_2 a0 Q (fun x1 h => K (x1, h)) s.1 s.2) N (x1, h)) := ⟨_, rfl⟩
    have hw : fX7_comeIn_2 a0 Q (fun x1 h => lpN (fun (K : Int32 × Hp → Prop) (s : Int32 × Hp) => fX7_comeIn_2 a0 Q (fun x1 h => K (x1, h)) s.1 s.2) N (x1, h)) x1 h := hw
    have hK2 : ∀ (x1 : Int32) (h : Hp), K2 x1 h → R0 G X 0 0 (ZM G (fun r h' => r = none ∧ Q h') X) 2 [some (.ref (G.1 a0)), some (.int x1), none, none, none] [] h := fun x1 h q => ih (by rw [eK] at q; exact q)
    rw [← eK] at hw
    clear eK ih
    unfold fX7_comeIn_2 at hw
    refine r_iload_n C dX7_comeIn_2 rfl ?_
    refine r_aload_n C dX7_comeIn_3 rfl ?_
    refine gX7_44 C (k0) dX7_comeIn_4 ?_
    refine r_icmp_ge 99 C dX7_comeIn_7 (by decide) (fun hc => ?_) (fun hc => ?_)
    · replace hw := it_t hc hw
      exact r_vret C dX7_comeIn_99 ⟨rfl, hw⟩
    · replace hw := it_f hc hw
      refine r_iload_n C dX7_comeIn_10 rfl ?_
      refine r_istore_n [some (.ref (G.1 a0)), some (.int x1), some (.int x1), none, none] C dX7_comeIn_11 (Nat.le_of_ble_eq_true rfl) rfl rfl ?_
      exact tX7_comeIn_12 C (k0) hK2 hw
def wX7_comeIn (a0 : Nat) (h : Hp) (Q : Hp → Prop) : Prop :=
  eX7_comeIn_2 a0 Q (0 : Int32) h
set_option maxRecDepth 20000 in
theorem sX7_comeIn {G : GG} {a0 : Nat} {h : Hp} {Q : Hp → Prop} (k0 : kd a0 = 7) (hw : wX7_comeIn a0 h Q) : CV G 2 yX7_comeIn cX7_comeIn 5 none [.ref (G.1 a0)] h Q := by
  refine CO_of [some (.ref (G.1 a0)), none, none, none, none] (by decide) (Nat.le_of_ble_eq_true rfl) rfl (fun X C => ?_)
  unfold wX7_comeIn at hw
  refine r_iconst (0) C dX7_comeIn_0 (by decide) ?_
  refine r_istore_n [some (.ref (G.1 a0)), some (.int (0 : Int32)), none, none, none] C dX7_comeIn_1 (Nat.le_of_ble_eq_true rfl) rfl rfl ?_
  exact tX7_comeIn_2 C (k0) hw
def fX7_payAll_40 (a0 : Nat) (x2 : Int32) (x3 : Int32) (x4 : Int32) (K28 : Int32 → Hp → Prop) (Q : Hp → Prop) (K40 : Int32 → Hp → Prop) (x5 : Int32) (h : Hp) : Prop :=
  if x4 < x5 then (∀ v1 : Int32, v1 = x4 + (1 : Int32) → (K28 v1 h)) else (vp_in ((x4 * (32 : Int32)) + x5) (ln (rf a0 3)) ∧ (if (gI h (rf a0 3) ((x4 * (32 : Int32)) + x5).toNatClampNeg) = (2147483647 : Int32) then (∀ v3 : Int32, v3 = x5 + (1 : Int32) → (K40 v3 h)) else (vp_in ((x4 * (32 : Int32)) + x5) (ln (rf a0 3)) ∧ (wX8_costOf (rf a0 1) ((x2 &&& (x4 ^^^ (-1 : Int32))) ||| (x3 &&& x5)) h (fun v5 => vp_in ((x4 * (32 : Int32)) + x5) (ln (rf a0 3)) ∧ (∀ h7 : Hp, h7 = sI h (rf a0 3) ((x4 * (32 : Int32)) + x5).toNatClampNeg ((gI h (rf a0 3) ((x4 * (32 : Int32)) + x5).toNatClampNeg) + v5) → (∀ v8 : Int32, v8 = x5 + (1 : Int32) → (K40 v8 h7))))))))
def eX7_payAll_40 (a0 : Nat) (x2 : Int32) (x3 : Int32) (x4 : Int32) (K28 : Int32 → Hp → Prop) (Q : Hp → Prop) (x5 : Int32) (h : Hp) : Prop := ∃ N, lpN (fun (K : Int32 × Hp → Prop) (s : Int32 × Hp) => fX7_payAll_40 a0 x2 x3 x4 K28 Q (fun x5 h => K (x5, h)) s.1 s.2) N (x5, h)
theorem iX7_payAll_40 {a0 : Nat} {x2 : Int32} {x3 : Int32} {x4 : Int32} {K28 : Int32 → Hp → Prop} {Q : Hp → Prop} (I : Int32 → Hp → Prop) (μ : Int32 → Hp → Nat) (hs : ∀ (x5 : Int32) (h : Hp), I x5 h → ∀ K : Int32 → Hp → Prop, (∀ (x5' : Int32) (h' : Hp), I x5' h' → μ x5' h' < μ x5 h → K x5' h') → fX7_payAll_40 a0 x2 x3 x4 K28 Q K x5 h) : ∀ (x5 : Int32) (h : Hp), I x5 h → eX7_payAll_40 a0 x2 x3 x4 K28 Q x5 h := fun x5 h hI => lp_ind (fun s => I s.1 s.2) (fun s => μ s.1 s.2) (fun s hs' K hK => hs s.1 s.2 hs' _ (fun x5' h' h1 h2 => hK (x5', h') h1 h2)) (x5, h) hI
set_option maxRecDepth 20000 in
theorem tX7_payAll_40 {G : GG} {X : XX} {a0 : Nat} {x2 : Int32} {x3 : Int32} {x4 : Int32} {x5 : Int32} {h : Hp}  {K28 : Int32 → Hp → Prop} {Q : Hp → Prop} (C : Cx G RX7 cX7_payAll 6 none 2 0 0 X) (k0 : kd a0 = 7) (hK28 : ∀ (y4 : Int32) (h' : Hp), K28 y4 h' → R0 G X 0 0 (ZM G (fun r h' => r = none ∧ Q h') X) 28 [some (.ref (G.1 a0)), none, some (.int x2), some (.int x3), some (.int y4), none] [] h') (hw : eX7_payAll_40 a0 x2 x3 x4 K28 Q x5 h) : R0 G X 0 0 (ZM G (fun r h' => r = none ∧ Q h') X) 40 [some (.ref (G.1 a0)), none, some (.int x2), some (.int x3), some (.int x4), some (.int x5)] [] h := by
  obtain ⟨N, hw⟩ := hw
  induction N generalizing x5 h with
  | zero => exact hw.elim
  | succ N ih =>
    obtain ⟨K40, eK⟩ : ∃ K : Int32 → Hp → Prop, K = (fun x5 h => lpN (fun (K : Int32 × Hp → Prop) (s : Int32 × Hp) => fX7_payAll_40 a0 x2 x3 x4 K28 Q (fun x5 h => K (x5, h)) s.1 s.2) N (x5, h)) := ⟨_, rfl⟩
    have hw : fX7_payAll_40 a0 x2 x3 x4 K28 Q (fun x5 h => lpN (fun (K : Int32 × Hp → Prop) (s : Int32 × Hp) => fX7_payAll_40 a0 x2 x3 x4 K28 Q (fun x5 h => K (x5, h)) s.1 s.2) N (x5, h)) x5 h := hw
    have hK40 : ∀ (x5 : Int32) (h : Hp), K40 x5 h → R0 G X 0 0 (ZM G (fun r h' => r = none ∧ Q h') X) 40 [some (.ref (G.1 a0)), none, some (.int x2), some (.int x3), some (.int x4), some (.int x5)] [] h := fun x5 h q => ih (by rw [eK] at q; exact q)
    rw [← eK] at hw
    clear eK ih
    unfold fX7_payAll_40 at hw
    refine r_iload C dX7_payAll_40 rfl ?_
    refine r_iload C dX7_payAll_42 rfl ?_
    refine r_icmp_gt 105 C dX7_payAll_44 (by decide) (fun hc => ?_) (fun hc => ?_)
    · replace hw := it_t hc hw
      obtain ⟨v1, ev1⟩ : ∃ v : Int32, v = x4 + (1 : Int32) := ⟨_, rfl⟩
      replace hw := hw v1 ev1
      refine r_iinc v1 [some (.ref (G.1 a0)), none, some (.int x2), some (.int x3), some (.int v1), some (.int x5)] C dX7_payAll_105 rfl (by rw [ev1]; rfl) rfl rfl ?_
      refine r_goto 28 C dX7_payAll_108 (by decide) ?_
      refine r_weak [some (.ref (G.1 a0)), none, some (.int x2), some (.int x3), some (.int v1), none] (lw_k (lw_k (lw_k (lw_k (lw_k (lw_d (lw_n))))))) ?_
      exact hK28 _ _ hw
    · replace hw := it_f hc hw
      refine r_aload_n C dX7_payAll_47 rfl ?_
      refine gX7_13 C (k0) dX7_payAll_48 ?_
      refine r_iload C dX7_payAll_51 rfl ?_
      refine r_bipush (32) C dX7_payAll_53 (by decide) ?_
      refine r_imul C dX7_payAll_55 ?_
      refine r_iload C dX7_payAll_56 rfl ?_
      refine r_iadd C dX7_payAll_58 ?_
      obtain ⟨hi2, hw⟩ := hw
      refine r_iald C (kr7_3 (k0)) hi2 dX7_payAll_59 ?_
      refine r_ldc (2147483647) C wd777 dX7_payAll_60 ?_
      refine r_icmp_eq 99 C dX7_payAll_62 (by decide) (fun hc => ?_) (fun hc => ?_)
      · replace hw := it_t hc hw
        obtain ⟨v3, ev3⟩ : ∃ v : Int32, v = x5 + (1 : Int32) := ⟨_, rfl⟩
        replace hw := hw v3 ev3
        refine r_iinc v3 [some (.ref (G.1 a0)), none, some (.int x2), some (.int x3), some (.int x4), some (.int v3)] C dX7_payAll_99 rfl (by rw [ev3]; rfl) rfl rfl ?_
        refine r_goto 40 C dX7_payAll_102 (by decide) ?_
        exact hK40 _ _ hw
      · replace hw := it_f hc hw
        refine r_aload_n C dX7_payAll_65 rfl ?_
        refine gX7_13 C (k0) dX7_payAll_66 ?_
        refine r_iload C dX7_payAll_69 rfl ?_
        refine r_bipush (32) C dX7_payAll_71 (by decide) ?_
        refine r_imul C dX7_payAll_73 ?_
        refine r_iload C dX7_payAll_74 rfl ?_
        refine r_iadd C dX7_payAll_76 ?_
        refine r_dup2_11 C dX7_payAll_77 rfl rfl ?_
        obtain ⟨hi4, hw⟩ := hw
        refine r_iald C (kr7_3 (k0)) hi4 dX7_payAll_78 ?_
        refine r_aload_n C dX7_payAll_79 rfl ?_
        refine gX7_24 C (k0) dX7_payAll_80 ?_
        refine r_iload_n C dX7_payAll_83 rfl ?_
        refine r_iload C dX7_payAll_84 rfl ?_
        refine r_iconst (-1) C dX7_payAll_86 (by decide) ?_
        refine r_ixor C dX7_payAll_87 ?_
        refine r_iand C dX7_payAll_88 ?_
        refine r_iload_n C dX7_payAll_89 rfl ?_
        refine r_iload C dX7_payAll_90 rfl ?_
        refine r_iand C dX7_payAll_92 ?_
        refine r_ior C dX7_payAll_93 ?_
        refine kX7_90 C (kr7_1 (k0)) (sX8_costOf (kr7_1 (k0)) hw) dX7_payAll_94 (Nat.le_of_ble_eq_true rfl) rfl (Nat.le_of_ble_eq_true rfl) (fun v5 hw => ?_)
        refine r_iadd C dX7_payAll_97 ?_
        obtain ⟨hi6, hw⟩ := hw
        refine r_iast C (kr7_3 (k0)) hi6 dX7_payAll_98 ?_
        refine r_toph (fun h7 eh7 => ?_)
        replace hw := hw h7 eh7
        obtain ⟨v8, ev8⟩ : ∃ v : Int32, v = x5 + (1 : Int32) := ⟨_, rfl⟩
        replace hw := hw v8 ev8
        refine r_iinc v8 [some (.ref (G.1 a0)), none, some (.int x2), some (.int x3), some (.int x4), some (.int v8)] C dX7_payAll_99 rfl (by rw [ev8]; rfl) rfl rfl ?_
        refine r_goto 40 C dX7_payAll_102 (by decide) ?_
        exact hK40 _ _ hw
def fX7_payAll_28 (a0 : Nat) (x2 : Int32) (x3 : Int32) (Q : Hp → Prop) (K28 : Int32 → Hp → Prop) (x4 : Int32) (h : Hp) : Prop :=
  if (gI h a0 6) ≤ x4 then (Q h) else (eX7_payAll_40 a0 x2 x3 x4 K28 Q (0 : Int32) h)
def eX7_payAll_28 (a0 : Nat) (x2 : Int32) (x3 : Int32) (Q : Hp → Prop) (x4 : Int32) (h : Hp) : Prop := ∃ N, lpN (fun (K : Int32 × Hp → Prop) (s : Int32 × Hp) => fX7_payAll_28 a0 x2 x3 Q (fun x4 h => K (x4, h)) s.1 s.2) N (x4, h)
theorem iX7_payAll_28 {a0 : Nat} {x2 : Int32} {x3 : Int32} {Q : Hp → Prop} (I : Int32 → Hp → Prop) (μ : Int32 → Hp → Nat) (hs : ∀ (x4 : Int32) (h : Hp), I x4 h → ∀ K : Int32 → Hp → Prop, (∀ (x4' : Int32) (h' : Hp), I x4' h' → μ x4' h' < μ x4 h → K x4' h') → fX7_payAll_28 a0 x2 x3 Q K x4 h) : ∀ (x4 : Int32) (h : Hp), I x4 h → eX7_payAll_28 a0 x2 x3 Q x4 h := fun x4 h hI => lp_ind (fun s => I s.1 s.2) (fun s => μ s.1 s.2) (fun s hs' K hK => hs s.1 s.2 hs' _ (fun x4' h' h1 h2 => hK (x4', h') h1 h2)) (x4, h) hI
set_option maxRecDepth 20000 in
theorem tX7_payAll_28 {G : GG} {X : XX} {a0 : Nat} {x2 : Int32} {x3 : Int32} {x4 : Int32} {h : Hp}  {Q : Hp → Prop} (C : Cx G RX7 cX7_payAll 6 none 2 0 0 X) (k0 : kd a0 = 7) (hw : eX7_payAll_28 a0 x2 x3 Q x4 h) : R0 G X 0 0 (ZM G (fun r h' => r = none ∧ Q h') X) 28 [some (.ref (G.1 a0)), none, some (.int x2), some (.int x3), some (.int x4), none] [] h := by
  obtain ⟨N, hw⟩ := hw
  induction N generalizing x4 h with
  | zero => exact hw.elim
  | succ N ih =>
    obtain ⟨K28, eK⟩ : ∃ K : Int32 → Hp → Prop, K = (fun x4 h => lpN (fun (K : Int32 × Hp → Prop) (s : Int32 × Hp) => fX7_payAll_28 a0 x2 x3 Q (fun x4 h => K (x4, h)) s.1 s.2) N (x4, h)) := ⟨_, rfl⟩
    have hw : fX7_payAll_28 a0 x2 x3 Q (fun x4 h => lpN (fun (K : Int32 × Hp → Prop) (s : Int32 × Hp) => fX7_payAll_28 a0 x2 x3 Q (fun x4 h => K (x4, h)) s.1 s.2) N (x4, h)) x4 h := hw
    have hK28 : ∀ (x4 : Int32) (h : Hp), K28 x4 h → R0 G X 0 0 (ZM G (fun r h' => r = none ∧ Q h') X) 28 [some (.ref (G.1 a0)), none, some (.int x2), some (.int x3), some (.int x4), none] [] h := fun x4 h q => ih (by rw [eK] at q; exact q)
    rw [← eK] at hw
    clear eK ih
    unfold fX7_payAll_28 at hw
    refine r_iload C dX7_payAll_28 rfl ?_
    refine r_aload_n C dX7_payAll_30 rfl ?_
    refine gX7_44 C (k0) dX7_payAll_31 ?_
    refine r_icmp_ge 111 C dX7_payAll_34 (by decide) (fun hc => ?_) (fun hc => ?_)
    · replace hw := it_t hc hw
      exact r_vret C dX7_payAll_111 ⟨rfl, hw⟩
    · replace hw := it_f hc hw
      refine r_iconst (0) C dX7_payAll_37 (by decide) ?_
      refine r_istore [some (.ref (G.1 a0)), none, some (.int x2), some (.int x3), some (.int x4), some (.int (0 : Int32))] C dX7_payAll_38 (Nat.le_of_ble_eq_true rfl) rfl rfl ?_
      exact tX7_payAll_40 C (k0) hK28 hw
def wX7_payAll (a0 : Nat) (x1 : Int32) (h : Hp) (Q : Hp → Prop) : Prop :=
  wX8_waitingOut (rf a0 1) x1 (0 : Int32) h (fun v1 => wX8_waitingIn (rf a0 1) x1 ((gI h a0 6) - (1 : Int32)) h (fun v2 => eX7_payAll_28 a0 v1 v2 Q (0 : Int32) h))
set_option maxRecDepth 20000 in
theorem sX7_payAll {G : GG} {a0 : Nat} {x1 : Int32} {h : Hp} {Q : Hp → Prop} (k0 : kd a0 = 7) (hw : wX7_payAll a0 x1 h Q) : CV G 2 yX7_payAll cX7_payAll 6 none [.ref (G.1 a0), .int x1] h Q := by
  refine CO_of [some (.ref (G.1 a0)), some (.int x1), none, none, none, none] (by decide) (Nat.le_of_ble_eq_true rfl) rfl (fun X C => ?_)
  unfold wX7_payAll at hw
  refine r_aload_n C dX7_payAll_0 rfl ?_
  refine gX7_24 C (k0) dX7_payAll_1 ?_
  refine r_iload_n C dX7_payAll_4 rfl ?_
  refine r_iconst (0) C dX7_payAll_5 (by decide) ?_
  refine kX7_48 C (kr7_1 (k0)) (sX8_waitingOut (kr7_1 (k0)) hw) dX7_payAll_6 (Nat.le_of_ble_eq_true rfl) rfl (Nat.le_of_ble_eq_true rfl) (fun v1 hw => ?_)
  refine r_istore_n [some (.ref (G.1 a0)), some (.int x1), some (.int v1), none, none, none] C dX7_payAll_9 (Nat.le_of_ble_eq_true rfl) rfl rfl ?_
  refine r_aload_n C dX7_payAll_10 rfl ?_
  refine gX7_24 C (k0) dX7_payAll_11 ?_
  refine r_iload_n C dX7_payAll_14 rfl ?_
  refine r_aload_n C dX7_payAll_15 rfl ?_
  refine gX7_44 C (k0) dX7_payAll_16 ?_
  refine r_iconst (1) C dX7_payAll_19 (by decide) ?_
  refine r_isub C dX7_payAll_20 ?_
  refine kX7_61 C (kr7_1 (k0)) (sX8_waitingIn (kr7_1 (k0)) hw) dX7_payAll_21 (Nat.le_of_ble_eq_true rfl) rfl (Nat.le_of_ble_eq_true rfl) (fun v2 hw => ?_)
  refine r_istore_n [some (.ref (G.1 a0)), some (.int x1), some (.int v1), some (.int v2), none, none] C dX7_payAll_24 (Nat.le_of_ble_eq_true rfl) rfl rfl ?_
  refine r_iconst (0) C dX7_payAll_25 (by decide) ?_
  refine r_istore [some (.ref (G.1 a0)), some (.int x1), some (.int v1), some (.int v2), some (.int (0 : Int32)), none] C dX7_payAll_26 (Nat.le_of_ble_eq_true rfl) rfl rfl ?_
  refine r_weak [some (.ref (G.1 a0)), none, some (.int v1), some (.int v2), some (.int (0 : Int32)), none] (lw_k (lw_d (lw_k (lw_k (lw_k (lw_k (lw_n))))))) ?_
  exact tX7_payAll_28 C (k0) hw
def fX7_cost_129 (a0 : Nat) (h : Hp) (Q : Int32 → Hp → Prop) (K129 : Int32 → Int32 → Prop) (x1 : Int32) (x2 : Int32) : Prop :=
  if (1024 : Int32) ≤ x2 then (Q x1 h) else (vp_in x2 (ln (rf a0 3)) ∧ (∀ v2 : Int32, v2 = (mn x1 (gI h (rf a0 3) x2.toNatClampNeg)) → (∀ v3 : Int32, v3 = x2 + (1 : Int32) → (K129 v2 v3))))
def eX7_cost_129 (a0 : Nat) (h : Hp) (Q : Int32 → Hp → Prop) (x1 : Int32) (x2 : Int32) : Prop := ∃ N, lpN (fun (K : Int32 × Int32 → Prop) (s : Int32 × Int32) => fX7_cost_129 a0 h Q (fun x1 x2 => K (x1, x2)) s.1 s.2) N (x1, x2)
theorem iX7_cost_129 {a0 : Nat} {h : Hp} {Q : Int32 → Hp → Prop} (I : Int32 → Int32 → Prop) (μ : Int32 → Int32 → Nat) (hs : ∀ (x1 : Int32) (x2 : Int32), I x1 x2 → ∀ K : Int32 → Int32 → Prop, (∀ (x1' : Int32) (x2' : Int32), I x1' x2' → μ x1' x2' < μ x1 x2 → K x1' x2') → fX7_cost_129 a0 h Q K x1 x2) : ∀ (x1 : Int32) (x2 : Int32), I x1 x2 → eX7_cost_129 a0 h Q x1 x2 := fun x1 x2 hI => lp_ind (fun s => I s.1 s.2) (fun s => μ s.1 s.2) (fun s hs' K hK => hs s.1 s.2 hs' _ (fun x1' x2' h1 h2 => hK (x1', x2') h1 h2)) (x1, x2) hI
set_option maxRecDepth 20000 in
theorem tX7_cost_129 {G : GG} {X : XX} {a0 : Nat} {x1 : Int32} {x2 : Int32} {h : Hp}  {Q : Int32 → Hp → Prop} (C : Cx G RX7 cX7_cost 3 (some .int) 5 0 0 X) (k0 : kd a0 = 7) (hw : eX7_cost_129 a0 h Q x1 x2) : R0 G X 0 0 (ZM G (fun r h' => ∃ v, r = some (.int v) ∧ Q v h') X) 129 [some (.ref (G.1 a0)), some (.int x1), some (.int x2)] [] h := by
  obtain ⟨N, hw⟩ := hw
  induction N generalizing x1 x2 with
  | zero => exact hw.elim
  | succ N ih =>
    obtain ⟨K129, eK⟩ : ∃ K : Int32 → Int32 → Prop, K = (fun x1 x2 => lpN (fun (K : Int32 × Int32 → Prop) (s : Int32 × Int32) => fX7_cost_129 a0 h Q (fun x1 x2 => K (x1, x2)) s.1 s.2) N (x1, x2)) := ⟨_, rfl⟩
    have hw : fX7_cost_129 a0 h Q (fun x1 x2 => lpN (fun (K : Int32 × Int32 → Prop) (s : Int32 × Int32) => fX7_cost_129 a0 h Q (fun x1 x2 => K (x1, x2)) s.1 s.2) N (x1, x2)) x1 x2 := hw
    have hK129 : ∀ (x1 : Int32) (x2 : Int32), K129 x1 x2 → R0 G X 0 0 (ZM G (fun r h' => ∃ v, r = some (.int v) ∧ Q v h') X) 129 [some (.ref (G.1 a0)), some (.int x1), some (.int x2)] [] h := fun x1 x2 q => ih (by rw [eK] at q; exact q)
    rw [← eK] at hw
    clear eK ih
    unfold fX7_cost_129 at hw
    refine r_iload_n C dX7_cost_129 rfl ?_
    refine r_sipush (1024) C dX7_cost_130 (by decide) ?_
    refine r_icmp_ge 153 C dX7_cost_133 (by decide) (fun hc => ?_) (fun hc => ?_)
    · replace hw := it_t hc hw
      refine r_iload_n C dX7_cost_153 rfl ?_
      exact r_iret C dX7_cost_154 ⟨_, rfl, hw⟩
    · replace hw := it_f hc hw
      refine r_iload_n C dX7_cost_136 rfl ?_
      refine r_aload_n C dX7_cost_137 rfl ?_
      refine gX7_13 C (k0) dX7_cost_138 ?_
      refine r_iload_n C dX7_cost_141 rfl ?_
      obtain ⟨hi1, hw⟩ := hw
      refine r_iald C (kr7_3 (k0)) hi1 dX7_cost_142 ?_
      refine r_mmin C ⟨wd776, wd667, wd109, wd668⟩ (Nat.le_of_ble_eq_true rfl) rfl (Nat.le_of_ble_eq_true rfl) dX7_cost_143 ?_
      refine r_topi (fun v2 ev2 => ?_)
      replace hw := hw v2 ev2
      refine r_istore_n [some (.ref (G.1 a0)), some (.int v2), some (.int x2)] C dX7_cost_146 (Nat.le_of_ble_eq_true rfl) rfl rfl ?_
      obtain ⟨v3, ev3⟩ : ∃ v : Int32, v = x2 + (1 : Int32) := ⟨_, rfl⟩
      replace hw := hw v3 ev3
      refine r_iinc v3 [some (.ref (G.1 a0)), some (.int v2), some (.int v3)] C dX7_cost_147 rfl (by rw [ev3]; rfl) rfl rfl ?_
      refine r_goto 129 C dX7_cost_150 (by decide) ?_
      exact hK129 _ _ hw
def jX7_cost_113 (a0 : Nat) (x1 : Int32) (h : Hp) (K50 : Int32 → Hp → Prop) (Q : Int32 → Hp → Prop) : Prop :=
  wX7_payAll a0 x1 h (fun h2 => ∀ v3 : Int32, v3 = x1 + (1 : Int32) → (K50 v3 h2))
set_option maxRecDepth 20000 in
theorem tX7_cost_113 {G : GG} {X : XX} {a0 : Nat} {x1 : Int32} {h : Hp}  {K50 : Int32 → Hp → Prop} {Q : Int32 → Hp → Prop} (C : Cx G RX7 cX7_cost 3 (some .int) 5 0 0 X) (k0 : kd a0 = 7) (hK50 : ∀ (y1 : Int32) (h' : Hp), K50 y1 h' → R0 G X 0 0 (ZM G (fun r h' => ∃ v, r = some (.int v) ∧ Q v h') X) 50 [some (.ref (G.1 a0)), some (.int y1), none] [] h') (hw : jX7_cost_113 a0 x1 h K50 Q) : R0 G X 0 0 (ZM G (fun r h' => ∃ v, r = some (.int v) ∧ Q v h') X) 113 [some (.ref (G.1 a0)), some (.int x1), none] [] h := by
  unfold jX7_cost_113 at hw
  refine r_aload_n C dX7_cost_113 rfl ?_
  refine r_iload_n C dX7_cost_114 rfl ?_
  refine kX7_67 C (k0) (sX7_payAll (k0) hw) dX7_cost_115 (Nat.le_of_ble_eq_true rfl) rfl (Nat.le_of_ble_eq_true rfl) (fun h2 hw => ?_)
  obtain ⟨v3, ev3⟩ : ∃ v : Int32, v = x1 + (1 : Int32) := ⟨_, rfl⟩
  replace hw := hw v3 ev3
  refine r_iinc v3 [some (.ref (G.1 a0)), some (.int v3), none] C dX7_cost_118 rfl (by rw [ev3]; rfl) rfl rfl ?_
  refine r_goto 50 C dX7_cost_121 (by decide) ?_
  exact hK50 _ _ hw
def jX7_cost_82 (a0 : Nat) (x1 : Int32) (h : Hp) (K50 : Int32 → Hp → Prop) (Q : Int32 → Hp → Prop) : Prop :=
  wX8_waitingIn (rf a0 1) x1 ((gI h a0 6) - (1 : Int32)) h (fun v1 => wX7_findGroups a0 v1 (1 : Int32) x1 h (fun h3 => if (gI h3 a0 5) ≤ 0 then (jX7_cost_113 a0 x1 h3 K50 Q) else (wX7_comeIn a0 h3 (fun h5 => jX7_cost_113 a0 x1 h5 K50 Q))))
set_option maxRecDepth 20000 in
theorem tX7_cost_82 {G : GG} {X : XX} {a0 : Nat} {x1 : Int32} {h : Hp}  {K50 : Int32 → Hp → Prop} {Q : Int32 → Hp → Prop} (C : Cx G RX7 cX7_cost 3 (some .int) 5 0 0 X) (k0 : kd a0 = 7) (hK50 : ∀ (y1 : Int32) (h' : Hp), K50 y1 h' → R0 G X 0 0 (ZM G (fun r h' => ∃ v, r = some (.int v) ∧ Q v h') X) 50 [some (.ref (G.1 a0)), some (.int y1), none] [] h') (hw : jX7_cost_82 a0 x1 h K50 Q) : R0 G X 0 0 (ZM G (fun r h' => ∃ v, r = some (.int v) ∧ Q v h') X) 82 [some (.ref (G.1 a0)), some (.int x1), none] [] h := by
  unfold jX7_cost_82 at hw
  refine r_aload_n C dX7_cost_82 rfl ?_
  refine r_aload_n C dX7_cost_83 rfl ?_
  refine gX7_24 C (k0) dX7_cost_84 ?_
  refine r_iload_n C dX7_cost_87 rfl ?_
  refine r_aload_n C dX7_cost_88 rfl ?_
  refine gX7_44 C (k0) dX7_cost_89 ?_
  refine r_iconst (1) C dX7_cost_92 (by decide) ?_
  refine r_isub C dX7_cost_93 ?_
  refine kX7_61 C (kr7_1 (k0)) (sX8_waitingIn (kr7_1 (k0)) hw) dX7_cost_94 (Nat.le_of_ble_eq_true rfl) rfl (Nat.le_of_ble_eq_true rfl) (fun v1 hw => ?_)
  refine r_iconst (1) C dX7_cost_97 (by decide) ?_
  refine r_iload_n C dX7_cost_98 rfl ?_
  refine kX7_51 C (k0) (sX7_findGroups (k0) hw) dX7_cost_99 (Nat.le_of_ble_eq_true rfl) rfl (Nat.le_of_ble_eq_true rfl) (fun h3 hw => ?_)
  refine r_aload_n C dX7_cost_102 rfl ?_
  refine gX7_55 C (k0) dX7_cost_103 ?_
  refine r_if_le 113 C dX7_cost_106 (by decide) (fun hc => ?_) (fun hc => ?_)
  · replace hw := it_t hc hw
    exact tX7_cost_113 C (k0) hK50 hw
  · replace hw := it_f hc hw
    refine r_aload_n C dX7_cost_109 rfl ?_
    refine kX7_64 C (k0) (sX7_comeIn (k0) hw) dX7_cost_110 (Nat.le_of_ble_eq_true rfl) rfl (Nat.le_of_ble_eq_true rfl) (fun h5 hw => ?_)
    exact tX7_cost_113 C (k0) hK50 hw
def fX7_cost_50 (a0 : Nat) (Q : Int32 → Hp → Prop) (K50 : Int32 → Hp → Prop) (x1 : Int32) (h : Hp) : Prop :=
  if (60 : Int32) ≤ x1 then (eX7_cost_129 a0 h Q (2147483647 : Int32) (0 : Int32)) else (wX8_waitingOut (rf a0 1) x1 (0 : Int32) h (fun v1 => wX7_findGroups a0 v1 (0 : Int32) x1 h (fun h3 => if (gI h3 a0 5) ≤ 0 then (jX7_cost_82 a0 x1 h3 K50 Q) else (wX7_goOut a0 h3 (fun h5 => jX7_cost_82 a0 x1 h5 K50 Q)))))
def eX7_cost_50 (a0 : Nat) (Q : Int32 → Hp → Prop) (x1 : Int32) (h : Hp) : Prop := ∃ N, lpN (fun (K : Int32 × Hp → Prop) (s : Int32 × Hp) => fX7_cost_50 a0 Q (fun x1 h => K (x1, h)) s.1 s.2) N (x1, h)
theorem iX7_cost_50 {a0 : Nat} {Q : Int32 → Hp → Prop} (I : Int32 → Hp → Prop) (μ : Int32 → Hp → Nat) (hs : ∀ (x1 : Int32) (h : Hp), I x1 h → ∀ K : Int32 → Hp → Prop, (∀ (x1' : Int32) (h' : Hp), I x1' h' → μ x1' h' < μ x1 h → K x1' h') → fX7_cost_50 a0 Q K x1 h) : ∀ (x1 : Int32) (h : Hp), I x1 h → eX7_cost_50 a0 Q x1 h := fun x1 h hI => lp_ind (fun s => I s.1 s.2) (fun s => μ s.1 s.2) (fun s hs' K hK => hs s.1 s.2 hs' _ (fun x1' h' h1 h2 => hK (x1', h') h1 h2)) (x1, h) hI
set_option maxRecDepth 20000 in
theorem tX7_cost_50 {G : GG} {X : XX} {a0 : Nat} {x1 : Int32} {h : Hp}  {Q : Int32 → Hp → Prop} (C : Cx G RX7 cX7_cost 3 (some .int) 5 0 0 X) (k0 : kd a0 = 7) (hw : eX7_cost_50 a0 Q x1 h) : R0 G X 0 0 (ZM G (fun r h' => ∃ v, r = some (.int v) ∧ Q v h') X) 50 [some (.ref (G.1 a0)), some (.int x1), none] [] h := by
  obtain ⟨N, hw⟩ := hw
  induction N generalizing x1 h with
  | zero => exact hw.elim
  | succ N ih =>
    obtain ⟨K50, eK⟩ : ∃ K : Int32 → Hp → Prop, K = (fun x1 h => lpN (fun (K : Int32 × Hp → Prop) (s : Int32 × Hp) => fX7_cost_50 a0 Q (fun x1 h => K (x1, h)) s.1 s.2) N (x1, h)) := ⟨_, rfl⟩
    have hw : fX7_cost_50 a0 Q (fun x1 h => lpN (fun (K : Int32 × Hp → Prop) (s : Int32 × Hp) => fX7_cost_50 a0 Q (fun x1 h => K (x1, h)) s.1 s.2) N (x1, h)) x1 h := hw
    have hK50 : ∀ (x1 : Int32) (h : Hp), K50 x1 h → R0 G X 0 0 (ZM G (fun r h' => ∃ v, r = some (.int v) ∧ Q v h') X) 50 [some (.ref (G.1 a0)), some (.int x1), none] [] h := fun x1 h q => ih (by rw [eK] at q; exact q)
    rw [← eK] at hw
    clear eK ih
    unfold fX7_cost_50 at hw
    refine r_iload_n C dX7_cost_50 rfl ?_
    refine r_bipush (60) C dX7_cost_51 (by decide) ?_
    refine r_icmp_ge 124 C dX7_cost_53 (by decide) (fun hc => ?_) (fun hc => ?_)
    · replace hw := it_t hc hw
      refine r_ldc (2147483647) C wd777 dX7_cost_124 ?_
      refine r_istore_n [some (.ref (G.1 a0)), some (.int (2147483647 : Int32)), none] C dX7_cost_126 (Nat.le_of_ble_eq_true rfl) rfl rfl ?_
      refine r_iconst (0) C dX7_cost_127 (by decide) ?_
      refine r_istore_n [some (.ref (G.1 a0)), some (.int (2147483647 : Int32)), some (.int (0 : Int32))] C dX7_cost_128 (Nat.le_of_ble_eq_true rfl) rfl rfl ?_
      exact tX7_cost_129 C (k0) hw
    · replace hw := it_f hc hw
      refine r_aload_n C dX7_cost_56 rfl ?_
      refine r_aload_n C dX7_cost_57 rfl ?_
      refine gX7_24 C (k0) dX7_cost_58 ?_
      refine r_iload_n C dX7_cost_61 rfl ?_
      refine r_iconst (0) C dX7_cost_62 (by decide) ?_
      refine kX7_48 C (kr7_1 (k0)) (sX8_waitingOut (kr7_1 (k0)) hw) dX7_cost_63 (Nat.le_of_ble_eq_true rfl) rfl (Nat.le_of_ble_eq_true rfl) (fun v1 hw => ?_)
      refine r_iconst (0) C dX7_cost_66 (by decide) ?_
      refine r_iload_n C dX7_cost_67 rfl ?_
      refine kX7_51 C (k0) (sX7_findGroups (k0) hw) dX7_cost_68 (Nat.le_of_ble_eq_true rfl) rfl (Nat.le_of_ble_eq_true rfl) (fun h3 hw => ?_)
      refine r_aload_n C dX7_cost_71 rfl ?_
      refine gX7_55 C (k0) dX7_cost_72 ?_
      refine r_if_le 82 C dX7_cost_75 (by decide) (fun hc => ?_) (fun hc => ?_)
      · replace hw := it_t hc hw
        exact tX7_cost_82 C (k0) hK50 hw
      · replace hw := it_f hc hw
        refine r_aload_n C dX7_cost_78 rfl ?_
        refine kX7_58 C (k0) (sX7_goOut (k0) hw) dX7_cost_79 (Nat.le_of_ble_eq_true rfl) rfl (Nat.le_of_ble_eq_true rfl) (fun h5 hw => ?_)
        exact tX7_cost_82 C (k0) hK50 hw
def fX7_cost_19 (a0 : Nat) (Q : Int32 → Hp → Prop) (K19 : Int32 → Hp → Prop) (x1 : Int32) (h : Hp) : Prop :=
  if (1024 : Int32) ≤ x1 then (eX7_cost_50 a0 Q (0 : Int32) h) else (if x1 = 0 then (vp_in x1 (ln (rf a0 3)) ∧ (∀ h5 : Hp, h5 = sI h (rf a0 3) x1.toNatClampNeg (0 : Int32) → (∀ v6 : Int32, v6 = x1 + (1 : Int32) → (K19 v6 h5)))) else (vp_in x1 (ln (rf a0 3)) ∧ (∀ h2 : Hp, h2 = sI h (rf a0 3) x1.toNatClampNeg (2147483647 : Int32) → (∀ v3 : Int32, v3 = x1 + (1 : Int32) → (K19 v3 h2)))))
def eX7_cost_19 (a0 : Nat) (Q : Int32 → Hp → Prop) (x1 : Int32) (h : Hp) : Prop := ∃ N, lpN (fun (K : Int32 × Hp → Prop) (s : Int32 × Hp) => fX7_cost_19 a0 Q (fun x1 h => K (x1, h)) s.1 s.2) N (x1, h)
theorem iX7_cost_19 {a0 : Nat} {Q : Int32 → Hp → Prop} (I : Int32 → Hp → Prop) (μ : Int32 → Hp → Nat) (hs : ∀ (x1 : Int32) (h : Hp), I x1 h → ∀ K : Int32 → Hp → Prop, (∀ (x1' : Int32) (h' : Hp), I x1' h' → μ x1' h' < μ x1 h → K x1' h') → fX7_cost_19 a0 Q K x1 h) : ∀ (x1 : Int32) (h : Hp), I x1 h → eX7_cost_19 a0 Q x1 h := fun x1 h hI => lp_ind (fun s => I s.1 s.2) (fun s => μ s.1 s.2) (fun s hs' K hK => hs s.1 s.2 hs' _ (fun x1' h' h1 h2 => hK (x1', h') h1 h2)) (x1, h) hI
set_option maxRecDepth 20000 in
theorem tX7_cost_19 {G : GG} {X : XX} {a0 : Nat} {x1 : Int32} {h : Hp}  {Q : Int32 → Hp → Prop} (C : Cx G RX7 cX7_cost 3 (some .int) 5 0 0 X) (k0 : kd a0 = 7) (hw : eX7_cost_19 a0 Q x1 h) : R0 G X 0 0 (ZM G (fun r h' => ∃ v, r = some (.int v) ∧ Q v h') X) 19 [some (.ref (G.1 a0)), some (.int x1), none] [] h := by
  obtain ⟨N, hw⟩ := hw
  induction N generalizing x1 h with
  | zero => exact hw.elim
  | succ N ih =>
    obtain ⟨K19, eK⟩ : ∃ K : Int32 → Hp → Prop, K = (fun x1 h => lpN (fun (K : Int32 × Hp → Prop) (s : Int32 × Hp) => fX7_cost_19 a0 Q (fun x1 h => K (x1, h)) s.1 s.2) N (x1, h)) := ⟨_, rfl⟩
    have hw : fX7_cost_19 a0 Q (fun x1 h => lpN (fun (K : Int32 × Hp → Prop) (s : Int32 × Hp) => fX7_cost_19 a0 Q (fun x1 h => K (x1, h)) s.1 s.2) N (x1, h)) x1 h := hw
    have hK19 : ∀ (x1 : Int32) (h : Hp), K19 x1 h → R0 G X 0 0 (ZM G (fun r h' => ∃ v, r = some (.int v) ∧ Q v h') X) 19 [some (.ref (G.1 a0)), some (.int x1), none] [] h := fun x1 h q => ih (by rw [eK] at q; exact q)
    rw [← eK] at hw
    clear eK ih
    unfold fX7_cost_19 at hw
    refine r_iload_n C dX7_cost_19 rfl ?_
    refine r_sipush (1024) C dX7_cost_20 (by decide) ?_
    refine r_icmp_ge 48 C dX7_cost_23 (by decide) (fun hc => ?_) (fun hc => ?_)
    · replace hw := it_t hc hw
      refine r_iconst (0) C dX7_cost_48 (by decide) ?_
      refine r_istore_n [some (.ref (G.1 a0)), some (.int (0 : Int32)), none] C dX7_cost_49 (Nat.le_of_ble_eq_true rfl) rfl rfl ?_
      exact tX7_cost_50 C (k0) hw
    · replace hw := it_f hc hw
      refine r_aload_n C dX7_cost_26 rfl ?_
      refine gX7_13 C (k0) dX7_cost_27 ?_
      refine r_iload_n C dX7_cost_30 rfl ?_
      refine r_iload_n C dX7_cost_31 rfl ?_
      refine r_if_ne 39 C dX7_cost_32 (by decide) (fun hc => ?_) (fun hc => ?_)
      · replace hw := it_f hc hw
        refine r_ldc (2147483647) C wd777 dX7_cost_39 ?_
        obtain ⟨hi1, hw⟩ := hw
        refine r_iast C (kr7_3 (k0)) hi1 dX7_cost_41 ?_
        refine r_toph (fun h2 eh2 => ?_)
        replace hw := hw h2 eh2
        obtain ⟨v3, ev3⟩ : ∃ v : Int32, v = x1 + (1 : Int32) := ⟨_, rfl⟩
        replace hw := hw v3 ev3
        refine r_iinc v3 [some (.ref (G.1 a0)), some (.int v3), none] C dX7_cost_42 rfl (by rw [ev3]; rfl) rfl rfl ?_
        refine r_goto 19 C dX7_cost_45 (by decide) ?_
        exact hK19 _ _ hw
      · replace hw := it_t hc hw
        refine r_iconst (0) C dX7_cost_35 (by decide) ?_
        refine r_goto 41 C dX7_cost_36 (by decide) ?_
        obtain ⟨hi4, hw⟩ := hw
        refine r_iast C (kr7_3 (k0)) hi4 dX7_cost_41 ?_
        refine r_toph (fun h5 eh5 => ?_)
        replace hw := hw h5 eh5
        obtain ⟨v6, ev6⟩ : ∃ v : Int32, v = x1 + (1 : Int32) := ⟨_, rfl⟩
        replace hw := hw v6 ev6
        refine r_iinc v6 [some (.ref (G.1 a0)), some (.int v6), none] C dX7_cost_42 rfl (by rw [ev6]; rfl) rfl rfl ?_
        refine r_goto 19 C dX7_cost_45 (by decide) ?_
        exact hK19 _ _ hw
def wX7_cost (a0 : Nat) (h : Hp) (Q : Int32 → Hp → Prop) : Prop :=
  ∀ h1 : Hp, h1 = sI h a0 6 (shl (1 : Int32) (mn (5 : Int32) (gI h (rf a0 1) 3))) → (eX7_cost_19 a0 Q (0 : Int32) h1)
set_option maxRecDepth 20000 in
theorem sX7_cost {G : GG} {a0 : Nat} {h : Hp} {Q : Int32 → Hp → Prop} (k0 : kd a0 = 7) (hw : wX7_cost a0 h Q) : CI G 5 yX7_cost cX7_cost 3 (some .int) [.ref (G.1 a0)] h Q := by
  refine CO_of [some (.ref (G.1 a0)), none, none] (by decide) (Nat.le_of_ble_eq_true rfl) rfl (fun X C => ?_)
  unfold wX7_cost at hw
  refine r_aload_n C dX7_cost_0 rfl ?_
  refine r_iconst (1) C dX7_cost_1 (by decide) ?_
  refine r_iconst (5) C dX7_cost_2 (by decide) ?_
  refine r_aload_n C dX7_cost_3 rfl ?_
  refine gX7_24 C (k0) dX7_cost_4 ?_
  refine gX7_32 C (kr7_1 (k0)) dX7_cost_7 ?_
  refine r_mmin C ⟨wd776, wd667, wd109, wd668⟩ (Nat.le_of_ble_eq_true rfl) rfl (Nat.le_of_ble_eq_true rfl) dX7_cost_10 ?_
  refine r_ishl C dX7_cost_13 ?_
  refine pX7_44 C (k0) dX7_cost_14 ?_
  refine r_toph (fun h1 eh1 => ?_)
  replace hw := hw h1 eh1
  refine r_iconst (0) C dX7_cost_17 (by decide) ?_
  refine r_istore_n [some (.ref (G.1 a0)), some (.int (0 : Int32)), none] C dX7_cost_18 (Nat.le_of_ble_eq_true rfl) rfl rfl ?_
  exact tX7_cost_19 C (k0) hw
def wX11_isTime (x0 : Int32) (h : Hp) (Q : Int32 → Prop) : Prop :=
  if x0 < 0 then (Q (0 : Int32)) else (if (60 : Int32) ≤ x0 then (Q (0 : Int32)) else (Q (1 : Int32)))
set_option maxRecDepth 20000 in
theorem sX11_isTime {G : GG} {x0 : Int32} {h : Hp} {Q : Int32 → Prop} (hw : wX11_isTime x0 h Q) : PI G 0 yX11_isTime cX11_isTime 1 (some .boolean) [.int x0] h Q := by
  refine CO_of [some (.int x0)] (by decide) (Nat.le_of_ble_eq_true rfl) rfl (fun X C => ?_)
  unfold wX11_isTime at hw
  refine r_iload_n C dX11_isTime_0 rfl ?_
  refine r_if_lt 14 C dX11_isTime_1 (by decide) (fun hc => ?_) (fun hc => ?_)
  · replace hw := it_t hc hw
    refine r_iconst (0) C dX11_isTime_14 (by decide) ?_
    exact r_zret C dX11_isTime_15 rfl ⟨_, rfl, rfl, hw⟩
  · replace hw := it_f hc hw
    refine r_iload_n C dX11_isTime_4 rfl ?_
    refine r_bipush (60) C dX11_isTime_5 (by decide) ?_
    refine r_icmp_ge 14 C dX11_isTime_7 (by decide) (fun hc => ?_) (fun hc => ?_)
    · replace hw := it_t hc hw
      refine r_iconst (0) C dX11_isTime_14 (by decide) ?_
      exact r_zret C dX11_isTime_15 rfl ⟨_, rfl, rfl, hw⟩
    · replace hw := it_f hc hw
      refine r_iconst (1) C dX11_isTime_10 (by decide) ?_
      refine r_goto 15 C dX11_isTime_11 (by decide) ?_
      exact r_zret C dX11_isTime_15 rfl ⟨_, rfl, rfl, hw⟩
def wX8_fits (x0 : Int32) (x1 : Int32) (x2 : Int32) (h : Hp) (Q : Int32 → Prop) : Prop :=
  wX11_isTime x0 h (fun v1 => if v1 = 0 then (Q (0 : Int32)) else (if x1 ≤ x0 then (Q (0 : Int32)) else (if (60 : Int32) < x1 then (Q (0 : Int32)) else (if x2 < (1 : Int32) then (Q (0 : Int32)) else (if (9 : Int32) < x2 then (Q (0 : Int32)) else (Q (1 : Int32)))))))
set_option maxRecDepth 20000 in
theorem sX8_fits {G : GG} {x0 : Int32} {x1 : Int32} {x2 : Int32} {h : Hp} {Q : Int32 → Prop} (hw : wX8_fits x0 x1 x2 h Q) : PI G 1 yX8_fits cX8_fits 3 (some .boolean) [.int x0, .int x1, .int x2] h Q := by
  refine CO_of [some (.int x0), some (.int x1), some (.int x2)] (by decide) (Nat.le_of_ble_eq_true rfl) rfl (fun X C => ?_)
  unfold wX8_fits at hw
  refine r_iload_n C dX8_fits_0 rfl ?_
  refine kX8_21 C (sX11_isTime hw) dX8_fits_1 (Nat.le_of_ble_eq_true rfl) rfl (Nat.le_of_ble_eq_true rfl) (fun v1 hw => ?_)
  refine r_if_eq 33 C dX8_fits_4 (by decide) (fun hc => ?_) (fun hc => ?_)
  · replace hw := it_t hc hw
    refine r_iconst (0) C dX8_fits_33 (by decide) ?_
    exact r_zret C dX8_fits_34 rfl ⟨_, rfl, rfl, hw⟩
  · replace hw := it_f hc hw
    refine r_iload_n C dX8_fits_7 rfl ?_
    refine r_iload_n C dX8_fits_8 rfl ?_
    refine r_icmp_le 33 C dX8_fits_9 (by decide) (fun hc => ?_) (fun hc => ?_)
    · replace hw := it_t hc hw
      refine r_iconst (0) C dX8_fits_33 (by decide) ?_
      exact r_zret C dX8_fits_34 rfl ⟨_, rfl, rfl, hw⟩
    · replace hw := it_f hc hw
      refine r_iload_n C dX8_fits_12 rfl ?_
      refine r_bipush (60) C dX8_fits_13 (by decide) ?_
      refine r_icmp_gt 33 C dX8_fits_15 (by decide) (fun hc => ?_) (fun hc => ?_)
      · replace hw := it_t hc hw
        refine r_iconst (0) C dX8_fits_33 (by decide) ?_
        exact r_zret C dX8_fits_34 rfl ⟨_, rfl, rfl, hw⟩
      · replace hw := it_f hc hw
        refine r_iload_n C dX8_fits_18 rfl ?_
        refine r_iconst (1) C dX8_fits_19 (by decide) ?_
        refine r_icmp_lt 33 C dX8_fits_20 (by decide) (fun hc => ?_) (fun hc => ?_)
        · replace hw := it_t hc hw
          refine r_iconst (0) C dX8_fits_33 (by decide) ?_
          exact r_zret C dX8_fits_34 rfl ⟨_, rfl, rfl, hw⟩
        · replace hw := it_f hc hw
          refine r_iload_n C dX8_fits_23 rfl ?_
          refine r_bipush (9) C dX8_fits_24 (by decide) ?_
          refine r_icmp_gt 33 C dX8_fits_26 (by decide) (fun hc => ?_) (fun hc => ?_)
          · replace hw := it_t hc hw
            refine r_iconst (0) C dX8_fits_33 (by decide) ?_
            exact r_zret C dX8_fits_34 rfl ⟨_, rfl, rfl, hw⟩
          · replace hw := it_f hc hw
            refine r_iconst (1) C dX8_fits_29 (by decide) ?_
            refine r_goto 34 C dX8_fits_30 (by decide) ?_
            exact r_zret C dX8_fits_34 rfl ⟨_, rfl, rfl, hw⟩
def wX8_add (a0 : Nat) (x1 : Int32) (x2 : Int32) (x3 : Int32) (h : Hp) (Q : Int32 → Hp → Prop) : Prop :=
  if (gI h a0 3) < (12 : Int32) then (vp_in (gI h a0 3) (ln (rf a0 0)) ∧ (∀ h2 : Hp, h2 = sI h (rf a0 0) (gI h a0 3).toNatClampNeg x1 → (vp_in (gI h2 a0 3) (ln (rf a0 1)) ∧ (∀ h4 : Hp, h4 = sI h2 (rf a0 1) (gI h2 a0 3).toNatClampNeg x2 → (vp_in (gI h4 a0 3) (ln (rf a0 2)) ∧ (∀ h6 : Hp, h6 = sI h4 (rf a0 2) (gI h4 a0 3).toNatClampNeg x3 → (∀ h7 : Hp, h7 = sI h6 a0 3 ((gI h6 a0 3) + (1 : Int32)) → (Q ((gI h7 a0 3) - (1 : Int32)) h7)))))))) else (Q (-3 : Int32) h)
set_option maxRecDepth 20000 in
theorem sX8_add {G : GG} {a0 : Nat} {x1 : Int32} {x2 : Int32} {x3 : Int32} {h : Hp} {Q : Int32 → Hp → Prop} (k0 : kd a0 = 8) (hw : wX8_add a0 x1 x2 x3 h Q) : CI G 0 yX8_add cX8_add 4 (some .int) [.ref (G.1 a0), .int x1, .int x2, .int x3] h Q := by
  refine CO_of [some (.ref (G.1 a0)), some (.int x1), some (.int x2), some (.int x3)] (by decide) (Nat.le_of_ble_eq_true rfl) rfl (fun X C => ?_)
  unfold wX8_add at hw
  refine r_aload_n C dX8_add_0 rfl ?_
  refine gX8_25 C (k0) dX8_add_1 ?_
  refine r_bipush (12) C dX8_add_4 (by decide) ?_
  refine r_icmp_lt 12 C dX8_add_6 (by decide) (fun hc => ?_) (fun hc => ?_)
  · replace hw := it_t hc hw
    refine r_aload_n C dX8_add_12 rfl ?_
    refine gX8_9 C (k0) dX8_add_13 ?_
    refine r_aload_n C dX8_add_16 rfl ?_
    refine gX8_25 C (k0) dX8_add_17 ?_
    refine r_iload_n C dX8_add_20 rfl ?_
    obtain ⟨hi1, hw⟩ := hw
    refine r_iast C (kr8_0 (k0)) hi1 dX8_add_21 ?_
    refine r_toph (fun h2 eh2 => ?_)
    replace hw := hw h2 eh2
    refine r_aload_n C dX8_add_22 rfl ?_
    refine gX8_15 C (k0) dX8_add_23 ?_
    refine r_aload_n C dX8_add_26 rfl ?_
    refine gX8_25 C (k0) dX8_add_27 ?_
    refine r_iload_n C dX8_add_30 rfl ?_
    obtain ⟨hi3, hw⟩ := hw
    refine r_iast C (kr8_1 (k0)) hi3 dX8_add_31 ?_
    refine r_toph (fun h4 eh4 => ?_)
    replace hw := hw h4 eh4
    refine r_aload_n C dX8_add_32 rfl ?_
    refine gX8_18 C (k0) dX8_add_33 ?_
    refine r_aload_n C dX8_add_36 rfl ?_
    refine gX8_25 C (k0) dX8_add_37 ?_
    refine r_iload_n C dX8_add_40 rfl ?_
    obtain ⟨hi5, hw⟩ := hw
    refine r_iast C (kr8_2 (k0)) hi5 dX8_add_41 ?_
    refine r_toph (fun h6 eh6 => ?_)
    replace hw := hw h6 eh6
    refine r_aload_n C dX8_add_42 rfl ?_
    refine r_dup C dX8_add_43 rfl ?_
    refine gX8_25 C (k0) dX8_add_44 ?_
    refine r_iconst (1) C dX8_add_47 (by decide) ?_
    refine r_iadd C dX8_add_48 ?_
    refine pX8_25 C (k0) dX8_add_49 ?_
    refine r_toph (fun h7 eh7 => ?_)
    replace hw := hw h7 eh7
    refine r_aload_n C dX8_add_52 rfl ?_
    refine gX8_25 C (k0) dX8_add_53 ?_
    refine r_iconst (1) C dX8_add_56 (by decide) ?_
    refine r_isub C dX8_add_57 ?_
    exact r_iret C dX8_add_58 ⟨_, rfl, hw⟩
  · replace hw := it_f hc hw
    refine r_bipush (-3) C dX8_add_9 (by decide) ?_
    exact r_iret C dX8_add_11 ⟨_, rfl, hw⟩
def wX10_isRow (a0 : Nat) (h : Hp) (Q : Int32 → Prop) : Prop :=
  if (gI h a0 2) = (-1 : Int32) then (Q (0 : Int32)) else (Q (1 : Int32))
set_option maxRecDepth 20000 in
theorem sX10_isRow {G : GG} {a0 : Nat} {h : Hp} {Q : Int32 → Prop} (k0 : kd a0 = 10) (hw : wX10_isRow a0 h Q) : PI G 0 yX10_isRow cX10_isRow 1 (some .boolean) [.ref (G.1 a0)] h Q := by
  refine CO_of [some (.ref (G.1 a0))] (by decide) (Nat.le_of_ble_eq_true rfl) rfl (fun X C => ?_)
  unfold wX10_isRow at hw
  refine r_aload_n C dX10_isRow_0 rfl ?_
  refine gX10_19 C (k0) dX10_isRow_1 ?_
  refine r_iconst (-1) C dX10_isRow_4 (by decide) ?_
  refine r_icmp_eq 12 C dX10_isRow_5 (by decide) (fun hc => ?_) (fun hc => ?_)
  · replace hw := it_t hc hw
    refine r_iconst (0) C dX10_isRow_12 (by decide) ?_
    exact r_zret C dX10_isRow_13 rfl ⟨_, rfl, rfl, hw⟩
  · replace hw := it_f hc hw
    refine r_iconst (1) C dX10_isRow_8 (by decide) ?_
    refine r_goto 13 C dX10_isRow_9 (by decide) ?_
    exact r_zret C dX10_isRow_13 rfl ⟨_, rfl, rfl, hw⟩
def wX10_isEmpty (a0 : Nat) (h : Hp) (Q : Int32 → Prop) : Prop :=
  wX10_isRow a0 h (fun v1 => if v1 = 0 then (if (gI h a0 1) = (-1 : Int32) then (Q (1 : Int32)) else (Q (0 : Int32))) else (Q (0 : Int32)))
set_option maxRecDepth 20000 in
theorem sX10_isEmpty {G : GG} {a0 : Nat} {h : Hp} {Q : Int32 → Prop} (k0 : kd a0 = 10) (hw : wX10_isEmpty a0 h Q) : PI G 1 yX10_isEmpty cX10_isEmpty 1 (some .boolean) [.ref (G.1 a0)] h Q := by
  refine CO_of [some (.ref (G.1 a0))] (by decide) (Nat.le_of_ble_eq_true rfl) rfl (fun X C => ?_)
  unfold wX10_isEmpty at hw
  refine r_aload_n C dX10_isEmpty_0 rfl ?_
  refine kX10_22 C (k0) (sX10_isRow (k0) hw) dX10_isEmpty_1 (Nat.le_of_ble_eq_true rfl) rfl (Nat.le_of_ble_eq_true rfl) (fun v1 hw => ?_)
  refine r_if_ne 19 C dX10_isEmpty_4 (by decide) (fun hc => ?_) (fun hc => ?_)
  · replace hw := it_f hc hw
    refine r_iconst (0) C dX10_isEmpty_19 (by decide) ?_
    exact r_zret C dX10_isEmpty_20 rfl ⟨_, rfl, rfl, hw⟩
  · replace hw := it_t hc hw
    refine r_aload_n C dX10_isEmpty_7 rfl ?_
    refine gX10_15 C (k0) dX10_isEmpty_8 ?_
    refine r_iconst (-1) C dX10_isEmpty_11 (by decide) ?_
    refine r_icmp_ne 19 C dX10_isEmpty_12 (by decide) (fun hc => ?_) (fun hc => ?_)
    · replace hw := it_f hc hw
      refine r_iconst (0) C dX10_isEmpty_19 (by decide) ?_
      exact r_zret C dX10_isEmpty_20 rfl ⟨_, rfl, rfl, hw⟩
    · replace hw := it_t hc hw
      refine r_iconst (1) C dX10_isEmpty_15 (by decide) ?_
      refine r_goto 20 C dX10_isEmpty_16 (by decide) ?_
      exact r_zret C dX10_isEmpty_20 rfl ⟨_, rfl, rfl, hw⟩
