def wX12_in (x0 : Int32) (x1 : Int32) (x2 : Int32) (h : Hp) (Q : Int32 → Prop) : Prop :=
  if x0 < x1 then (Q (0 : Int32)) else (if x2 < x0 then (Q (0 : Int32)) else (Q (1 : Int32)))
set_option maxRecDepth 20000 in
theorem sX12_in {G : GG} {x0 : Int32} {x1 : Int32} {x2 : Int32} {h : Hp} {Q : Int32 → Prop} (hw : wX12_in x0 x1 x2 h Q) : PI G 0 yX12_in cX12_in 3 (some .boolean) [.int x0, .int x1, .int x2] h Q := by
  refine CO_of [some (.int x0), some (.int x1), some (.int x2)] (by decide) (Nat.le_of_ble_eq_true rfl) rfl (fun X C => ?_)
  unfold wX12_in at hw
  refine r_iload_n C dX12_in_0 rfl ?_
  refine r_iload_n C dX12_in_1 rfl ?_
  refine r_icmp_lt 14 C dX12_in_2 (by decide) (fun hc => ?_) (fun hc => ?_)
  · replace hw := it_t hc hw
    refine r_iconst (0) C dX12_in_14 (by decide) ?_
    exact r_zret C dX12_in_15 rfl ⟨_, rfl, rfl, hw⟩
  · replace hw := it_f hc hw
    refine r_iload_n C dX12_in_5 rfl ?_
    refine r_iload_n C dX12_in_6 rfl ?_
    refine r_icmp_gt 14 C dX12_in_7 (by decide) (fun hc => ?_) (fun hc => ?_)
    · replace hw := it_t hc hw
      refine r_iconst (0) C dX12_in_14 (by decide) ?_
      exact r_zret C dX12_in_15 rfl ⟨_, rfl, rfl, hw⟩
    · replace hw := it_f hc hw
      refine r_iconst (1) C dX12_in_10 (by decide) ?_
      refine r_goto 15 C dX12_in_11 (by decide) ?_
      exact r_zret C dX12_in_15 rfl ⟨_, rfl, rfl, hw⟩
def fX12_bitsOf_4 (h : Hp) (Q : Int32 → Prop) (K4 : Int32 → Int32 → Prop) (x1 : Int32) (x2 : Int32) : Prop :=
  if x2 = 0 then (Q x1) else (∀ v1 : Int32, v1 = x1 + (1 : Int32) → (∀ v2 : Int32, v2 = (x2 &&& (x2 - (1 : Int32))) → (K4 v1 v2)))
def eX12_bitsOf_4 (h : Hp) (Q : Int32 → Prop) (x1 : Int32) (x2 : Int32) : Prop := ∃ N, lpN (fun (K : Int32 × Int32 → Prop) (s : Int32 × Int32) => fX12_bitsOf_4 h Q (fun x1 x2 => K (x1, x2)) s.1 s.2) N (x1, x2)
theorem iX12_bitsOf_4 {h : Hp} {Q : Int32 → Prop} (I : Int32 → Int32 → Prop) (μ : Int32 → Int32 → Nat) (hs : ∀ (x1 : Int32) (x2 : Int32), I x1 x2 → ∀ K : Int32 → Int32 → Prop, (∀ (x1' : Int32) (x2' : Int32), I x1' x2' → μ x1' x2' < μ x1 x2 → K x1' x2') → fX12_bitsOf_4 h Q K x1 x2) : ∀ (x1 : Int32) (x2 : Int32), I x1 x2 → eX12_bitsOf_4 h Q x1 x2 := fun x1 x2 hI => lp_ind (fun s => I s.1 s.2) (fun s => μ s.1 s.2) (fun s hs' K hK => hs s.1 s.2 hs' _ (fun x1' x2' h1 h2 => hK (x1', x2') h1 h2)) (x1, x2) hI
set_option maxRecDepth 20000 in
theorem tX12_bitsOf_4 {G : GG} {X : XX} {x1 : Int32} {x2 : Int32} {h : Hp}  {Q : Int32 → Prop} (C : Cx G RX12 cX12_bitsOf 3 (some .int) 0 0 0 X) (hw : eX12_bitsOf_4 h Q x1 x2) : R0 G X 0 0 (ZM G (fun r h' => ∃ v, r = some (.int v) ∧ h' = h ∧ Q v) X) 4 [none, some (.int x1), some (.int x2)] [] h := by
  obtain ⟨N, hw⟩ := hw
  induction N generalizing x1 x2 with
  | zero => exact hw.elim
  | succ N ih =>
    obtain ⟨K4, eK⟩ : ∃ K : Int32 → Int32 → Prop, K = (fun x1 x2 => lpN (fun (K : Int32 × Int32 → Prop) (s : Int32 × Int32) => fX12_bitsOf_4 h Q (fun x1 x2 => K (x1, x2)) s.1 s.2) N (x1, x2)) := ⟨_, rfl⟩
    have hw : fX12_bitsOf_4 h Q (fun x1 x2 => lpN (fun (K : Int32 × Int32 → Prop) (s : Int32 × Int32) => fX12_bitsOf_4 h Q (fun x1 x2 => K (x1, x2)) s.1 s.2) N (x1, x2)) x1 x2 := hw
    have hK4 : ∀ (x1 : Int32) (x2 : Int32), K4 x1 x2 → R0 G X 0 0 (ZM G (fun r h' => ∃ v, r = some (.int v) ∧ h' = h ∧ Q v) X) 4 [none, some (.int x1), some (.int x2)] [] h := fun x1 x2 q => ih (by rw [eK] at q; exact q)
    rw [← eK] at hw
    clear eK ih
    unfold fX12_bitsOf_4 at hw
    refine r_iload_n C dX12_bitsOf_4 rfl ?_
    refine r_if_eq 20 C dX12_bitsOf_5 (by decide) (fun hc => ?_) (fun hc => ?_)
    · replace hw := it_t hc hw
      refine r_iload_n C dX12_bitsOf_20 rfl ?_
      exact r_iret C dX12_bitsOf_21 ⟨_, rfl, rfl, hw⟩
    · replace hw := it_f hc hw
      obtain ⟨v1, ev1⟩ : ∃ v : Int32, v = x1 + (1 : Int32) := ⟨_, rfl⟩
      replace hw := hw v1 ev1
      refine r_iinc v1 [none, some (.int v1), some (.int x2)] C dX12_bitsOf_8 rfl (by rw [ev1]; rfl) rfl rfl ?_
      refine r_iload_n C dX12_bitsOf_11 rfl ?_
      refine r_iload_n C dX12_bitsOf_12 rfl ?_
      refine r_iconst (1) C dX12_bitsOf_13 (by decide) ?_
      refine r_isub C dX12_bitsOf_14 ?_
      refine r_iand C dX12_bitsOf_15 ?_
      refine r_topi (fun v2 ev2 => ?_)
      replace hw := hw v2 ev2
      refine r_istore_n [none, some (.int v1), some (.int v2)] C dX12_bitsOf_16 (Nat.le_of_ble_eq_true rfl) rfl rfl ?_
      refine r_goto 4 C dX12_bitsOf_17 (by decide) ?_
      exact hK4 _ _ hw
def wX12_bitsOf (x0 : Int32) (h : Hp) (Q : Int32 → Prop) : Prop :=
  eX12_bitsOf_4 h Q (0 : Int32) x0
set_option maxRecDepth 20000 in
theorem sX12_bitsOf {G : GG} {x0 : Int32} {h : Hp} {Q : Int32 → Prop} (hw : wX12_bitsOf x0 h Q) : PI G 0 yX12_bitsOf cX12_bitsOf 3 (some .int) [.int x0] h Q := by
  refine CO_of [some (.int x0), none, none] (by decide) (Nat.le_of_ble_eq_true rfl) rfl (fun X C => ?_)
  unfold wX12_bitsOf at hw
  refine r_iconst (0) C dX12_bitsOf_0 (by decide) ?_
  refine r_istore_n [some (.int x0), some (.int (0 : Int32)), none] C dX12_bitsOf_1 (Nat.le_of_ble_eq_true rfl) rfl rfl ?_
  refine r_iload_n C dX12_bitsOf_2 rfl ?_
  refine r_istore_n [some (.int x0), some (.int (0 : Int32)), some (.int x0)] C dX12_bitsOf_3 (Nat.le_of_ble_eq_true rfl) rfl rfl ?_
  refine r_weak [none, some (.int (0 : Int32)), some (.int x0)] (lw_d (lw_k (lw_k (lw_n)))) ?_
  exact tX12_bitsOf_4 C  hw
def wX12_isGate (a0 : Nat) (x1 : Int32) (h : Hp) (Q : Int32 → Prop) : Prop :=
  wX12_in x1 (0 : Int32) ((gI h a0 1) - (1 : Int32)) h (fun v1 => bOK v1 ∧ Q v1)
set_option maxRecDepth 20000 in
theorem sX12_isGate {G : GG} {a0 : Nat} {x1 : Int32} {h : Hp} {Q : Int32 → Prop} (k0 : kd a0 = 12) (hw : wX12_isGate a0 x1 h Q) : PI G 1 yX12_isGate cX12_isGate 2 (some .boolean) [.ref (G.1 a0), .int x1] h Q := by
  refine CO_of [some (.ref (G.1 a0)), some (.int x1)] (by decide) (Nat.le_of_ble_eq_true rfl) rfl (fun X C => ?_)
  unfold wX12_isGate at hw
  refine r_iload_n C dX12_isGate_0 rfl ?_
  refine r_iconst (0) C dX12_isGate_1 (by decide) ?_
  refine r_aload_n C dX12_isGate_2 rfl ?_
  refine gX12_111 C (k0) dX12_isGate_3 ?_
  refine r_iconst (1) C dX12_isGate_6 (by decide) ?_
  refine r_isub C dX12_isGate_7 ?_
  refine kX12_114 C (sX12_in hw) dX12_isGate_8 (Nat.le_of_ble_eq_true rfl) rfl (Nat.le_of_ble_eq_true rfl) (fun v1 hw => ?_)
  exact r_zret C dX12_isGate_11 hw.1 ⟨_, rfl, rfl, hw.2⟩
def wX12_isPerson (a0 : Nat) (x1 : Int32) (h : Hp) (Q : Int32 → Prop) : Prop :=
  wX12_in x1 (0 : Int32) ((gI h a0 3) - (1 : Int32)) h (fun v1 => bOK v1 ∧ Q v1)
set_option maxRecDepth 20000 in
theorem sX12_isPerson {G : GG} {a0 : Nat} {x1 : Int32} {h : Hp} {Q : Int32 → Prop} (k0 : kd a0 = 12) (hw : wX12_isPerson a0 x1 h Q) : PI G 1 yX12_isPerson cX12_isPerson 2 (some .boolean) [.ref (G.1 a0), .int x1] h Q := by
  refine CO_of [some (.ref (G.1 a0)), some (.int x1)] (by decide) (Nat.le_of_ble_eq_true rfl) rfl (fun X C => ?_)
  unfold wX12_isPerson at hw
  refine r_iload_n C dX12_isPerson_0 rfl ?_
  refine r_iconst (0) C dX12_isPerson_1 (by decide) ?_
  refine r_aload_n C dX12_isPerson_2 rfl ?_
  refine gX12_118 C (k0) dX12_isPerson_3 ?_
  refine r_iconst (1) C dX12_isPerson_6 (by decide) ?_
  refine r_isub C dX12_isPerson_7 ?_
  refine kX12_114 C (sX12_in hw) dX12_isPerson_8 (Nat.le_of_ble_eq_true rfl) rfl (Nat.le_of_ble_eq_true rfl) (fun v1 hw => ?_)
  exact r_zret C dX12_isPerson_11 hw.1 ⟨_, rfl, rfl, hw.2⟩
def wX12_isTime (x0 : Int32) (h : Hp) (Q : Int32 → Prop) : Prop :=
  wX12_in x0 (0 : Int32) (59 : Int32) h (fun v1 => bOK v1 ∧ Q v1)
set_option maxRecDepth 20000 in
theorem sX12_isTime {G : GG} {x0 : Int32} {h : Hp} {Q : Int32 → Prop} (hw : wX12_isTime x0 h Q) : PI G 1 yX12_isTime cX12_isTime 1 (some .boolean) [.int x0] h Q := by
  refine CO_of [some (.int x0)] (by decide) (Nat.le_of_ble_eq_true rfl) rfl (fun X C => ?_)
  unfold wX12_isTime at hw
  refine r_iload_n C dX12_isTime_0 rfl ?_
  refine r_iconst (0) C dX12_isTime_1 (by decide) ?_
  refine r_bipush (59) C dX12_isTime_2 (by decide) ?_
  refine kX12_114 C (sX12_in hw) dX12_isTime_4 (Nat.le_of_ble_eq_true rfl) rfl (Nat.le_of_ble_eq_true rfl) (fun v1 hw => ?_)
  exact r_zret C dX12_isTime_7 hw.1 ⟨_, rfl, rfl, hw.2⟩
def wX12_gate (a0 : Nat) (x1 : Int32) (h : Hp) (Q : Int32 → Hp → Prop) : Prop :=
  wX12_in x1 (1 : Int32) (6 : Int32) h (fun v1 => if v1 = 0 then (Q (-1 : Int32) h) else (if (gI h a0 1) = (3 : Int32) then (Q (-3 : Int32) h) else (vp_in (gI h a0 1) (ln (rf a0 2)) ∧ (∀ h3 : Hp, h3 = sI h (rf a0 2) (gI h a0 1).toNatClampNeg x1 → (∀ h4 : Hp, h4 = sI h3 a0 1 ((gI h3 a0 1) + (1 : Int32)) → (Q ((gI h4 a0 1) - (1 : Int32)) h4))))))
set_option maxRecDepth 20000 in
theorem sX12_gate {G : GG} {a0 : Nat} {x1 : Int32} {h : Hp} {Q : Int32 → Hp → Prop} (k0 : kd a0 = 12) (hw : wX12_gate a0 x1 h Q) : CI G 1 yX12_gate cX12_gate 2 (some .int) [.ref (G.1 a0), .int x1] h Q := by
  refine CO_of [some (.ref (G.1 a0)), some (.int x1)] (by decide) (Nat.le_of_ble_eq_true rfl) rfl (fun X C => ?_)
  unfold wX12_gate at hw
  refine r_iload_n C dX12_gate_0 rfl ?_
  refine r_iconst (1) C dX12_gate_1 (by decide) ?_
  refine r_bipush (6) C dX12_gate_2 (by decide) ?_
  refine kX12_114 C (sX12_in hw) dX12_gate_4 (Nat.le_of_ble_eq_true rfl) rfl (Nat.le_of_ble_eq_true rfl) (fun v1 hw => ?_)
  refine r_if_ne 12 C dX12_gate_7 (by decide) (fun hc => ?_) (fun hc => ?_)
  · replace hw := it_f hc hw
    refine r_aload_n C dX12_gate_12 rfl ?_
    refine gX12_111 C (k0) dX12_gate_13 ?_
    refine r_iconst (3) C dX12_gate_16 (by decide) ?_
    refine r_icmp_ne 23 C dX12_gate_17 (by decide) (fun hc => ?_) (fun hc => ?_)
    · replace hw := it_f hc hw
      refine r_aload_n C dX12_gate_23 rfl ?_
      refine gX12_7 C (k0) dX12_gate_24 ?_
      refine r_aload_n C dX12_gate_27 rfl ?_
      refine gX12_111 C (k0) dX12_gate_28 ?_
      refine r_iload_n C dX12_gate_31 rfl ?_
      obtain ⟨hi2, hw⟩ := hw
      refine r_iast C (kr12_2 (k0)) hi2 dX12_gate_32 ?_
      refine r_toph (fun h3 eh3 => ?_)
      replace hw := hw h3 eh3
      refine r_aload_n C dX12_gate_33 rfl ?_
      refine r_dup C dX12_gate_34 rfl ?_
      refine gX12_111 C (k0) dX12_gate_35 ?_
      refine r_iconst (1) C dX12_gate_38 (by decide) ?_
      refine r_iadd C dX12_gate_39 ?_
      refine pX12_111 C (k0) dX12_gate_40 ?_
      refine r_toph (fun h4 eh4 => ?_)
      replace hw := hw h4 eh4
      refine r_aload_n C dX12_gate_43 rfl ?_
      refine gX12_111 C (k0) dX12_gate_44 ?_
      refine r_iconst (1) C dX12_gate_47 (by decide) ?_
      refine r_isub C dX12_gate_48 ?_
      exact r_iret C dX12_gate_49 ⟨_, rfl, hw⟩
    · replace hw := it_t hc hw
      refine r_bipush (-3) C dX12_gate_20 (by decide) ?_
      exact r_iret C dX12_gate_22 ⟨_, rfl, hw⟩
  · replace hw := it_t hc hw
    refine r_iconst (-1) C dX12_gate_10 (by decide) ?_
    exact r_iret C dX12_gate_11 ⟨_, rfl, hw⟩
def wX12_isPersonSo (x0 : Int32) (x1 : Int32) (x2 : Int32) (h : Hp) (Q : Int32 → Prop) : Prop :=
  wX12_isTime x0 h (fun v1 => if v1 = 0 then (Q (0 : Int32)) else (wX12_in x1 (x0 + (1 : Int32)) (60 : Int32) h (fun v2 => if v2 = 0 then (Q (0 : Int32)) else (wX12_in x2 (1 : Int32) (9 : Int32) h (fun v3 => if v3 = 0 then (Q (0 : Int32)) else (Q (1 : Int32)))))))
set_option maxRecDepth 20000 in
theorem sX12_isPersonSo {G : GG} {x0 : Int32} {x1 : Int32} {x2 : Int32} {h : Hp} {Q : Int32 → Prop} (hw : wX12_isPersonSo x0 x1 x2 h Q) : PI G 2 yX12_isPersonSo cX12_isPersonSo 3 (some .boolean) [.int x0, .int x1, .int x2] h Q := by
  refine CO_of [some (.int x0), some (.int x1), some (.int x2)] (by decide) (Nat.le_of_ble_eq_true rfl) rfl (fun X C => ?_)
  unfold wX12_isPersonSo at hw
  refine r_iload_n C dX12_isPersonSo_0 rfl ?_
  refine kX12_121 C (sX12_isTime hw) dX12_isPersonSo_1 (Nat.le_of_ble_eq_true rfl) rfl (Nat.le_of_ble_eq_true rfl) (fun v1 hw => ?_)
  refine r_if_eq 33 C dX12_isPersonSo_4 (by decide) (fun hc => ?_) (fun hc => ?_)
  · replace hw := it_t hc hw
    refine r_iconst (0) C dX12_isPersonSo_33 (by decide) ?_
    exact r_zret C dX12_isPersonSo_34 rfl ⟨_, rfl, rfl, hw⟩
  · replace hw := it_f hc hw
    refine r_iload_n C dX12_isPersonSo_7 rfl ?_
    refine r_iload_n C dX12_isPersonSo_8 rfl ?_
    refine r_iconst (1) C dX12_isPersonSo_9 (by decide) ?_
    refine r_iadd C dX12_isPersonSo_10 ?_
    refine r_bipush (60) C dX12_isPersonSo_11 (by decide) ?_
    refine kX12_114 C (sX12_in hw) dX12_isPersonSo_13 (Nat.le_of_ble_eq_true rfl) rfl (Nat.le_of_ble_eq_true rfl) (fun v2 hw => ?_)
    refine r_if_eq 33 C dX12_isPersonSo_16 (by decide) (fun hc => ?_) (fun hc => ?_)
    · replace hw := it_t hc hw
      refine r_iconst (0) C dX12_isPersonSo_33 (by decide) ?_
      exact r_zret C dX12_isPersonSo_34 rfl ⟨_, rfl, rfl, hw⟩
    · replace hw := it_f hc hw
      refine r_iload_n C dX12_isPersonSo_19 rfl ?_
      refine r_iconst (1) C dX12_isPersonSo_20 (by decide) ?_
      refine r_bipush (9) C dX12_isPersonSo_21 (by decide) ?_
      refine kX12_114 C (sX12_in hw) dX12_isPersonSo_23 (Nat.le_of_ble_eq_true rfl) rfl (Nat.le_of_ble_eq_true rfl) (fun v3 hw => ?_)
      refine r_if_eq 33 C dX12_isPersonSo_26 (by decide) (fun hc => ?_) (fun hc => ?_)
      · replace hw := it_t hc hw
        refine r_iconst (0) C dX12_isPersonSo_33 (by decide) ?_
        exact r_zret C dX12_isPersonSo_34 rfl ⟨_, rfl, rfl, hw⟩
      · replace hw := it_f hc hw
        refine r_iconst (1) C dX12_isPersonSo_29 (by decide) ?_
        refine r_goto 34 C dX12_isPersonSo_30 (by decide) ?_
        exact r_zret C dX12_isPersonSo_34 rfl ⟨_, rfl, rfl, hw⟩
def wX12_addPerson (a0 : Nat) (x1 : Int32) (x2 : Int32) (x3 : Int32) (h : Hp) (Q : Int32 → Hp → Prop) : Prop :=
  vp_in (gI h a0 3) (ln (rf a0 4)) ∧ (∀ h2 : Hp, h2 = sI h (rf a0 4) (gI h a0 3).toNatClampNeg x1 → (vp_in (gI h2 a0 3) (ln (rf a0 5)) ∧ (∀ h4 : Hp, h4 = sI h2 (rf a0 5) (gI h2 a0 3).toNatClampNeg x2 → (vp_in (gI h4 a0 3) (ln (rf a0 6)) ∧ (∀ h6 : Hp, h6 = sI h4 (rf a0 6) (gI h4 a0 3).toNatClampNeg x3 → (vp_in (gI h6 a0 3) (ln (rf a0 10)) ∧ (∀ h8 : Hp, h8 = sI h6 (rf a0 10) (gI h6 a0 3).toNatClampNeg (0 : Int32) → (∀ h9 : Hp, h9 = sI h8 a0 3 ((gI h8 a0 3) + (1 : Int32)) → (Q ((gI h9 a0 3) - (1 : Int32)) h9)))))))))
set_option maxRecDepth 20000 in
theorem sX12_addPerson {G : GG} {a0 : Nat} {x1 : Int32} {x2 : Int32} {x3 : Int32} {h : Hp} {Q : Int32 → Hp → Prop} (k0 : kd a0 = 12) (hw : wX12_addPerson a0 x1 x2 x3 h Q) : CI G 0 yX12_addPerson cX12_addPerson 4 (some .int) [.ref (G.1 a0), .int x1, .int x2, .int x3] h Q := by
  refine CO_of [some (.ref (G.1 a0)), some (.int x1), some (.int x2), some (.int x3)] (by decide) (Nat.le_of_ble_eq_true rfl) rfl (fun X C => ?_)
  unfold wX12_addPerson at hw
  refine r_aload_n C dX12_addPerson_0 rfl ?_
  refine gX12_13 C (k0) dX12_addPerson_1 ?_
  refine r_aload_n C dX12_addPerson_4 rfl ?_
  refine gX12_118 C (k0) dX12_addPerson_5 ?_
  refine r_iload_n C dX12_addPerson_8 rfl ?_
  obtain ⟨hi1, hw⟩ := hw
  refine r_iast C (kr12_4 (k0)) hi1 dX12_addPerson_9 ?_
  refine r_toph (fun h2 eh2 => ?_)
  replace hw := hw h2 eh2
  refine r_aload_n C dX12_addPerson_10 rfl ?_
  refine gX12_16 C (k0) dX12_addPerson_11 ?_
  refine r_aload_n C dX12_addPerson_14 rfl ?_
  refine gX12_118 C (k0) dX12_addPerson_15 ?_
  refine r_iload_n C dX12_addPerson_18 rfl ?_
  obtain ⟨hi3, hw⟩ := hw
  refine r_iast C (kr12_5 (k0)) hi3 dX12_addPerson_19 ?_
  refine r_toph (fun h4 eh4 => ?_)
  replace hw := hw h4 eh4
  refine r_aload_n C dX12_addPerson_20 rfl ?_
  refine gX12_19 C (k0) dX12_addPerson_21 ?_
  refine r_aload_n C dX12_addPerson_24 rfl ?_
  refine gX12_118 C (k0) dX12_addPerson_25 ?_
  refine r_iload_n C dX12_addPerson_28 rfl ?_
  obtain ⟨hi5, hw⟩ := hw
  refine r_iast C (kr12_6 (k0)) hi5 dX12_addPerson_29 ?_
  refine r_toph (fun h6 eh6 => ?_)
  replace hw := hw h6 eh6
  refine r_aload_n C dX12_addPerson_30 rfl ?_
  refine gX12_22 C (k0) dX12_addPerson_31 ?_
  refine r_aload_n C dX12_addPerson_34 rfl ?_
  refine gX12_118 C (k0) dX12_addPerson_35 ?_
  refine r_iconst (0) C dX12_addPerson_38 (by decide) ?_
  obtain ⟨hi7, hw⟩ := hw
  refine r_iast C (kr12_10 (k0)) hi7 dX12_addPerson_39 ?_
  refine r_toph (fun h8 eh8 => ?_)
  replace hw := hw h8 eh8
  refine r_aload_n C dX12_addPerson_40 rfl ?_
  refine r_dup C dX12_addPerson_41 rfl ?_
  refine gX12_118 C (k0) dX12_addPerson_42 ?_
  refine r_iconst (1) C dX12_addPerson_45 (by decide) ?_
  refine r_iadd C dX12_addPerson_46 ?_
  refine pX12_118 C (k0) dX12_addPerson_47 ?_
  refine r_toph (fun h9 eh9 => ?_)
  replace hw := hw h9 eh9
  refine r_aload_n C dX12_addPerson_50 rfl ?_
  refine gX12_118 C (k0) dX12_addPerson_51 ?_
  refine r_iconst (1) C dX12_addPerson_54 (by decide) ?_
  refine r_isub C dX12_addPerson_55 ?_
  exact r_iret C dX12_addPerson_56 ⟨_, rfl, hw⟩
def wX12_person (a0 : Nat) (x1 : Int32) (x2 : Int32) (h : Hp) (Q : Int32 → Hp → Prop) : Prop :=
  if x1 < 0 then (Q (-1 : Int32) h) else (wX12_isPersonSo (x1 / (100 : Int32)) (rm x1 (100 : Int32)) x2 h (fun v1 => if v1 = 0 then (Q (-1 : Int32) h) else (if (gI h a0 3) = (12 : Int32) then (Q (-3 : Int32) h) else (wX12_addPerson a0 (x1 / (100 : Int32)) (rm x1 (100 : Int32)) x2 h (fun v2 h3 => Q v2 h3)))))
set_option maxRecDepth 20000 in
theorem sX12_person {G : GG} {a0 : Nat} {x1 : Int32} {x2 : Int32} {h : Hp} {Q : Int32 → Hp → Prop} (k0 : kd a0 = 12) (hw : wX12_person a0 x1 x2 h Q) : CI G 3 yX12_person cX12_person 3 (some .int) [.ref (G.1 a0), .int x1, .int x2] h Q := by
  refine CO_of [some (.ref (G.1 a0)), some (.int x1), some (.int x2)] (by decide) (Nat.le_of_ble_eq_true rfl) rfl (fun X C => ?_)
  unfold wX12_person at hw
  refine r_iload_n C dX12_person_0 rfl ?_
  refine r_if_lt 19 C dX12_person_1 (by decide) (fun hc => ?_) (fun hc => ?_)
  · replace hw := it_t hc hw
    refine r_iconst (-1) C dX12_person_19 (by decide) ?_
    exact r_iret C dX12_person_20 ⟨_, rfl, hw⟩
  · replace hw := it_f hc hw
    refine r_iload_n C dX12_person_4 rfl ?_
    refine r_bipush (100) C dX12_person_5 (by decide) ?_
    refine r_idiv C dX12_person_7 (by decide) ?_
    refine r_iload_n C dX12_person_8 rfl ?_
    refine r_bipush (100) C dX12_person_9 (by decide) ?_
    refine r_irem C dX12_person_11 (by decide) ?_
    refine r_iload_n C dX12_person_12 rfl ?_
    refine kX12_125 C (sX12_isPersonSo hw) dX12_person_13 (Nat.le_of_ble_eq_true rfl) rfl (Nat.le_of_ble_eq_true rfl) (fun v1 hw => ?_)
    refine r_if_ne 21 C dX12_person_16 (by decide) (fun hc => ?_) (fun hc => ?_)
    · replace hw := it_f hc hw
      refine r_aload_n C dX12_person_21 rfl ?_
      refine gX12_118 C (k0) dX12_person_22 ?_
      refine r_bipush (12) C dX12_person_25 (by decide) ?_
      refine r_icmp_ne 35 C dX12_person_27 (by decide) (fun hc => ?_) (fun hc => ?_)
      · replace hw := it_f hc hw
        refine r_aload_n C dX12_person_35 rfl ?_
        refine r_iload_n C dX12_person_36 rfl ?_
        refine r_bipush (100) C dX12_person_37 (by decide) ?_
        refine r_idiv C dX12_person_39 (by decide) ?_
        refine r_iload_n C dX12_person_40 rfl ?_
        refine r_bipush (100) C dX12_person_41 (by decide) ?_
        refine r_irem C dX12_person_43 (by decide) ?_
        refine r_iload_n C dX12_person_44 rfl ?_
        refine kX12_128 C (k0) (sX12_addPerson (k0) hw) dX12_person_45 (Nat.le_of_ble_eq_true rfl) rfl (Nat.le_of_ble_eq_true rfl) (fun v2 h3 hw => ?_)
        exact r_iret C dX12_person_48 ⟨_, rfl, hw⟩
      · replace hw := it_t hc hw
        refine r_bipush (-3) C dX12_person_30 (by decide) ?_
        refine r_goto 48 C dX12_person_32 (by decide) ?_
        exact r_iret C dX12_person_48 ⟨_, rfl, hw⟩
    · replace hw := it_t hc hw
      refine r_iconst (-1) C dX12_person_19 (by decide) ?_
      exact r_iret C dX12_person_20 ⟨_, rfl, hw⟩
def wX12_isShelf (x0 : Int32) (h : Hp) (Q : Int32 → Prop) : Prop :=
  wX12_in x0 (0 : Int32) (5 : Int32) h (fun v1 => bOK v1 ∧ Q v1)
set_option maxRecDepth 20000 in
theorem sX12_isShelf {G : GG} {x0 : Int32} {h : Hp} {Q : Int32 → Prop} (hw : wX12_isShelf x0 h Q) : PI G 1 yX12_isShelf cX12_isShelf 1 (some .boolean) [.int x0] h Q := by
  refine CO_of [some (.int x0)] (by decide) (Nat.le_of_ble_eq_true rfl) rfl (fun X C => ?_)
  unfold wX12_isShelf at hw
  refine r_iload_n C dX12_isShelf_0 rfl ?_
  refine r_iconst (0) C dX12_isShelf_1 (by decide) ?_
  refine r_iconst (5) C dX12_isShelf_2 (by decide) ?_
  refine kX12_114 C (sX12_in hw) dX12_isShelf_3 (Nat.le_of_ble_eq_true rfl) rfl (Nat.le_of_ble_eq_true rfl) (fun v1 hw => ?_)
  exact r_zret C dX12_isShelf_6 hw.1 ⟨_, rfl, rfl, hw.2⟩
def fX12_people_58 (a0 : Nat) (x1 : Int32) (x2 : Int32) (x3 : Int32) (Q : Int32 → Hp → Prop) (K58 : Int32 → Hp → Prop) (x4 : Int32) (h : Hp) : Prop :=
  if x3 ≤ x4 then (Q x3 h) else (∀ v1 : Int64, v1 = (x2.toInt64 + ((3 : Int32) * x4).toInt64) → (if (lg_cmp v1 (0 : Int64)) < 0 then (Q x4 h) else (vp_in x1 (ln (rf a0 53)) ∧ (if 0 ≤ (lg_cmp (v1 + (2 : Int64)) (gI h (rf a0 53) x1.toNatClampNeg).toInt64) then (Q x4 h) else (if (gI h a0 3) = (12 : Int32) then (Q x4 h) else (∀ v3 : Int32, v3 = (((60 : Int32) * x1) + v1.toInt32) → (vp_in v3 (ln (rf a0 54)) ∧ (vp_in (v3 + (1 : Int32)) (ln (rf a0 54)) ∧ (vp_in (v3 + (2 : Int32)) (ln (rf a0 54)) ∧ (wX12_isPersonSo ((gL h (rf a0 54) v3.toNatClampNeg).toInt32) ((gL h (rf a0 54) (v3 + (1 : Int32)).toNatClampNeg).toInt32) ((gL h (rf a0 54) (v3 + (2 : Int32)).toNatClampNeg).toInt32) h (fun v7 => if v7 = 0 then (Q x4 h) else (vp_in v3 (ln (rf a0 54)) ∧ (vp_in (v3 + (1 : Int32)) (ln (rf a0 54)) ∧ (vp_in (v3 + (2 : Int32)) (ln (rf a0 54)) ∧ (wX12_addPerson a0 ((gL h (rf a0 54) v3.toNatClampNeg).toInt32) ((gL h (rf a0 54) (v3 + (1 : Int32)).toNatClampNeg).toInt32) ((gL h (rf a0 54) (v3 + (2 : Int32)).toNatClampNeg).toInt32) h (fun v11 h12 => ∀ v13 : Int32, v13 = x4 + (1 : Int32) → (K58 v13 h12)))))))))))))))))
def eX12_people_58 (a0 : Nat) (x1 : Int32) (x2 : Int32) (x3 : Int32) (Q : Int32 → Hp → Prop) (x4 : Int32) (h : Hp) : Prop := ∃ N, lpN (fun (K : Int32 × Hp → Prop) (s : Int32 × Hp) => fX12_people_58 a0 x1 x2 x3 Q (fun x4 h => K (x4, h)) s.1 s.2) N (x4, h)
theorem iX12_people_58 {a0 : Nat} {x1 : Int32} {x2 : Int32} {x3 : Int32} {Q : Int32 → Hp → Prop} (I : Int32 → Hp → Prop) (μ : Int32 → Hp → Nat) (hs : ∀ (x4 : Int32) (h : Hp), I x4 h → ∀ K : Int32 → Hp → Prop, (∀ (x4' : Int32) (h' : Hp), I x4' h' → μ x4' h' < μ x4 h → K x4' h') → fX12_people_58 a0 x1 x2 x3 Q K x4 h) : ∀ (x4 : Int32) (h : Hp), I x4 h → eX12_people_58 a0 x1 x2 x3 Q x4 h := fun x4 h hI => lp_ind (fun s => I s.1 s.2) (fun s => μ s.1 s.2) (fun s hs' K hK => hs s.1 s.2 hs' _ (fun x4' h' h1 h2 => hK (x4', h') h1 h2)) (x4, h) hI
set_option maxRecDepth 20000 in
theorem tX12_people_58 {G : GG} {X : XX} {a0 : Nat} {x1 : Int32} {x2 : Int32} {x3 : Int32} {x4 : Int32} {h : Hp}  {Q : Int32 → Hp → Prop} (C : Cx G RX12 cX12_people 8 (some .int) 3 0 0 X) (k0 : kd a0 = 12) (hw : eX12_people_58 a0 x1 x2 x3 Q x4 h) : R0 G X 0 0 (ZM G (fun r h' => ∃ v, r = some (.int v) ∧ Q v h') X) 58 [some (.ref (G.1 a0)), some (.int x1), some (.int x2), some (.int x3), some (.int x4), none, none, none] [] h := by
  obtain ⟨N, hw⟩ := hw
  induction N generalizing x4 h with
  | zero => exact hw.elim
  | succ N ih =>
    obtain ⟨K58, eK⟩ : ∃ K : Int32 → Hp → Prop, K = (fun x4 h => lpN (fun (K : Int32 × Hp → Prop) (s : Int32 × Hp) => fX12_people_58 a0 x1 x2 x3 Q (fun x4 h => K (x4, h)) s.1 s.2) N (x4, h)) := ⟨_, rfl⟩
    have hw : fX12_people_58 a0 x1 x2 x3 Q (fun x4 h => lpN (fun (K : Int32 × Hp → Prop) (s : Int32 × Hp) => fX12_people_58 a0 x1 x2 x3 Q (fun x4 h => K (x4, h)) s.1 s.2) N (x4, h)) x4 h := hw
    have hK58 : ∀ (x4 : Int32) (h : Hp), K58 x4 h → R0 G X 0 0 (ZM G (fun r h' => ∃ v, r = some (.int v) ∧ Q v h') X) 58 [some (.ref (G.1 a0)), some (.int x1), some (.int x2), some (.int x3), some (.int x4), none, none, none] [] h := fun x4 h q => ih (by rw [eK] at q; exact q)
    rw [← eK] at hw
    clear eK ih
    unfold fX12_people_58 at hw
    refine r_iload C dX12_people_58 rfl ?_
    refine r_iload_n C dX12_people_60 rfl ?_
    refine r_icmp_ge 196 C dX12_people_61 (by decide) (fun hc => ?_) (fun hc => ?_)
    · replace hw := it_t hc hw
      refine r_iload_n C dX12_people_196 rfl ?_
      exact r_iret C dX12_people_197 ⟨_, rfl, hw⟩
    · replace hw := it_f hc hw
      refine r_iload_n C dX12_people_64 rfl ?_
      refine r_i2l C dX12_people_65 ?_
      refine r_iconst (3) C dX12_people_66 (by decide) ?_
      refine r_iload C dX12_people_67 rfl ?_
      refine r_imul C dX12_people_69 ?_
      refine r_i2l C dX12_people_70 ?_
      refine r_ladd C dX12_people_71 ?_
      refine r_topl (fun v1 ev1 => ?_)
      replace hw := hw v1 ev1
      refine r_lstore [some (.ref (G.1 a0)), some (.int x1), some (.int x2), some (.int x3), some (.int x4), some (.long v1), none, none] C dX12_people_72 (Nat.le_of_ble_eq_true rfl) rfl rfl ?_
      refine r_lload C dX12_people_74 rfl ?_
      refine r_lconst (0) C dX12_people_76 (by decide) ?_
      refine r_lcmp C dX12_people_77 ?_
      refine r_if_lt 107 C dX12_people_78 (by decide) (fun hc => ?_) (fun hc => ?_)
      · replace hw := it_t hc hw
        refine r_iload C dX12_people_107 rfl ?_
        exact r_iret C dX12_people_109 ⟨_, rfl, hw⟩
      · replace hw := it_f hc hw
        refine r_lload C dX12_people_81 rfl ?_
        refine r_ldc2_w (2) C wd1259 dX12_people_83 ?_
        refine r_ladd C dX12_people_86 ?_
        refine r_aload_n C dX12_people_87 rfl ?_
        refine gX12_97 C (k0) dX12_people_88 ?_
        refine r_iload_n C dX12_people_91 rfl ?_
        obtain ⟨hi2, hw⟩ := hw
        refine r_iald C (kr12_53 (k0)) hi2 dX12_people_92 ?_
        refine r_i2l C dX12_people_93 ?_
        refine r_lcmp C dX12_people_94 ?_
        refine r_if_ge 107 C dX12_people_95 (by decide) (fun hc => ?_) (fun hc => ?_)
        · replace hw := it_t hc hw
          refine r_iload C dX12_people_107 rfl ?_
          exact r_iret C dX12_people_109 ⟨_, rfl, hw⟩
        · replace hw := it_f hc hw
          refine r_aload_n C dX12_people_98 rfl ?_
          refine gX12_118 C (k0) dX12_people_99 ?_
          refine r_bipush (12) C dX12_people_102 (by decide) ?_
          refine r_icmp_ne 110 C dX12_people_104 (by decide) (fun hc => ?_) (fun hc => ?_)
          · replace hw := it_f hc hw
            refine r_bipush (60) C dX12_people_110 (by decide) ?_
            refine r_iload_n C dX12_people_112 rfl ?_
            refine r_imul C dX12_people_113 ?_
            refine r_lload C dX12_people_114 rfl ?_
            refine r_l2i C dX12_people_116 ?_
            refine r_iadd C dX12_people_117 ?_
            refine r_topi (fun v3 ev3 => ?_)
            replace hw := hw v3 ev3
            refine r_istore [some (.ref (G.1 a0)), some (.int x1), some (.int x2), some (.int x3), some (.int x4), some (.long v1), none, some (.int v3)] C dX12_people_118 (Nat.le_of_ble_eq_true rfl) rfl rfl ?_
            refine r_aload_n C dX12_people_120 rfl ?_
            refine gX12_100 C (k0) dX12_people_121 ?_
            refine r_iload C dX12_people_124 rfl ?_
            obtain ⟨hi4, hw⟩ := hw
            refine r_lald C (kr12_54 (k0)) hi4 dX12_people_126 ?_
            refine r_l2i C dX12_people_127 ?_
            refine r_aload_n C dX12_people_128 rfl ?_
            refine gX12_100 C (k0) dX12_people_129 ?_
            refine r_iload C dX12_people_132 rfl ?_
            refine r_iconst (1) C dX12_people_134 (by decide) ?_
            refine r_iadd C dX12_people_135 ?_
            obtain ⟨hi5, hw⟩ := hw
            refine r_lald C (kr12_54 (k0)) hi5 dX12_people_136 ?_
            refine r_l2i C dX12_people_137 ?_
            refine r_aload_n C dX12_people_138 rfl ?_
            refine gX12_100 C (k0) dX12_people_139 ?_
            refine r_iload C dX12_people_142 rfl ?_
            refine r_iconst (2) C dX12_people_144 (by decide) ?_
            refine r_iadd C dX12_people_145 ?_
            obtain ⟨hi6, hw⟩ := hw
            refine r_lald C (kr12_54 (k0)) hi6 dX12_people_146 ?_
            refine r_l2i C dX12_people_147 ?_
            refine kX12_125 C (sX12_isPersonSo hw) dX12_people_148 (Nat.le_of_ble_eq_true rfl) rfl (Nat.le_of_ble_eq_true rfl) (fun v7 hw => ?_)
            refine r_if_ne 157 C dX12_people_151 (by decide) (fun hc => ?_) (fun hc => ?_)
            · replace hw := it_f hc hw
              refine r_aload_n C dX12_people_157 rfl ?_
              refine r_aload_n C dX12_people_158 rfl ?_
              refine gX12_100 C (k0) dX12_people_159 ?_
              refine r_iload C dX12_people_162 rfl ?_
              obtain ⟨hi8, hw⟩ := hw
              refine r_lald C (kr12_54 (k0)) hi8 dX12_people_164 ?_
              refine r_l2i C dX12_people_165 ?_
              refine r_aload_n C dX12_people_166 rfl ?_
              refine gX12_100 C (k0) dX12_people_167 ?_
              refine r_iload C dX12_people_170 rfl ?_
              refine r_iconst (1) C dX12_people_172 (by decide) ?_
              refine r_iadd C dX12_people_173 ?_
              obtain ⟨hi9, hw⟩ := hw
              refine r_lald C (kr12_54 (k0)) hi9 dX12_people_174 ?_
              refine r_l2i C dX12_people_175 ?_
              refine r_aload_n C dX12_people_176 rfl ?_
              refine gX12_100 C (k0) dX12_people_177 ?_
              refine r_iload C dX12_people_180 rfl ?_
              refine r_iconst (2) C dX12_people_182 (by decide) ?_
              refine r_iadd C dX12_people_183 ?_
              obtain ⟨hi10, hw⟩ := hw
              refine r_lald C (kr12_54 (k0)) hi10 dX12_people_184 ?_
              refine r_l2i C dX12_people_185 ?_
              refine kX12_128 C (k0) (sX12_addPerson (k0) hw) dX12_people_186 (Nat.le_of_ble_eq_true rfl) rfl (Nat.le_of_ble_eq_true rfl) (fun v11 h12 hw => ?_)
              refine r_pop C dX12_people_189 rfl ?_
              obtain ⟨v13, ev13⟩ : ∃ v : Int32, v = x4 + (1 : Int32) := ⟨_, rfl⟩
              replace hw := hw v13 ev13
              refine r_iinc v13 [some (.ref (G.1 a0)), some (.int x1), some (.int x2), some (.int x3), some (.int v13), some (.long v1), none, some (.int v3)] C dX12_people_190 rfl (by rw [ev13]; rfl) rfl rfl ?_
              refine r_goto 58 C dX12_people_193 (by decide) ?_
              refine r_weak [some (.ref (G.1 a0)), some (.int x1), some (.int x2), some (.int x3), some (.int v13), none, none, none] (lw_k (lw_k (lw_k (lw_k (lw_k (lw_d (lw_k (lw_d (lw_n))))))))) ?_
              exact hK58 _ _ hw
            · replace hw := it_t hc hw
              refine r_iload C dX12_people_154 rfl ?_
              exact r_iret C dX12_people_156 ⟨_, rfl, hw⟩
          · replace hw := it_t hc hw
            refine r_iload C dX12_people_107 rfl ?_
            exact r_iret C dX12_people_109 ⟨_, rfl, hw⟩
def jX12_people_43 (a0 : Nat) (x1 : Int32) (x2 : Int32) (x3 : Int32) (h : Hp) (Q : Int32 → Hp → Prop) : Prop :=
  vp_in x1 (ln (rf a0 52)) ∧ (if (gI h (rf a0 52) x1.toNatClampNeg) = (-1 : Int32) then (Q (0 : Int32) h) else (eX12_people_58 a0 x1 x2 x3 Q (0 : Int32) h))
set_option maxRecDepth 20000 in
theorem tX12_people_43 {G : GG} {X : XX} {a0 : Nat} {x1 : Int32} {x2 : Int32} {x3 : Int32} {h : Hp}  {Q : Int32 → Hp → Prop} (C : Cx G RX12 cX12_people 8 (some .int) 3 0 0 X) (k0 : kd a0 = 12) (hw : jX12_people_43 a0 x1 x2 x3 h Q) : R0 G X 0 0 (ZM G (fun r h' => ∃ v, r = some (.int v) ∧ Q v h') X) 43 [some (.ref (G.1 a0)), some (.int x1), some (.int x2), some (.int x3), none, none, none, none] [] h := by
  unfold jX12_people_43 at hw
  refine r_aload_n C dX12_people_43 rfl ?_
  refine gX12_94 C (k0) dX12_people_44 ?_
  refine r_iload_n C dX12_people_47 rfl ?_
  obtain ⟨hi1, hw⟩ := hw
  refine r_iald C (kr12_52 (k0)) hi1 dX12_people_48 ?_
  refine r_iconst (-1) C dX12_people_49 (by decide) ?_
  refine r_icmp_ne 55 C dX12_people_50 (by decide) (fun hc => ?_) (fun hc => ?_)
  · replace hw := it_f hc hw
    refine r_iconst (0) C dX12_people_55 (by decide) ?_
    refine r_istore [some (.ref (G.1 a0)), some (.int x1), some (.int x2), some (.int x3), some (.int (0 : Int32)), none, none, none] C dX12_people_56 (Nat.le_of_ble_eq_true rfl) rfl rfl ?_
    exact tX12_people_58 C (k0) hw
  · replace hw := it_t hc hw
    refine r_iconst (0) C dX12_people_53 (by decide) ?_
    exact r_iret C dX12_people_54 ⟨_, rfl, hw⟩
def wX12_people (a0 : Nat) (x1 : Int32) (x2 : Int32) (x3 : Int32) (h : Hp) (Q : Int32 → Hp → Prop) : Prop :=
  wX12_isShelf x1 h (fun v1 => if v1 = 0 then (Q (-1 : Int32) h) else (wX12_in x3 (1 : Int32) (12 : Int32) h (fun v2 => if v2 = 0 then (Q (-1 : Int32) h) else (vp_in x1 (ln (rf a0 52)) ∧ (if (gI h (rf a0 52) x1.toNatClampNeg) = (-1 : Int32) then (jX12_people_43 a0 x1 x2 x3 h Q) else (vp_in x1 (ln (rf a0 52)) ∧ (if (gI h (rf a0 52) x1.toNatClampNeg) = (-2 : Int32) then (jX12_people_43 a0 x1 x2 x3 h Q) else (Q (-12 : Int32) h))))))))
set_option maxRecDepth 20000 in
theorem sX12_people {G : GG} {a0 : Nat} {x1 : Int32} {x2 : Int32} {x3 : Int32} {h : Hp} {Q : Int32 → Hp → Prop} (k0 : kd a0 = 12) (hw : wX12_people a0 x1 x2 x3 h Q) : CI G 3 yX12_people cX12_people 8 (some .int) [.ref (G.1 a0), .int x1, .int x2, .int x3] h Q := by
  refine CO_of [some (.ref (G.1 a0)), some (.int x1), some (.int x2), some (.int x3), none, none, none, none] (by decide) (Nat.le_of_ble_eq_true rfl) rfl (fun X C => ?_)
  unfold wX12_people at hw
  refine r_iload_n C dX12_people_0 rfl ?_
  refine kX12_132 C (sX12_isShelf hw) dX12_people_1 (Nat.le_of_ble_eq_true rfl) rfl (Nat.le_of_ble_eq_true rfl) (fun v1 hw => ?_)
  refine r_if_eq 17 C dX12_people_4 (by decide) (fun hc => ?_) (fun hc => ?_)
  · replace hw := it_t hc hw
    refine r_iconst (-1) C dX12_people_17 (by decide) ?_
    exact r_iret C dX12_people_18 ⟨_, rfl, hw⟩
  · replace hw := it_f hc hw
    refine r_iload_n C dX12_people_7 rfl ?_
    refine r_iconst (1) C dX12_people_8 (by decide) ?_
    refine r_bipush (12) C dX12_people_9 (by decide) ?_
    refine kX12_114 C (sX12_in hw) dX12_people_11 (Nat.le_of_ble_eq_true rfl) rfl (Nat.le_of_ble_eq_true rfl) (fun v2 hw => ?_)
    refine r_if_ne 19 C dX12_people_14 (by decide) (fun hc => ?_) (fun hc => ?_)
    · replace hw := it_f hc hw
      refine r_aload_n C dX12_people_19 rfl ?_
      refine gX12_94 C (k0) dX12_people_20 ?_
      refine r_iload_n C dX12_people_23 rfl ?_
      obtain ⟨hi3, hw⟩ := hw
      refine r_iald C (kr12_52 (k0)) hi3 dX12_people_24 ?_
      refine r_iconst (-1) C dX12_people_25 (by decide) ?_
      refine r_icmp_eq 43 C dX12_people_26 (by decide) (fun hc => ?_) (fun hc => ?_)
      · replace hw := it_t hc hw
        exact tX12_people_43 C (k0) hw
      · replace hw := it_f hc hw
        refine r_aload_n C dX12_people_29 rfl ?_
        refine gX12_94 C (k0) dX12_people_30 ?_
        refine r_iload_n C dX12_people_33 rfl ?_
        obtain ⟨hi4, hw⟩ := hw
        refine r_iald C (kr12_52 (k0)) hi4 dX12_people_34 ?_
        refine r_bipush (-2) C dX12_people_35 (by decide) ?_
        refine r_icmp_eq 43 C dX12_people_37 (by decide) (fun hc => ?_) (fun hc => ?_)
        · replace hw := it_t hc hw
          exact tX12_people_43 C (k0) hw
        · replace hw := it_f hc hw
          refine r_bipush (-12) C dX12_people_40 (by decide) ?_
          exact r_iret C dX12_people_42 ⟨_, rfl, hw⟩
    · replace hw := it_t hc hw
      refine r_iconst (-1) C dX12_people_17 (by decide) ?_
      exact r_iret C dX12_people_18 ⟨_, rfl, hw⟩
def wX12_valueAt (a0 : Nat) (x1 : Int32) (x2 : Int32) (h : Hp) (Q : Int32 → Prop) : Prop :=
  if x1 = 0 then (vp_in x2 (ln (rf a0 6)) ∧ (Q (gI h (rf a0 6) x2.toNatClampNeg))) else (if x1 = (1 : Int32) then (vp_in x2 (ln (rf a0 5)) ∧ (Q (gI h (rf a0 5) x2.toNatClampNeg))) else (vp_in x2 (ln (rf a0 2)) ∧ (Q (gI h (rf a0 2) x2.toNatClampNeg))))
set_option maxRecDepth 20000 in
theorem sX12_valueAt {G : GG} {a0 : Nat} {x1 : Int32} {x2 : Int32} {h : Hp} {Q : Int32 → Prop} (k0 : kd a0 = 12) (hw : wX12_valueAt a0 x1 x2 h Q) : PI G 0 yX12_valueAt cX12_valueAt 3 (some .int) [.ref (G.1 a0), .int x1, .int x2] h Q := by
  refine CO_of [some (.ref (G.1 a0)), some (.int x1), some (.int x2)] (by decide) (Nat.le_of_ble_eq_true rfl) rfl (fun X C => ?_)
  unfold wX12_valueAt at hw
  refine r_iload_n C dX12_valueAt_0 rfl ?_
  refine r_if_ne 13 C dX12_valueAt_1 (by decide) (fun hc => ?_) (fun hc => ?_)
  · replace hw := it_f hc hw
    refine r_iload_n C dX12_valueAt_13 rfl ?_
    refine r_iconst (1) C dX12_valueAt_14 (by decide) ?_
    refine r_icmp_ne 27 C dX12_valueAt_15 (by decide) (fun hc => ?_) (fun hc => ?_)
    · replace hw := it_f hc hw
      refine r_aload_n C dX12_valueAt_27 rfl ?_
      refine gX12_7 C (k0) dX12_valueAt_28 ?_
      refine r_iload_n C dX12_valueAt_31 rfl ?_
      obtain ⟨hi1, hw⟩ := hw
      refine r_iald C (kr12_2 (k0)) hi1 dX12_valueAt_32 ?_
      exact r_iret C dX12_valueAt_33 ⟨_, rfl, rfl, hw⟩
    · replace hw := it_t hc hw
      refine r_aload_n C dX12_valueAt_18 rfl ?_
      refine gX12_16 C (k0) dX12_valueAt_19 ?_
      refine r_iload_n C dX12_valueAt_22 rfl ?_
      obtain ⟨hi2, hw⟩ := hw
      refine r_iald C (kr12_5 (k0)) hi2 dX12_valueAt_23 ?_
      refine r_goto 33 C dX12_valueAt_24 (by decide) ?_
      exact r_iret C dX12_valueAt_33 ⟨_, rfl, rfl, hw⟩
  · replace hw := it_t hc hw
    refine r_aload_n C dX12_valueAt_4 rfl ?_
    refine gX12_19 C (k0) dX12_valueAt_5 ?_
    refine r_iload_n C dX12_valueAt_8 rfl ?_
    obtain ⟨hi3, hw⟩ := hw
    refine r_iald C (kr12_6 (k0)) hi3 dX12_valueAt_9 ?_
    refine r_goto 33 C dX12_valueAt_10 (by decide) ?_
    exact r_iret C dX12_valueAt_33 ⟨_, rfl, rfl, hw⟩
def wX12_lays (a0 : Nat) (x1 : Int32) (x2 : Int32) (x3 : Int32) (h : Hp) (Q : Hp → Prop) : Prop :=
  if x1 = 0 then (vp_in x2 (ln (rf a0 6)) ∧ (∀ h6 : Hp, h6 = sI h (rf a0 6) x2.toNatClampNeg x3 → (Q h6))) else (if x1 = (1 : Int32) then (vp_in x2 (ln (rf a0 5)) ∧ (∀ h4 : Hp, h4 = sI h (rf a0 5) x2.toNatClampNeg x3 → (Q h4))) else (vp_in x2 (ln (rf a0 2)) ∧ (∀ h2 : Hp, h2 = sI h (rf a0 2) x2.toNatClampNeg x3 → (Q h2))))
set_option maxRecDepth 20000 in
theorem sX12_lays {G : GG} {a0 : Nat} {x1 : Int32} {x2 : Int32} {x3 : Int32} {h : Hp} {Q : Hp → Prop} (k0 : kd a0 = 12) (hw : wX12_lays a0 x1 x2 x3 h Q) : CV G 0 yX12_lays cX12_lays 4 none [.ref (G.1 a0), .int x1, .int x2, .int x3] h Q := by
  refine CO_of [some (.ref (G.1 a0)), some (.int x1), some (.int x2), some (.int x3)] (by decide) (Nat.le_of_ble_eq_true rfl) rfl (fun X C => ?_)
  unfold wX12_lays at hw
  refine r_iload_n C dX12_lays_0 rfl ?_
  refine r_if_ne 14 C dX12_lays_1 (by decide) (fun hc => ?_) (fun hc => ?_)
  · replace hw := it_f hc hw
    refine r_iload_n C dX12_lays_14 rfl ?_
    refine r_iconst (1) C dX12_lays_15 (by decide) ?_
    refine r_icmp_ne 29 C dX12_lays_16 (by decide) (fun hc => ?_) (fun hc => ?_)
    · replace hw := it_f hc hw
      refine r_aload_n C dX12_lays_29 rfl ?_
      refine gX12_7 C (k0) dX12_lays_30 ?_
      refine r_iload_n C dX12_lays_33 rfl ?_
      refine r_iload_n C dX12_lays_34 rfl ?_
      obtain ⟨hi1, hw⟩ := hw
      refine r_iast C (kr12_2 (k0)) hi1 dX12_lays_35 ?_
      refine r_toph (fun h2 eh2 => ?_)
      replace hw := hw h2 eh2
      exact r_vret C dX12_lays_36 ⟨rfl, hw⟩
    · replace hw := it_t hc hw
      refine r_aload_n C dX12_lays_19 rfl ?_
      refine gX12_16 C (k0) dX12_lays_20 ?_
      refine r_iload_n C dX12_lays_23 rfl ?_
      refine r_iload_n C dX12_lays_24 rfl ?_
      obtain ⟨hi3, hw⟩ := hw
      refine r_iast C (kr12_5 (k0)) hi3 dX12_lays_25 ?_
      refine r_toph (fun h4 eh4 => ?_)
      replace hw := hw h4 eh4
      refine r_goto 36 C dX12_lays_26 (by decide) ?_
      exact r_vret C dX12_lays_36 ⟨rfl, hw⟩
  · replace hw := it_t hc hw
    refine r_aload_n C dX12_lays_4 rfl ?_
    refine gX12_19 C (k0) dX12_lays_5 ?_
    refine r_iload_n C dX12_lays_8 rfl ?_
    refine r_iload_n C dX12_lays_9 rfl ?_
    obtain ⟨hi5, hw⟩ := hw
    refine r_iast C (kr12_6 (k0)) hi5 dX12_lays_10 ?_
    refine r_toph (fun h6 eh6 => ?_)
    replace hw := hw h6 eh6
    refine r_goto 36 C dX12_lays_11 (by decide) ?_
    exact r_vret C dX12_lays_36 ⟨rfl, hw⟩
def jX12_changes_121 (a0 : Nat) (x1 : Int32) (x2 : Int32) (x3 : Int32) (x4 : Int32) (h : Hp) (Q : Int32 → Hp → Prop) : Prop :=
  vp_in (gI h a0 11) (ln (rf a0 13)) ∧ (∀ h2 : Hp, h2 = sI h (rf a0 13) (gI h a0 11).toNatClampNeg x1 → (vp_in (gI h2 a0 11) (ln (rf a0 14)) ∧ (∀ h4 : Hp, h4 = sI h2 (rf a0 14) (gI h2 a0 11).toNatClampNeg x2 → (vp_in (gI h4 a0 11) (ln (rf a0 15)) ∧ (∀ h6 : Hp, h6 = sI h4 (rf a0 15) (gI h4 a0 11).toNatClampNeg x4 → (vp_in (gI h6 a0 11) (ln (rf a0 16)) ∧ (∀ h8 : Hp, h8 = sI h6 (rf a0 16) (gI h6 a0 11).toNatClampNeg x3 → (∀ h9 : Hp, h9 = sI h8 a0 11 ((gI h8 a0 11) + (1 : Int32)) → (wX12_lays a0 x1 x2 x3 h9 (fun h11 => Q x4 h11))))))))))
set_option maxRecDepth 20000 in
theorem tX12_changes_121 {G : GG} {X : XX} {a0 : Nat} {x1 : Int32} {x2 : Int32} {x3 : Int32} {x4 : Int32} {h : Hp}  {Q : Int32 → Hp → Prop} (C : Cx G RX12 cX12_changes 6 (some .int) 1 0 0 X) (k0 : kd a0 = 12) (hw : jX12_changes_121 a0 x1 x2 x3 x4 h Q) : R0 G X 0 0 (ZM G (fun r h' => ∃ v, r = some (.int v) ∧ Q v h') X) 121 [some (.ref (G.1 a0)), some (.int x1), some (.int x2), some (.int x3), some (.int x4), none] [] h := by
  unfold jX12_changes_121 at hw
  refine r_aload_n C dX12_changes_121 rfl ?_
  refine gX12_25 C (k0) dX12_changes_122 ?_
  refine r_aload_n C dX12_changes_125 rfl ?_
  refine gX12_144 C (k0) dX12_changes_126 ?_
  refine r_iload_n C dX12_changes_129 rfl ?_
  obtain ⟨hi1, hw⟩ := hw
  refine r_iast C (kr12_13 (k0)) hi1 dX12_changes_130 ?_
  refine r_toph (fun h2 eh2 => ?_)
  replace hw := hw h2 eh2
  refine r_aload_n C dX12_changes_131 rfl ?_
  refine gX12_28 C (k0) dX12_changes_132 ?_
  refine r_aload_n C dX12_changes_135 rfl ?_
  refine gX12_144 C (k0) dX12_changes_136 ?_
  refine r_iload_n C dX12_changes_139 rfl ?_
  obtain ⟨hi3, hw⟩ := hw
  refine r_iast C (kr12_14 (k0)) hi3 dX12_changes_140 ?_
  refine r_toph (fun h4 eh4 => ?_)
  replace hw := hw h4 eh4
  refine r_aload_n C dX12_changes_141 rfl ?_
  refine gX12_31 C (k0) dX12_changes_142 ?_
  refine r_aload_n C dX12_changes_145 rfl ?_
  refine gX12_144 C (k0) dX12_changes_146 ?_
  refine r_iload C dX12_changes_149 rfl ?_
  obtain ⟨hi5, hw⟩ := hw
  refine r_iast C (kr12_15 (k0)) hi5 dX12_changes_151 ?_
  refine r_toph (fun h6 eh6 => ?_)
  replace hw := hw h6 eh6
  refine r_aload_n C dX12_changes_152 rfl ?_
  refine gX12_34 C (k0) dX12_changes_153 ?_
  refine r_aload_n C dX12_changes_156 rfl ?_
  refine gX12_144 C (k0) dX12_changes_157 ?_
  refine r_iload_n C dX12_changes_160 rfl ?_
  obtain ⟨hi7, hw⟩ := hw
  refine r_iast C (kr12_16 (k0)) hi7 dX12_changes_161 ?_
  refine r_toph (fun h8 eh8 => ?_)
  replace hw := hw h8 eh8
  refine r_aload_n C dX12_changes_162 rfl ?_
  refine r_dup C dX12_changes_163 rfl ?_
  refine gX12_144 C (k0) dX12_changes_164 ?_
  refine r_iconst (1) C dX12_changes_167 (by decide) ?_
  refine r_iadd C dX12_changes_168 ?_
  refine pX12_144 C (k0) dX12_changes_169 ?_
  refine r_toph (fun h9 eh9 => ?_)
  replace hw := hw h9 eh9
  refine r_aload_n C dX12_changes_172 rfl ?_
  refine r_iload_n C dX12_changes_173 rfl ?_
  refine r_iload_n C dX12_changes_174 rfl ?_
  refine r_iload_n C dX12_changes_175 rfl ?_
  refine kX12_147 C (k0) (sX12_lays (k0) hw) dX12_changes_176 (Nat.le_of_ble_eq_true rfl) rfl (Nat.le_of_ble_eq_true rfl) (fun h11 hw => ?_)
  refine r_iload C dX12_changes_179 rfl ?_
  exact r_iret C dX12_changes_181 ⟨_, rfl, hw⟩
def fX12_changes_34 (a0 : Nat) (x1 : Int32) (x2 : Int32) (x3 : Int32) (x4 : Int32) (Q : Int32 → Hp → Prop) (K34 : Int32 → Hp → Prop) (x5 : Int32) (h : Hp) : Prop :=
  if (40 : Int32) ≤ x5 then (∀ h1 : Hp, h1 = sI h a0 11 ((gI h a0 11) - (1 : Int32)) → (jX12_changes_121 a0 x1 x2 x3 x4 h1 Q)) else (vp_in x5 (ln (rf a0 13)) ∧ (vp_in (x5 - (1 : Int32)) (ln (rf a0 13)) ∧ (∀ h4 : Hp, h4 = sI h (rf a0 13) (x5 - (1 : Int32)).toNatClampNeg (gI h (rf a0 13) x5.toNatClampNeg) → (vp_in x5 (ln (rf a0 14)) ∧ (vp_in (x5 - (1 : Int32)) (ln (rf a0 14)) ∧ (∀ h7 : Hp, h7 = sI h4 (rf a0 14) (x5 - (1 : Int32)).toNatClampNeg (gI h4 (rf a0 14) x5.toNatClampNeg) → (vp_in x5 (ln (rf a0 15)) ∧ (vp_in (x5 - (1 : Int32)) (ln (rf a0 15)) ∧ (∀ h10 : Hp, h10 = sI h7 (rf a0 15) (x5 - (1 : Int32)).toNatClampNeg (gI h7 (rf a0 15) x5.toNatClampNeg) → (vp_in x5 (ln (rf a0 16)) ∧ (vp_in (x5 - (1 : Int32)) (ln (rf a0 16)) ∧ (∀ h13 : Hp, h13 = sI h10 (rf a0 16) (x5 - (1 : Int32)).toNatClampNeg (gI h10 (rf a0 16) x5.toNatClampNeg) → (∀ v14 : Int32, v14 = x5 + (1 : Int32) → (K34 v14 h13))))))))))))))
def eX12_changes_34 (a0 : Nat) (x1 : Int32) (x2 : Int32) (x3 : Int32) (x4 : Int32) (Q : Int32 → Hp → Prop) (x5 : Int32) (h : Hp) : Prop := ∃ N, lpN (fun (K : Int32 × Hp → Prop) (s : Int32 × Hp) => fX12_changes_34 a0 x1 x2 x3 x4 Q (fun x5 h => K (x5, h)) s.1 s.2) N (x5, h)
theorem iX12_changes_34 {a0 : Nat} {x1 : Int32} {x2 : Int32} {x3 : Int32} {x4 : Int32} {Q : Int32 → Hp → Prop} (I : Int32 → Hp → Prop) (μ : Int32 → Hp → Nat) (hs : ∀ (x5 : Int32) (h : Hp), I x5 h → ∀ K : Int32 → Hp → Prop, (∀ (x5' : Int32) (h' : Hp), I x5' h' → μ x5' h' < μ x5 h → K x5' h') → fX12_changes_34 a0 x1 x2 x3 x4 Q K x5 h) : ∀ (x5 : Int32) (h : Hp), I x5 h → eX12_changes_34 a0 x1 x2 x3 x4 Q x5 h := fun x5 h hI => lp_ind (fun s => I s.1 s.2) (fun s => μ s.1 s.2) (fun s hs' K hK => hs s.1 s.2 hs' _ (fun x5' h' h1 h2 => hK (x5', h') h1 h2)) (x5, h) hI
set_option maxRecDepth 20000 in
theorem tX12_changes_34 {G : GG} {X : XX} {a0 : Nat} {x1 : Int32} {x2 : Int32} {x3 : Int32} {x4 : Int32} {x5 : Int32} {h : Hp}  {Q : Int32 → Hp → Prop} (C : Cx G RX12 cX12_changes 6 (some .int) 1 0 0 X) (k0 : kd a0 = 12) (hw : eX12_changes_34 a0 x1 x2 x3 x4 Q x5 h) : R0 G X 0 0 (ZM G (fun r h' => ∃ v, r = some (.int v) ∧ Q v h') X) 34 [some (.ref (G.1 a0)), some (.int x1), some (.int x2), some (.int x3), some (.int x4), some (.int x5)] [] h := by
  obtain ⟨N, hw⟩ := hw
  induction N generalizing x5 h with
  | zero => exact hw.elim
  | succ N ih =>
    obtain ⟨K34, eK⟩ : ∃ K : Int32 → Hp → Prop, K = (fun x5 h => lpN (fun (K : Int32 × Hp → Prop) (s : Int32 × Hp) => fX12_changes_34 a0 x1 x2 x3 x4 Q (fun x5 h => K (x5, h)) s.1 s.2) N (x5, h)) := ⟨_, rfl⟩
    have hw : fX12_changes_34 a0 x1 x2 x3 x4 Q (fun x5 h => lpN (fun (K : Int32 × Hp → Prop) (s : Int32 × Hp) => fX12_changes_34 a0 x1 x2 x3 x4 Q (fun x5 h => K (x5, h)) s.1 s.2) N (x5, h)) x5 h := hw
    have hK34 : ∀ (x5 : Int32) (h : Hp), K34 x5 h → R0 G X 0 0 (ZM G (fun r h' => ∃ v, r = some (.int v) ∧ Q v h') X) 34 [some (.ref (G.1 a0)), some (.int x1), some (.int x2), some (.int x3), some (.int x4), some (.int x5)] [] h := fun x5 h q => ih (by rw [eK] at q; exact q)
    rw [← eK] at hw
    clear eK ih
    unfold fX12_changes_34 at hw
    refine r_iload C dX12_changes_34 rfl ?_
    refine r_bipush (40) C dX12_changes_36 (by decide) ?_
    refine r_icmp_ge 111 C dX12_changes_38 (by decide) (fun hc => ?_) (fun hc => ?_)
    · replace hw := it_t hc hw
      refine r_aload_n C dX12_changes_111 rfl ?_
      refine r_dup C dX12_changes_112 rfl ?_
      refine gX12_144 C (k0) dX12_changes_113 ?_
      refine r_iconst (1) C dX12_changes_116 (by decide) ?_
      refine r_isub C dX12_changes_117 ?_
      refine pX12_144 C (k0) dX12_changes_118 ?_
      refine r_toph (fun h1 eh1 => ?_)
      replace hw := hw h1 eh1
      refine r_weak [some (.ref (G.1 a0)), some (.int x1), some (.int x2), some (.int x3), some (.int x4), none] (lw_k (lw_k (lw_k (lw_k (lw_k (lw_d (lw_n))))))) ?_
      exact tX12_changes_121 C (k0) hw
    · replace hw := it_f hc hw
      refine r_aload_n C dX12_changes_41 rfl ?_
      refine gX12_25 C (k0) dX12_changes_42 ?_
      refine r_iload C dX12_changes_45 rfl ?_
      refine r_iconst (1) C dX12_changes_47 (by decide) ?_
      refine r_isub C dX12_changes_48 ?_
      refine r_aload_n C dX12_changes_49 rfl ?_
      refine gX12_25 C (k0) dX12_changes_50 ?_
      refine r_iload C dX12_changes_53 rfl ?_
      obtain ⟨hi2, hw⟩ := hw
      refine r_iald C (kr12_13 (k0)) hi2 dX12_changes_55 ?_
      obtain ⟨hi3, hw⟩ := hw
      refine r_iast C (kr12_13 (k0)) hi3 dX12_changes_56 ?_
      refine r_toph (fun h4 eh4 => ?_)
      replace hw := hw h4 eh4
      refine r_aload_n C dX12_changes_57 rfl ?_
      refine gX12_28 C (k0) dX12_changes_58 ?_
      refine r_iload C dX12_changes_61 rfl ?_
      refine r_iconst (1) C dX12_changes_63 (by decide) ?_
      refine r_isub C dX12_changes_64 ?_
      refine r_aload_n C dX12_changes_65 rfl ?_
      refine gX12_28 C (k0) dX12_changes_66 ?_
      refine r_iload C dX12_changes_69 rfl ?_
      obtain ⟨hi5, hw⟩ := hw
      refine r_iald C (kr12_14 (k0)) hi5 dX12_changes_71 ?_
      obtain ⟨hi6, hw⟩ := hw
      refine r_iast C (kr12_14 (k0)) hi6 dX12_changes_72 ?_
      refine r_toph (fun h7 eh7 => ?_)
      replace hw := hw h7 eh7
      refine r_aload_n C dX12_changes_73 rfl ?_
      refine gX12_31 C (k0) dX12_changes_74 ?_
      refine r_iload C dX12_changes_77 rfl ?_
      refine r_iconst (1) C dX12_changes_79 (by decide) ?_
      refine r_isub C dX12_changes_80 ?_
      refine r_aload_n C dX12_changes_81 rfl ?_
      refine gX12_31 C (k0) dX12_changes_82 ?_
      refine r_iload C dX12_changes_85 rfl ?_
      obtain ⟨hi8, hw⟩ := hw
      refine r_iald C (kr12_15 (k0)) hi8 dX12_changes_87 ?_
      obtain ⟨hi9, hw⟩ := hw
      refine r_iast C (kr12_15 (k0)) hi9 dX12_changes_88 ?_
      refine r_toph (fun h10 eh10 => ?_)
      replace hw := hw h10 eh10
      refine r_aload_n C dX12_changes_89 rfl ?_
      refine gX12_34 C (k0) dX12_changes_90 ?_
      refine r_iload C dX12_changes_93 rfl ?_
      refine r_iconst (1) C dX12_changes_95 (by decide) ?_
      refine r_isub C dX12_changes_96 ?_
      refine r_aload_n C dX12_changes_97 rfl ?_
      refine gX12_34 C (k0) dX12_changes_98 ?_
      refine r_iload C dX12_changes_101 rfl ?_
      obtain ⟨hi11, hw⟩ := hw
      refine r_iald C (kr12_16 (k0)) hi11 dX12_changes_103 ?_
      obtain ⟨hi12, hw⟩ := hw
      refine r_iast C (kr12_16 (k0)) hi12 dX12_changes_104 ?_
      refine r_toph (fun h13 eh13 => ?_)
      replace hw := hw h13 eh13
      obtain ⟨v14, ev14⟩ : ∃ v : Int32, v = x5 + (1 : Int32) := ⟨_, rfl⟩
      replace hw := hw v14 ev14
      refine r_iinc v14 [some (.ref (G.1 a0)), some (.int x1), some (.int x2), some (.int x3), some (.int x4), some (.int v14)] C dX12_changes_105 rfl (by rw [ev14]; rfl) rfl rfl ?_
      refine r_goto 34 C dX12_changes_108 (by decide) ?_
      exact hK34 _ _ hw
def wX12_changes (a0 : Nat) (x1 : Int32) (x2 : Int32) (x3 : Int32) (h : Hp) (Q : Int32 → Hp → Prop) : Prop :=
  wX12_valueAt a0 x1 x2 h (fun v1 => if v1 = x3 then (Q v1 h) else (∀ h2 : Hp, h2 = sI h a0 12 (0 : Int32) → (if (gI h2 a0 11) = (40 : Int32) then (eX12_changes_34 a0 x1 x2 x3 v1 Q (1 : Int32) h2) else (jX12_changes_121 a0 x1 x2 x3 v1 h2 Q))))
set_option maxRecDepth 20000 in
theorem sX12_changes {G : GG} {a0 : Nat} {x1 : Int32} {x2 : Int32} {x3 : Int32} {h : Hp} {Q : Int32 → Hp → Prop} (k0 : kd a0 = 12) (hw : wX12_changes a0 x1 x2 x3 h Q) : CI G 1 yX12_changes cX12_changes 6 (some .int) [.ref (G.1 a0), .int x1, .int x2, .int x3] h Q := by
  refine CO_of [some (.ref (G.1 a0)), some (.int x1), some (.int x2), some (.int x3), none, none] (by decide) (Nat.le_of_ble_eq_true rfl) rfl (fun X C => ?_)
  unfold wX12_changes at hw
  refine r_aload_n C dX12_changes_0 rfl ?_
  refine r_iload_n C dX12_changes_1 rfl ?_
  refine r_iload_n C dX12_changes_2 rfl ?_
  refine kX12_137 C (k0) (sX12_valueAt (k0) hw) dX12_changes_3 (Nat.le_of_ble_eq_true rfl) rfl (Nat.le_of_ble_eq_true rfl) (fun v1 hw => ?_)
  refine r_istore [some (.ref (G.1 a0)), some (.int x1), some (.int x2), some (.int x3), some (.int v1), none] C dX12_changes_6 (Nat.le_of_ble_eq_true rfl) rfl rfl ?_
  refine r_iload C dX12_changes_8 rfl ?_
  refine r_iload_n C dX12_changes_10 rfl ?_
  refine r_icmp_ne 17 C dX12_changes_11 (by decide) (fun hc => ?_) (fun hc => ?_)
  · replace hw := it_f hc hw
    refine r_aload_n C dX12_changes_17 rfl ?_
    refine r_iconst (0) C dX12_changes_18 (by decide) ?_
    refine pX12_141 C (k0) dX12_changes_19 ?_
    refine r_toph (fun h2 eh2 => ?_)
    replace hw := hw h2 eh2
    refine r_aload_n C dX12_changes_22 rfl ?_
    refine gX12_144 C (k0) dX12_changes_23 ?_
    refine r_bipush (40) C dX12_changes_26 (by decide) ?_
    refine r_icmp_ne 121 C dX12_changes_28 (by decide) (fun hc => ?_) (fun hc => ?_)
    · replace hw := it_f hc hw
      exact tX12_changes_121 C (k0) hw
    · replace hw := it_t hc hw
      refine r_iconst (1) C dX12_changes_31 (by decide) ?_
      refine r_istore [some (.ref (G.1 a0)), some (.int x1), some (.int x2), some (.int x3), some (.int v1), some (.int (1 : Int32))] C dX12_changes_32 (Nat.le_of_ble_eq_true rfl) rfl rfl ?_
      exact tX12_changes_34 C (k0) hw
  · replace hw := it_t hc hw
    refine r_iload C dX12_changes_14 rfl ?_
    exact r_iret C dX12_changes_16 ⟨_, rfl, hw⟩
def wX12_undo (a0 : Nat) (h : Hp) (Q : Int32 → Hp → Prop) : Prop :=
  if (gI h a0 11) = 0 then (Q (-5 : Int32) h) else (∀ h1 : Hp, h1 = sI h a0 11 ((gI h a0 11) - (1 : Int32)) → (∀ h2 : Hp, h2 = sI h1 a0 12 ((gI h1 a0 12) + (1 : Int32)) → (vp_in (gI h2 a0 11) (ln (rf a0 13)) ∧ (vp_in (gI h2 a0 11) (ln (rf a0 14)) ∧ (vp_in (gI h2 a0 11) (ln (rf a0 15)) ∧ (wX12_lays a0 (gI h2 (rf a0 13) (gI h2 a0 11).toNatClampNeg) (gI h2 (rf a0 14) (gI h2 a0 11).toNatClampNeg) (gI h2 (rf a0 15) (gI h2 a0 11).toNatClampNeg) h2 (fun h7 => Q (gI h7 a0 11) h7)))))))
set_option maxRecDepth 20000 in
theorem sX12_undo {G : GG} {a0 : Nat} {h : Hp} {Q : Int32 → Hp → Prop} (k0 : kd a0 = 12) (hw : wX12_undo a0 h Q) : CI G 1 yX12_undo cX12_undo 1 (some .int) [.ref (G.1 a0)] h Q := by
  refine CO_of [some (.ref (G.1 a0))] (by decide) (Nat.le_of_ble_eq_true rfl) rfl (fun X C => ?_)
  unfold wX12_undo at hw
  refine r_aload_n C dX12_undo_0 rfl ?_
  refine gX12_144 C (k0) dX12_undo_1 ?_
  refine r_if_ne 10 C dX12_undo_4 (by decide) (fun hc => ?_) (fun hc => ?_)
  · replace hw := it_f hc hw
    refine r_aload_n C dX12_undo_10 rfl ?_
    refine r_dup C dX12_undo_11 rfl ?_
    refine gX12_144 C (k0) dX12_undo_12 ?_
    refine r_iconst (1) C dX12_undo_15 (by decide) ?_
    refine r_isub C dX12_undo_16 ?_
    refine pX12_144 C (k0) dX12_undo_17 ?_
    refine r_toph (fun h1 eh1 => ?_)
    replace hw := hw h1 eh1
    refine r_aload_n C dX12_undo_20 rfl ?_
    refine r_dup C dX12_undo_21 rfl ?_
    refine gX12_141 C (k0) dX12_undo_22 ?_
    refine r_iconst (1) C dX12_undo_25 (by decide) ?_
    refine r_iadd C dX12_undo_26 ?_
    refine pX12_141 C (k0) dX12_undo_27 ?_
    refine r_toph (fun h2 eh2 => ?_)
    replace hw := hw h2 eh2
    refine r_aload_n C dX12_undo_30 rfl ?_
    refine r_aload_n C dX12_undo_31 rfl ?_
    refine gX12_25 C (k0) dX12_undo_32 ?_
    refine r_aload_n C dX12_undo_35 rfl ?_
    refine gX12_144 C (k0) dX12_undo_36 ?_
    obtain ⟨hi3, hw⟩ := hw
    refine r_iald C (kr12_13 (k0)) hi3 dX12_undo_39 ?_
    refine r_aload_n C dX12_undo_40 rfl ?_
    refine gX12_28 C (k0) dX12_undo_41 ?_
    refine r_aload_n C dX12_undo_44 rfl ?_
    refine gX12_144 C (k0) dX12_undo_45 ?_
    obtain ⟨hi4, hw⟩ := hw
    refine r_iald C (kr12_14 (k0)) hi4 dX12_undo_48 ?_
    refine r_aload_n C dX12_undo_49 rfl ?_
    refine gX12_31 C (k0) dX12_undo_50 ?_
    refine r_aload_n C dX12_undo_53 rfl ?_
    refine gX12_144 C (k0) dX12_undo_54 ?_
    obtain ⟨hi5, hw⟩ := hw
    refine r_iald C (kr12_15 (k0)) hi5 dX12_undo_57 ?_
    refine kX12_147 C (k0) (sX12_lays (k0) hw) dX12_undo_58 (Nat.le_of_ble_eq_true rfl) rfl (Nat.le_of_ble_eq_true rfl) (fun h7 hw => ?_)
    refine r_aload_n C dX12_undo_61 rfl ?_
    refine gX12_144 C (k0) dX12_undo_62 ?_
    exact r_iret C dX12_undo_65 ⟨_, rfl, hw⟩
  · replace hw := it_t hc hw
    refine r_bipush (-5) C dX12_undo_7 (by decide) ?_
    exact r_iret C dX12_undo_9 ⟨_, rfl, hw⟩
def wX12_redo (a0 : Nat) (h : Hp) (Q : Int32 → Hp → Prop) : Prop :=
  if (gI h a0 12) = 0 then (Q (-5 : Int32) h) else (vp_in (gI h a0 11) (ln (rf a0 13)) ∧ (vp_in (gI h a0 11) (ln (rf a0 14)) ∧ (vp_in (gI h a0 11) (ln (rf a0 16)) ∧ (wX12_lays a0 (gI h (rf a0 13) (gI h a0 11).toNatClampNeg) (gI h (rf a0 14) (gI h a0 11).toNatClampNeg) (gI h (rf a0 16) (gI h a0 11).toNatClampNeg) h (fun h5 => ∀ h6 : Hp, h6 = sI h5 a0 11 ((gI h5 a0 11) + (1 : Int32)) → (∀ h7 : Hp, h7 = sI h6 a0 12 ((gI h6 a0 12) - (1 : Int32)) → (Q (gI h7 a0 12) h7)))))))
set_option maxRecDepth 20000 in
theorem sX12_redo {G : GG} {a0 : Nat} {h : Hp} {Q : Int32 → Hp → Prop} (k0 : kd a0 = 12) (hw : wX12_redo a0 h Q) : CI G 1 yX12_redo cX12_redo 1 (some .int) [.ref (G.1 a0)] h Q := by
  refine CO_of [some (.ref (G.1 a0))] (by decide) (Nat.le_of_ble_eq_true rfl) rfl (fun X C => ?_)
  unfold wX12_redo at hw
  refine r_aload_n C dX12_redo_0 rfl ?_
  refine gX12_141 C (k0) dX12_redo_1 ?_
  refine r_if_ne 10 C dX12_redo_4 (by decide) (fun hc => ?_) (fun hc => ?_)
  · replace hw := it_f hc hw
    refine r_aload_n C dX12_redo_10 rfl ?_
    refine r_aload_n C dX12_redo_11 rfl ?_
    refine gX12_25 C (k0) dX12_redo_12 ?_
    refine r_aload_n C dX12_redo_15 rfl ?_
    refine gX12_144 C (k0) dX12_redo_16 ?_
    obtain ⟨hi1, hw⟩ := hw
    refine r_iald C (kr12_13 (k0)) hi1 dX12_redo_19 ?_
    refine r_aload_n C dX12_redo_20 rfl ?_
    refine gX12_28 C (k0) dX12_redo_21 ?_
    refine r_aload_n C dX12_redo_24 rfl ?_
    refine gX12_144 C (k0) dX12_redo_25 ?_
    obtain ⟨hi2, hw⟩ := hw
    refine r_iald C (kr12_14 (k0)) hi2 dX12_redo_28 ?_
    refine r_aload_n C dX12_redo_29 rfl ?_
    refine gX12_34 C (k0) dX12_redo_30 ?_
    refine r_aload_n C dX12_redo_33 rfl ?_
    refine gX12_144 C (k0) dX12_redo_34 ?_
    obtain ⟨hi3, hw⟩ := hw
    refine r_iald C (kr12_16 (k0)) hi3 dX12_redo_37 ?_
    refine kX12_147 C (k0) (sX12_lays (k0) hw) dX12_redo_38 (Nat.le_of_ble_eq_true rfl) rfl (Nat.le_of_ble_eq_true rfl) (fun h5 hw => ?_)
    refine r_aload_n C dX12_redo_41 rfl ?_
    refine r_dup C dX12_redo_42 rfl ?_
    refine gX12_144 C (k0) dX12_redo_43 ?_
    refine r_iconst (1) C dX12_redo_46 (by decide) ?_
    refine r_iadd C dX12_redo_47 ?_
    refine pX12_144 C (k0) dX12_redo_48 ?_
    refine r_toph (fun h6 eh6 => ?_)
    replace hw := hw h6 eh6
    refine r_aload_n C dX12_redo_51 rfl ?_
    refine r_dup C dX12_redo_52 rfl ?_
    refine gX12_141 C (k0) dX12_redo_53 ?_
    refine r_iconst (1) C dX12_redo_56 (by decide) ?_
    refine r_isub C dX12_redo_57 ?_
    refine pX12_141 C (k0) dX12_redo_58 ?_
    refine r_toph (fun h7 eh7 => ?_)
    replace hw := hw h7 eh7
    refine r_aload_n C dX12_redo_61 rfl ?_
    refine gX12_141 C (k0) dX12_redo_62 ?_
    exact r_iret C dX12_redo_65 ⟨_, rfl, hw⟩
  · replace hw := it_t hc hw
    refine r_bipush (-5) C dX12_redo_7 (by decide) ?_
    exact r_iret C dX12_redo_9 ⟨_, rfl, hw⟩
def wX12_mend (a0 : Nat) (x1 : Int32) (x2 : Int32) (x3 : Int32) (h : Hp) (Q : Int32 → Hp → Prop) : Prop :=
  if x2 = (0 : Int32) then (wX12_isPerson a0 x1 h (fun v1 => if v1 = 0 then (Q (-1 : Int32) h) else (wX12_in x3 (1 : Int32) (9 : Int32) h (fun v2 => if v2 = 0 then (Q (-1 : Int32) h) else (wX12_changes a0 (0 : Int32) x1 x3 h (fun v3 h4 => Q v3 h4)))))) else (if x2 = (1 : Int32) then (wX12_isPerson a0 x1 h (fun v5 => if v5 = 0 then (Q (-1 : Int32) h) else (vp_in x1 (ln (rf a0 4)) ∧ (wX12_in x3 ((gI h (rf a0 4) x1.toNatClampNeg) + (1 : Int32)) (60 : Int32) h (fun v7 => if v7 = 0 then (Q (-1 : Int32) h) else (wX12_changes a0 (1 : Int32) x1 x3 h (fun v8 h9 => Q v8 h9))))))) else (if x2 = (2 : Int32) then (wX12_isGate a0 x1 h (fun v10 => if v10 = 0 then (Q (-1 : Int32) h) else (wX12_in x3 (1 : Int32) (6 : Int32) h (fun v11 => if v11 = 0 then (Q (-1 : Int32) h) else (wX12_changes a0 (2 : Int32) x1 x3 h (fun v12 h13 => Q v12 h13)))))) else (Q (-1 : Int32) h)))
set_option maxRecDepth 20000 in
theorem sX12_mend {G : GG} {a0 : Nat} {x1 : Int32} {x2 : Int32} {x3 : Int32} {h : Hp} {Q : Int32 → Hp → Prop} (k0 : kd a0 = 12) (hw : wX12_mend a0 x1 x2 x3 h Q) : CI G 2 yX12_mend cX12_mend 4 (some .int) [.ref (G.1 a0), .int x1, .int x2, .int x3] h Q := by
  refine CO_of [some (.ref (G.1 a0)), some (.int x1), some (.int x2), some (.int x3)] (by decide) (Nat.le_of_ble_eq_true rfl) rfl (fun X C => ?_)
  unfold wX12_mend at hw
  refine r_iload_n C dX12_mend_0 rfl ?_
  by_cases hs1_0 : x2 = (0 : Int32)
  · replace hw := it_t hs1_0 hw
    refine r_tabIn (off := 27) (0) 28 C dX12_mend_1 hs1_0 (by decide) ?_
    refine r_aload_n C dX12_mend_28 rfl ?_
    refine r_iload_n C dX12_mend_29 rfl ?_
    refine kX12_151 C (k0) (sX12_isPerson (k0) hw) dX12_mend_30 (Nat.le_of_ble_eq_true rfl) rfl (Nat.le_of_ble_eq_true rfl) (fun v1 hw => ?_)
    refine r_if_eq 56 C dX12_mend_33 (by decide) (fun hc => ?_) (fun hc => ?_)
    · replace hw := it_t hc hw
      refine r_iconst (-1) C dX12_mend_56 (by decide) ?_
      exact r_iret C dX12_mend_57 ⟨_, rfl, hw⟩
    · replace hw := it_f hc hw
      refine r_iload_n C dX12_mend_36 rfl ?_
      refine r_iconst (1) C dX12_mend_37 (by decide) ?_
      refine r_bipush (9) C dX12_mend_38 (by decide) ?_
      refine kX12_114 C (sX12_in hw) dX12_mend_40 (Nat.le_of_ble_eq_true rfl) rfl (Nat.le_of_ble_eq_true rfl) (fun v2 hw => ?_)
      refine r_if_eq 56 C dX12_mend_43 (by decide) (fun hc => ?_) (fun hc => ?_)
      · replace hw := it_t hc hw
        refine r_iconst (-1) C dX12_mend_56 (by decide) ?_
        exact r_iret C dX12_mend_57 ⟨_, rfl, hw⟩
      · replace hw := it_f hc hw
        refine r_aload_n C dX12_mend_46 rfl ?_
        refine r_iconst (0) C dX12_mend_47 (by decide) ?_
        refine r_iload_n C dX12_mend_48 rfl ?_
        refine r_iload_n C dX12_mend_49 rfl ?_
        refine kX12_154 C (k0) (sX12_changes (k0) hw) dX12_mend_50 (Nat.le_of_ble_eq_true rfl) rfl (Nat.le_of_ble_eq_true rfl) (fun v3 h4 hw => ?_)
        refine r_goto 57 C dX12_mend_53 (by decide) ?_
        exact r_iret C dX12_mend_57 ⟨_, rfl, hw⟩
  replace hw := it_f hs1_0 hw
  by_cases hs1_1 : x2 = (1 : Int32)
  · replace hw := it_t hs1_1 hw
    refine r_tabIn (off := 57) (1) 58 C dX12_mend_1 hs1_1 (by decide) ?_
    refine r_aload_n C dX12_mend_58 rfl ?_
    refine r_iload_n C dX12_mend_59 rfl ?_
    refine kX12_151 C (k0) (sX12_isPerson (k0) hw) dX12_mend_60 (Nat.le_of_ble_eq_true rfl) rfl (Nat.le_of_ble_eq_true rfl) (fun v5 hw => ?_)
    refine r_if_eq 93 C dX12_mend_63 (by decide) (fun hc => ?_) (fun hc => ?_)
    · replace hw := it_t hc hw
      refine r_iconst (-1) C dX12_mend_93 (by decide) ?_
      exact r_iret C dX12_mend_94 ⟨_, rfl, hw⟩
    · replace hw := it_f hc hw
      refine r_iload_n C dX12_mend_66 rfl ?_
      refine r_aload_n C dX12_mend_67 rfl ?_
      refine gX12_13 C (k0) dX12_mend_68 ?_
      refine r_iload_n C dX12_mend_71 rfl ?_
      obtain ⟨hi6, hw⟩ := hw
      refine r_iald C (kr12_4 (k0)) hi6 dX12_mend_72 ?_
      refine r_iconst (1) C dX12_mend_73 (by decide) ?_
      refine r_iadd C dX12_mend_74 ?_
      refine r_bipush (60) C dX12_mend_75 (by decide) ?_
      refine kX12_114 C (sX12_in hw) dX12_mend_77 (Nat.le_of_ble_eq_true rfl) rfl (Nat.le_of_ble_eq_true rfl) (fun v7 hw => ?_)
      refine r_if_eq 93 C dX12_mend_80 (by decide) (fun hc => ?_) (fun hc => ?_)
      · replace hw := it_t hc hw
        refine r_iconst (-1) C dX12_mend_93 (by decide) ?_
        exact r_iret C dX12_mend_94 ⟨_, rfl, hw⟩
      · replace hw := it_f hc hw
        refine r_aload_n C dX12_mend_83 rfl ?_
        refine r_iconst (1) C dX12_mend_84 (by decide) ?_
        refine r_iload_n C dX12_mend_85 rfl ?_
        refine r_iload_n C dX12_mend_86 rfl ?_
        refine kX12_154 C (k0) (sX12_changes (k0) hw) dX12_mend_87 (Nat.le_of_ble_eq_true rfl) rfl (Nat.le_of_ble_eq_true rfl) (fun v8 h9 hw => ?_)
        refine r_goto 94 C dX12_mend_90 (by decide) ?_
        exact r_iret C dX12_mend_94 ⟨_, rfl, hw⟩
  replace hw := it_f hs1_1 hw
  by_cases hs1_2 : x2 = (2 : Int32)
  · replace hw := it_t hs1_2 hw
    refine r_tabIn (off := 94) (2) 95 C dX12_mend_1 hs1_2 (by decide) ?_
    refine r_aload_n C dX12_mend_95 rfl ?_
    refine r_iload_n C dX12_mend_96 rfl ?_
    refine kX12_157 C (k0) (sX12_isGate (k0) hw) dX12_mend_97 (Nat.le_of_ble_eq_true rfl) rfl (Nat.le_of_ble_eq_true rfl) (fun v10 hw => ?_)
    refine r_if_eq 123 C dX12_mend_100 (by decide) (fun hc => ?_) (fun hc => ?_)
    · replace hw := it_t hc hw
      refine r_iconst (-1) C dX12_mend_123 (by decide) ?_
      exact r_iret C dX12_mend_124 ⟨_, rfl, hw⟩
    · replace hw := it_f hc hw
      refine r_iload_n C dX12_mend_103 rfl ?_
      refine r_iconst (1) C dX12_mend_104 (by decide) ?_
      refine r_bipush (6) C dX12_mend_105 (by decide) ?_
      refine kX12_114 C (sX12_in hw) dX12_mend_107 (Nat.le_of_ble_eq_true rfl) rfl (Nat.le_of_ble_eq_true rfl) (fun v11 hw => ?_)
      refine r_if_eq 123 C dX12_mend_110 (by decide) (fun hc => ?_) (fun hc => ?_)
      · replace hw := it_t hc hw
        refine r_iconst (-1) C dX12_mend_123 (by decide) ?_
        exact r_iret C dX12_mend_124 ⟨_, rfl, hw⟩
      · replace hw := it_f hc hw
        refine r_aload_n C dX12_mend_113 rfl ?_
        refine r_iconst (2) C dX12_mend_114 (by decide) ?_
        refine r_iload_n C dX12_mend_115 rfl ?_
        refine r_iload_n C dX12_mend_116 rfl ?_
        refine kX12_154 C (k0) (sX12_changes (k0) hw) dX12_mend_117 (Nat.le_of_ble_eq_true rfl) rfl (Nat.le_of_ble_eq_true rfl) (fun v12 h13 hw => ?_)
        refine r_goto 124 C dX12_mend_120 (by decide) ?_
        exact r_iret C dX12_mend_124 ⟨_, rfl, hw⟩
  replace hw := it_f hs1_2 hw
  refine r_tabOut 125 C dX12_mend_1 (by have qhs1_0 := lv_neT (a := 0) hs1_0 (by decide); have qhs1_1 := lv_neT (a := 1) hs1_1 (by decide); have qhs1_2 := lv_neT (a := 2) hs1_2 (by decide); omega) (by decide) ?_
  refine r_iconst (-1) C dX12_mend_125 (by decide) ?_
  exact r_iret C dX12_mend_126 ⟨_, rfl, hw⟩
def wX12_feed (a0 : Nat) (x1 : Int32) (h : Hp) (Q : Int32 → Hp → Prop) : Prop :=
  wX12_in x1 (0 : Int32) (255 : Int32) h (fun v1 => if v1 = 0 then (Q (-1 : Int32) h) else (if (gI h a0 18) = (120 : Int32) then (Q (-3 : Int32) h) else (vp_in (gI h a0 18) (ln (rf a0 17)) ∧ (∀ h3 : Hp, h3 = sI h (rf a0 17) (gI h a0 18).toNatClampNeg (vp_nar .byte (b8 x1)) → (∀ h4 : Hp, h4 = sI h3 a0 18 ((gI h3 a0 18) + (1 : Int32)) → (Q (gI h4 a0 18) h4))))))
set_option maxRecDepth 20000 in
theorem sX12_feed {G : GG} {a0 : Nat} {x1 : Int32} {h : Hp} {Q : Int32 → Hp → Prop} (k0 : kd a0 = 12) (hw : wX12_feed a0 x1 h Q) : CI G 1 yX12_feed cX12_feed 2 (some .int) [.ref (G.1 a0), .int x1] h Q := by
  refine CO_of [some (.ref (G.1 a0)), some (.int x1)] (by decide) (Nat.le_of_ble_eq_true rfl) rfl (fun X C => ?_)
  unfold wX12_feed at hw
  refine r_iload_n C dX12_feed_0 rfl ?_
  refine r_iconst (0) C dX12_feed_1 (by decide) ?_
  refine r_sipush (255) C dX12_feed_2 (by decide) ?_
  refine kX12_114 C (sX12_in hw) dX12_feed_5 (Nat.le_of_ble_eq_true rfl) rfl (Nat.le_of_ble_eq_true rfl) (fun v1 hw => ?_)
  refine r_if_ne 13 C dX12_feed_8 (by decide) (fun hc => ?_) (fun hc => ?_)
  · replace hw := it_f hc hw
    refine r_aload_n C dX12_feed_13 rfl ?_
    refine gX12_160 C (k0) dX12_feed_14 ?_
    refine r_bipush (120) C dX12_feed_17 (by decide) ?_
    refine r_icmp_ne 25 C dX12_feed_19 (by decide) (fun hc => ?_) (fun hc => ?_)
    · replace hw := it_f hc hw
      refine r_aload_n C dX12_feed_25 rfl ?_
      refine gX12_37 C (k0) dX12_feed_26 ?_
      refine r_aload_n C dX12_feed_29 rfl ?_
      refine gX12_160 C (k0) dX12_feed_30 ?_
      refine r_iload_n C dX12_feed_33 rfl ?_
      refine r_i2b C dX12_feed_34 ?_
      obtain ⟨hi2, hw⟩ := hw
      refine r_bast C (kr12_17 (k0)) hi2 dX12_feed_35 ?_
      refine r_toph (fun h3 eh3 => ?_)
      replace hw := hw h3 eh3
      refine r_aload_n C dX12_feed_36 rfl ?_
      refine r_dup C dX12_feed_37 rfl ?_
      refine gX12_160 C (k0) dX12_feed_38 ?_
      refine r_iconst (1) C dX12_feed_41 (by decide) ?_
      refine r_iadd C dX12_feed_42 ?_
      refine pX12_160 C (k0) dX12_feed_43 ?_
      refine r_toph (fun h4 eh4 => ?_)
      replace hw := hw h4 eh4
      refine r_aload_n C dX12_feed_46 rfl ?_
      refine gX12_160 C (k0) dX12_feed_47 ?_
      exact r_iret C dX12_feed_50 ⟨_, rfl, hw⟩
    · replace hw := it_t hc hw
      refine r_bipush (-3) C dX12_feed_22 (by decide) ?_
      exact r_iret C dX12_feed_24 ⟨_, rfl, hw⟩
  · replace hw := it_t hc hw
    refine r_iconst (-1) C dX12_feed_11 (by decide) ?_
    exact r_iret C dX12_feed_12 ⟨_, rfl, hw⟩
def wX12_look (a0 : Nat) (h : Hp) (Q : Int32 → Prop) : Prop :=
  if (gI h a0 18) ≤ (gI h a0 19) then (Q (-1 : Int32)) else (vp_in (gI h a0 19) (ln (rf a0 17)) ∧ (Q (gI h (rf a0 17) (gI h a0 19).toNatClampNeg)))
set_option maxRecDepth 20000 in
theorem sX12_look {G : GG} {a0 : Nat} {h : Hp} {Q : Int32 → Prop} (k0 : kd a0 = 12) (hw : wX12_look a0 h Q) : PI G 0 yX12_look cX12_look 1 (some .int) [.ref (G.1 a0)] h Q := by
  refine CO_of [some (.ref (G.1 a0))] (by decide) (Nat.le_of_ble_eq_true rfl) rfl (fun X C => ?_)
  unfold wX12_look at hw
  refine r_aload_n C dX12_look_0 rfl ?_
  refine gX12_163 C (k0) dX12_look_1 ?_
  refine r_aload_n C dX12_look_4 rfl ?_
  refine gX12_160 C (k0) dX12_look_5 ?_
  refine r_icmp_ge 23 C dX12_look_8 (by decide) (fun hc => ?_) (fun hc => ?_)
  · replace hw := it_t hc hw
    refine r_iconst (-1) C dX12_look_23 (by decide) ?_
    exact r_iret C dX12_look_24 ⟨_, rfl, rfl, hw⟩
  · replace hw := it_f hc hw
    refine r_aload_n C dX12_look_11 rfl ?_
    refine gX12_37 C (k0) dX12_look_12 ?_
    refine r_aload_n C dX12_look_15 rfl ?_
    refine gX12_163 C (k0) dX12_look_16 ?_
    obtain ⟨hi1, hw⟩ := hw
    refine r_bald C (kr12_17 (k0)) hi1 dX12_look_19 ?_
    refine r_goto 24 C dX12_look_20 (by decide) ?_
    exact r_iret C dX12_look_24 ⟨_, rfl, rfl, hw⟩
def wX12_faulty (a0 : Nat) (h : Hp) (Q : Hp → Prop) : Prop :=
  if 0 ≤ (gI h a0 20) then (Q h) else (∀ h1 : Hp, h1 = sI h a0 20 (gI h a0 19) → (Q h1))
set_option maxRecDepth 20000 in
theorem sX12_faulty {G : GG} {a0 : Nat} {h : Hp} {Q : Hp → Prop} (k0 : kd a0 = 12) (hw : wX12_faulty a0 h Q) : CV G 0 yX12_faulty cX12_faulty 1 none [.ref (G.1 a0)] h Q := by
  refine CO_of [some (.ref (G.1 a0))] (by decide) (Nat.le_of_ble_eq_true rfl) rfl (fun X C => ?_)
  unfold wX12_faulty at hw
  refine r_aload_n C dX12_faulty_0 rfl ?_
  refine gX12_166 C (k0) dX12_faulty_1 ?_
  refine r_if_ge 15 C dX12_faulty_4 (by decide) (fun hc => ?_) (fun hc => ?_)
  · replace hw := it_t hc hw
    exact r_vret C dX12_faulty_15 ⟨rfl, hw⟩
  · replace hw := it_f hc hw
    refine r_aload_n C dX12_faulty_7 rfl ?_
    refine r_aload_n C dX12_faulty_8 rfl ?_
    refine gX12_163 C (k0) dX12_faulty_9 ?_
    refine pX12_166 C (k0) dX12_faulty_12 ?_
    refine r_toph (fun h1 eh1 => ?_)
    replace hw := hw h1 eh1
    exact r_vret C dX12_faulty_15 ⟨rfl, hw⟩
def wX12_addStep (a0 : Nat) (x1 : Int32) (x2 : Int32) (h : Hp) (Q : Hp → Prop) : Prop :=
  vp_in ((260 : Int32) + (gI h a0 22)) (ln (rf a0 23)) ∧ (∀ h2 : Hp, h2 = sI h (rf a0 23) ((260 : Int32) + (gI h a0 22)).toNatClampNeg (vp_nar .byte (b8 x1)) → (vp_in ((260 : Int32) + (gI h2 a0 22)) (ln (rf a0 24)) ∧ (∀ h4 : Hp, h4 = sI h2 (rf a0 24) ((260 : Int32) + (gI h2 a0 22)).toNatClampNeg x2 → (∀ h5 : Hp, h5 = sI h4 a0 22 ((gI h4 a0 22) + (1 : Int32)) → (Q h5)))))
set_option maxRecDepth 20000 in
theorem sX12_addStep {G : GG} {a0 : Nat} {x1 : Int32} {x2 : Int32} {h : Hp} {Q : Hp → Prop} (k0 : kd a0 = 12) (hw : wX12_addStep a0 x1 x2 h Q) : CV G 0 yX12_addStep cX12_addStep 3 none [.ref (G.1 a0), .int x1, .int x2] h Q := by
  refine CO_of [some (.ref (G.1 a0)), some (.int x1), some (.int x2)] (by decide) (Nat.le_of_ble_eq_true rfl) rfl (fun X C => ?_)
  unfold wX12_addStep at hw
  refine r_aload_n C dX12_addStep_0 rfl ?_
  refine gX12_41 C (k0) dX12_addStep_1 ?_
  refine r_sipush (260) C dX12_addStep_4 (by decide) ?_
  refine r_aload_n C dX12_addStep_7 rfl ?_
  refine gX12_169 C (k0) dX12_addStep_8 ?_
  refine r_iadd C dX12_addStep_11 ?_
  refine r_iload_n C dX12_addStep_12 rfl ?_
  refine r_i2b C dX12_addStep_13 ?_
  obtain ⟨hi1, hw⟩ := hw
  refine r_bast C (kr12_23 (k0)) hi1 dX12_addStep_14 ?_
  refine r_toph (fun h2 eh2 => ?_)
  replace hw := hw h2 eh2
  refine r_aload_n C dX12_addStep_15 rfl ?_
  refine gX12_44 C (k0) dX12_addStep_16 ?_
  refine r_sipush (260) C dX12_addStep_19 (by decide) ?_
  refine r_aload_n C dX12_addStep_22 rfl ?_
  refine gX12_169 C (k0) dX12_addStep_23 ?_
  refine r_iadd C dX12_addStep_26 ?_
  refine r_iload_n C dX12_addStep_27 rfl ?_
  obtain ⟨hi3, hw⟩ := hw
  refine r_iast C (kr12_24 (k0)) hi3 dX12_addStep_28 ?_
  refine r_toph (fun h4 eh4 => ?_)
  replace hw := hw h4 eh4
  refine r_aload_n C dX12_addStep_29 rfl ?_
  refine r_dup C dX12_addStep_30 rfl ?_
  refine gX12_169 C (k0) dX12_addStep_31 ?_
  refine r_iconst (1) C dX12_addStep_34 (by decide) ?_
  refine r_iadd C dX12_addStep_35 ?_
  refine pX12_169 C (k0) dX12_addStep_36 ?_
  refine r_toph (fun h5 eh5 => ?_)
  replace hw := hw h5 eh5
  exact r_vret C dX12_addStep_39 ⟨rfl, hw⟩
def wX12_nameOf (x0 : Int32) (h : Hp) (Q : Int32 → Prop) : Prop :=
  if x0 = (99 : Int32) then (Q (3 : Int32)) else (if x0 = (100 : Int32) then (Q (-1 : Int32)) else (if x0 = (101 : Int32) then (Q (-1 : Int32)) else (if x0 = (102 : Int32) then (Q (-1 : Int32)) else (if x0 = (103 : Int32) then (Q (1 : Int32)) else (if x0 = (104 : Int32) then (Q (-1 : Int32)) else (if x0 = (105 : Int32) then (Q (-1 : Int32)) else (if x0 = (106 : Int32) then (Q (-1 : Int32)) else (if x0 = (107 : Int32) then (Q (-1 : Int32)) else (if x0 = (108 : Int32) then (Q (-1 : Int32)) else (if x0 = (109 : Int32) then (Q (-1 : Int32)) else (if x0 = (110 : Int32) then (Q (5 : Int32)) else (if x0 = (111 : Int32) then (Q (-1 : Int32)) else (if x0 = (112 : Int32) then (Q (2 : Int32)) else (if x0 = (113 : Int32) then (Q (-1 : Int32)) else (if x0 = (114 : Int32) then (Q (-1 : Int32)) else (if x0 = (115 : Int32) then (Q (4 : Int32)) else (if x0 = (116 : Int32) then (Q (0 : Int32)) else (Q (-1 : Int32)))))))))))))))))))
set_option maxRecDepth 20000 in
theorem sX12_nameOf {G : GG} {x0 : Int32} {h : Hp} {Q : Int32 → Prop} (hw : wX12_nameOf x0 h Q) : PI G 0 yX12_nameOf cX12_nameOf 1 (some .int) [.int x0] h Q := by
  refine CO_of [some (.int x0)] (by decide) (Nat.le_of_ble_eq_true rfl) rfl (fun X C => ?_)
  unfold wX12_nameOf at hw
  refine r_iload_n C dX12_nameOf_0 rfl ?_
  by_cases hs1_99 : x0 = (99 : Int32)
  · replace hw := it_t hs1_99 hw
    refine r_tabIn (off := 93) (99) 94 C dX12_nameOf_1 hs1_99 (by decide) ?_
    refine r_iconst (3) C dX12_nameOf_94 (by decide) ?_
    exact r_iret C dX12_nameOf_95 ⟨_, rfl, rfl, hw⟩
  replace hw := it_f hs1_99 hw
  by_cases hs1_100 : x0 = (100 : Int32)
  · replace hw := it_t hs1_100 hw
    refine r_tabIn (off := 99) (100) 100 C dX12_nameOf_1 hs1_100 (by decide) ?_
    refine r_iconst (-1) C dX12_nameOf_100 (by decide) ?_
    exact r_iret C dX12_nameOf_101 ⟨_, rfl, rfl, hw⟩
  replace hw := it_f hs1_100 hw
  by_cases hs1_101 : x0 = (101 : Int32)
  · replace hw := it_t hs1_101 hw
    refine r_tabIn (off := 99) (101) 100 C dX12_nameOf_1 hs1_101 (by decide) ?_
    refine r_iconst (-1) C dX12_nameOf_100 (by decide) ?_
    exact r_iret C dX12_nameOf_101 ⟨_, rfl, rfl, hw⟩
  replace hw := it_f hs1_101 hw
  by_cases hs1_102 : x0 = (102 : Int32)
  · replace hw := it_t hs1_102 hw
    refine r_tabIn (off := 99) (102) 100 C dX12_nameOf_1 hs1_102 (by decide) ?_
    refine r_iconst (-1) C dX12_nameOf_100 (by decide) ?_
    exact r_iret C dX12_nameOf_101 ⟨_, rfl, rfl, hw⟩
  replace hw := it_f hs1_102 hw
  by_cases hs1_103 : x0 = (103 : Int32)
  · replace hw := it_t hs1_103 hw
    refine r_tabIn (off := 89) (103) 90 C dX12_nameOf_1 hs1_103 (by decide) ?_
    refine r_iconst (1) C dX12_nameOf_90 (by decide) ?_
    exact r_iret C dX12_nameOf_91 ⟨_, rfl, rfl, hw⟩
  replace hw := it_f hs1_103 hw
  by_cases hs1_104 : x0 = (104 : Int32)
  · replace hw := it_t hs1_104 hw
    refine r_tabIn (off := 99) (104) 100 C dX12_nameOf_1 hs1_104 (by decide) ?_
    refine r_iconst (-1) C dX12_nameOf_100 (by decide) ?_
    exact r_iret C dX12_nameOf_101 ⟨_, rfl, rfl, hw⟩
  replace hw := it_f hs1_104 hw
  by_cases hs1_105 : x0 = (105 : Int32)
  · replace hw := it_t hs1_105 hw
    refine r_tabIn (off := 99) (105) 100 C dX12_nameOf_1 hs1_105 (by decide) ?_
    refine r_iconst (-1) C dX12_nameOf_100 (by decide) ?_
    exact r_iret C dX12_nameOf_101 ⟨_, rfl, rfl, hw⟩
  replace hw := it_f hs1_105 hw
  by_cases hs1_106 : x0 = (106 : Int32)
  · replace hw := it_t hs1_106 hw
    refine r_tabIn (off := 99) (106) 100 C dX12_nameOf_1 hs1_106 (by decide) ?_
    refine r_iconst (-1) C dX12_nameOf_100 (by decide) ?_
    exact r_iret C dX12_nameOf_101 ⟨_, rfl, rfl, hw⟩
  replace hw := it_f hs1_106 hw
  by_cases hs1_107 : x0 = (107 : Int32)
  · replace hw := it_t hs1_107 hw
    refine r_tabIn (off := 99) (107) 100 C dX12_nameOf_1 hs1_107 (by decide) ?_
    refine r_iconst (-1) C dX12_nameOf_100 (by decide) ?_
    exact r_iret C dX12_nameOf_101 ⟨_, rfl, rfl, hw⟩
  replace hw := it_f hs1_107 hw
  by_cases hs1_108 : x0 = (108 : Int32)
  · replace hw := it_t hs1_108 hw
    refine r_tabIn (off := 99) (108) 100 C dX12_nameOf_1 hs1_108 (by decide) ?_
    refine r_iconst (-1) C dX12_nameOf_100 (by decide) ?_
    exact r_iret C dX12_nameOf_101 ⟨_, rfl, rfl, hw⟩
  replace hw := it_f hs1_108 hw
  by_cases hs1_109 : x0 = (109 : Int32)
  · replace hw := it_t hs1_109 hw
    refine r_tabIn (off := 99) (109) 100 C dX12_nameOf_1 hs1_109 (by decide) ?_
    refine r_iconst (-1) C dX12_nameOf_100 (by decide) ?_
    exact r_iret C dX12_nameOf_101 ⟨_, rfl, rfl, hw⟩
  replace hw := it_f hs1_109 hw
  by_cases hs1_110 : x0 = (110 : Int32)
  · replace hw := it_t hs1_110 hw
    refine r_tabIn (off := 97) (110) 98 C dX12_nameOf_1 hs1_110 (by decide) ?_
    refine r_iconst (5) C dX12_nameOf_98 (by decide) ?_
    exact r_iret C dX12_nameOf_99 ⟨_, rfl, rfl, hw⟩
  replace hw := it_f hs1_110 hw
  by_cases hs1_111 : x0 = (111 : Int32)
  · replace hw := it_t hs1_111 hw
    refine r_tabIn (off := 99) (111) 100 C dX12_nameOf_1 hs1_111 (by decide) ?_
    refine r_iconst (-1) C dX12_nameOf_100 (by decide) ?_
    exact r_iret C dX12_nameOf_101 ⟨_, rfl, rfl, hw⟩
  replace hw := it_f hs1_111 hw
  by_cases hs1_112 : x0 = (112 : Int32)
  · replace hw := it_t hs1_112 hw
    refine r_tabIn (off := 91) (112) 92 C dX12_nameOf_1 hs1_112 (by decide) ?_
    refine r_iconst (2) C dX12_nameOf_92 (by decide) ?_
    exact r_iret C dX12_nameOf_93 ⟨_, rfl, rfl, hw⟩
  replace hw := it_f hs1_112 hw
  by_cases hs1_113 : x0 = (113 : Int32)
  · replace hw := it_t hs1_113 hw
    refine r_tabIn (off := 99) (113) 100 C dX12_nameOf_1 hs1_113 (by decide) ?_
    refine r_iconst (-1) C dX12_nameOf_100 (by decide) ?_
    exact r_iret C dX12_nameOf_101 ⟨_, rfl, rfl, hw⟩
  replace hw := it_f hs1_113 hw
  by_cases hs1_114 : x0 = (114 : Int32)
  · replace hw := it_t hs1_114 hw
    refine r_tabIn (off := 99) (114) 100 C dX12_nameOf_1 hs1_114 (by decide) ?_
    refine r_iconst (-1) C dX12_nameOf_100 (by decide) ?_
    exact r_iret C dX12_nameOf_101 ⟨_, rfl, rfl, hw⟩
  replace hw := it_f hs1_114 hw
  by_cases hs1_115 : x0 = (115 : Int32)
  · replace hw := it_t hs1_115 hw
    refine r_tabIn (off := 95) (115) 96 C dX12_nameOf_1 hs1_115 (by decide) ?_
    refine r_iconst (4) C dX12_nameOf_96 (by decide) ?_
    exact r_iret C dX12_nameOf_97 ⟨_, rfl, rfl, hw⟩
  replace hw := it_f hs1_115 hw
  by_cases hs1_116 : x0 = (116 : Int32)
  · replace hw := it_t hs1_116 hw
    refine r_tabIn (off := 87) (116) 88 C dX12_nameOf_1 hs1_116 (by decide) ?_
    refine r_iconst (0) C dX12_nameOf_88 (by decide) ?_
    exact r_iret C dX12_nameOf_89 ⟨_, rfl, rfl, hw⟩
  replace hw := it_f hs1_116 hw
  refine r_tabOut 100 C dX12_nameOf_1 (by have qhs1_99 := lv_neT (a := 99) hs1_99 (by decide); have qhs1_100 := lv_neT (a := 100) hs1_100 (by decide); have qhs1_101 := lv_neT (a := 101) hs1_101 (by decide); have qhs1_102 := lv_neT (a := 102) hs1_102 (by decide); have qhs1_103 := lv_neT (a := 103) hs1_103 (by decide); have qhs1_104 := lv_neT (a := 104) hs1_104 (by decide); have qhs1_105 := lv_neT (a := 105) hs1_105 (by decide); have qhs1_106 := lv_neT (a := 106) hs1_106 (by decide); have qhs1_107 := lv_neT (a := 107) hs1_107 (by decide); have qhs1_108 := lv_neT (a := 108) hs1_108 (by decide); have qhs1_109 := lv_neT (a := 109) hs1_109 (by decide); have qhs1_110 := lv_neT (a := 110) hs1_110 (by decide); have qhs1_111 := lv_neT (a := 111) hs1_111 (by decide); have qhs1_112 := lv_neT (a := 112) hs1_112 (by decide); have qhs1_113 := lv_neT (a := 113) hs1_113 (by decide); have qhs1_114 := lv_neT (a := 114) hs1_114 (by decide); have qhs1_115 := lv_neT (a := 115) hs1_115 (by decide); have qhs1_116 := lv_neT (a := 116) hs1_116 (by decide); omega) (by decide) ?_
  refine r_iconst (-1) C dX12_nameOf_100 (by decide) ?_
  exact r_iret C dX12_nameOf_101 ⟨_, rfl, rfl, hw⟩
def wX12_opens (a0 : Nat) (h : Hp) (Q : Int32 → Hp → Prop) : Prop :=
  if (gI h a0 21) = (6 : Int32) then (wX12_faulty a0 h (fun h4 => Q (0 : Int32) h4)) else (∀ h1 : Hp, h1 = sI h a0 21 ((gI h a0 21) + (1 : Int32)) → (∀ h2 : Hp, h2 = sI h1 a0 19 ((gI h1 a0 19) + (1 : Int32)) → (Q (1 : Int32) h2)))
set_option maxRecDepth 20000 in
theorem sX12_opens {G : GG} {a0 : Nat} {h : Hp} {Q : Int32 → Hp → Prop} (k0 : kd a0 = 12) (hw : wX12_opens a0 h Q) : CI G 1 yX12_opens cX12_opens 1 (some .boolean) [.ref (G.1 a0)] h Q := by
  refine CO_of [some (.ref (G.1 a0))] (by decide) (Nat.le_of_ble_eq_true rfl) rfl (fun X C => ?_)
  unfold wX12_opens at hw
  refine r_aload_n C dX12_opens_0 rfl ?_
  refine gX12_172 C (k0) dX12_opens_1 ?_
  refine r_bipush (6) C dX12_opens_4 (by decide) ?_
  refine r_icmp_ne 15 C dX12_opens_6 (by decide) (fun hc => ?_) (fun hc => ?_)
  · replace hw := it_f hc hw
    refine r_aload_n C dX12_opens_15 rfl ?_
    refine r_dup C dX12_opens_16 rfl ?_
    refine gX12_172 C (k0) dX12_opens_17 ?_
    refine r_iconst (1) C dX12_opens_20 (by decide) ?_
    refine r_iadd C dX12_opens_21 ?_
    refine pX12_172 C (k0) dX12_opens_22 ?_
    refine r_toph (fun h1 eh1 => ?_)
    replace hw := hw h1 eh1
    refine r_aload_n C dX12_opens_25 rfl ?_
    refine r_dup C dX12_opens_26 rfl ?_
    refine gX12_163 C (k0) dX12_opens_27 ?_
    refine r_iconst (1) C dX12_opens_30 (by decide) ?_
    refine r_iadd C dX12_opens_31 ?_
    refine pX12_163 C (k0) dX12_opens_32 ?_
    refine r_toph (fun h2 eh2 => ?_)
    replace hw := hw h2 eh2
    refine r_iconst (1) C dX12_opens_35 (by decide) ?_
    exact r_zret C dX12_opens_36 rfl ⟨_, rfl, hw⟩
  · replace hw := it_t hc hw
    refine r_aload_n C dX12_opens_9 rfl ?_
    refine kX12_175 C (k0) (sX12_faulty (k0) hw) dX12_opens_10 (Nat.le_of_ble_eq_true rfl) rfl (Nat.le_of_ble_eq_true rfl) (fun h4 hw => ?_)
    refine r_iconst (0) C dX12_opens_13 (by decide) ?_
    exact r_zret C dX12_opens_14 rfl ⟨_, rfl, hw⟩
def jX12_figure_74 (a0 : Nat) (x1 : Int32) (h : Hp) (Q : Hp → Prop) : Prop :=
  wX12_addStep a0 (1 : Int32) x1 h (fun h2 => Q h2)
set_option maxRecDepth 20000 in
theorem tX12_figure_74 {G : GG} {X : XX} {a0 : Nat} {x1 : Int32} {h : Hp}  {Q : Hp → Prop} (C : Cx G RX12 cX12_figure 3 none 1 0 0 X) (k0 : kd a0 = 12) (hw : jX12_figure_74 a0 x1 h Q) : R0 G X 0 0 (ZM G (fun r h' => r = none ∧ Q h') X) 74 [some (.ref (G.1 a0)), some (.int x1), none] [] h := by
  unfold jX12_figure_74 at hw
  refine r_aload_n C dX12_figure_74 rfl ?_
  refine r_iconst (1) C dX12_figure_75 (by decide) ?_
  refine r_iload_n C dX12_figure_76 rfl ?_
  refine kX12_182 C (k0) (sX12_addStep (k0) hw) dX12_figure_77 (Nat.le_of_ble_eq_true rfl) rfl (Nat.le_of_ble_eq_true rfl) (fun h2 hw => ?_)
  exact r_vret C dX12_figure_80 ⟨rfl, hw⟩
def jX12_figure_52 (a0 : Nat) (x1 : Int32) (x2 : Int32) (h : Hp) (Q : Hp → Prop) : Prop :=
  if x2 = 0 then (wX12_faulty a0 h (fun h2 => jX12_figure_74 a0 x1 h2 Q)) else (wX12_look a0 h (fun v3 => wX12_in v3 (48 : Int32) (57 : Int32) h (fun v4 => if v4 = 0 then (jX12_figure_74 a0 x1 h Q) else (wX12_faulty a0 h (fun h6 => jX12_figure_74 a0 x1 h6 Q)))))
set_option maxRecDepth 20000 in
theorem tX12_figure_52 {G : GG} {X : XX} {a0 : Nat} {x1 : Int32} {x2 : Int32} {h : Hp}  {Q : Hp → Prop} (C : Cx G RX12 cX12_figure 3 none 1 0 0 X) (k0 : kd a0 = 12) (hw : jX12_figure_52 a0 x1 x2 h Q) : R0 G X 0 0 (ZM G (fun r h' => r = none ∧ Q h') X) 52 [some (.ref (G.1 a0)), some (.int x1), some (.int x2)] [] h := by
  unfold jX12_figure_52 at hw
  refine r_iload_n C dX12_figure_52 rfl ?_
  refine r_if_eq 70 C dX12_figure_53 (by decide) (fun hc => ?_) (fun hc => ?_)
  · replace hw := it_t hc hw
    refine r_aload_n C dX12_figure_70 rfl ?_
    refine kX12_175 C (k0) (sX12_faulty (k0) hw) dX12_figure_71 (Nat.le_of_ble_eq_true rfl) rfl (Nat.le_of_ble_eq_true rfl) (fun h2 hw => ?_)
    refine r_weak [some (.ref (G.1 a0)), some (.int x1), none] (lw_k (lw_k (lw_d (lw_n)))) ?_
    exact tX12_figure_74 C (k0) hw
  · replace hw := it_f hc hw
    refine r_aload_n C dX12_figure_56 rfl ?_
    refine kX12_178 C (k0) (sX12_look (k0) hw) dX12_figure_57 (Nat.le_of_ble_eq_true rfl) rfl (Nat.le_of_ble_eq_true rfl) (fun v3 hw => ?_)
    refine r_bipush (48) C dX12_figure_60 (by decide) ?_
    refine r_bipush (57) C dX12_figure_62 (by decide) ?_
    refine kX12_114 C (sX12_in hw) dX12_figure_64 (Nat.le_of_ble_eq_true rfl) rfl (Nat.le_of_ble_eq_true rfl) (fun v4 hw => ?_)
    refine r_if_eq 74 C dX12_figure_67 (by decide) (fun hc => ?_) (fun hc => ?_)
    · replace hw := it_t hc hw
      refine r_weak [some (.ref (G.1 a0)), some (.int x1), none] (lw_k (lw_k (lw_d (lw_n)))) ?_
      exact tX12_figure_74 C (k0) hw
    · replace hw := it_f hc hw
      refine r_aload_n C dX12_figure_70 rfl ?_
      refine kX12_175 C (k0) (sX12_faulty (k0) hw) dX12_figure_71 (Nat.le_of_ble_eq_true rfl) rfl (Nat.le_of_ble_eq_true rfl) (fun h6 hw => ?_)
      refine r_weak [some (.ref (G.1 a0)), some (.int x1), none] (lw_k (lw_k (lw_d (lw_n)))) ?_
      exact tX12_figure_74 C (k0) hw
def fX12_figure_4 (a0 : Nat) (Q : Hp → Prop) (K4 : Int32 → Int32 → Hp → Prop) (x1 : Int32) (x2 : Int32) (h : Hp) : Prop :=
  if (4 : Int32) ≤ x2 then (jX12_figure_52 a0 x1 x2 h Q) else (wX12_look a0 h (fun v1 => wX12_in v1 (48 : Int32) (57 : Int32) h (fun v2 => if v2 = 0 then (jX12_figure_52 a0 x1 x2 h Q) else (wX12_look a0 h (fun v3 => ∀ v4 : Int32, v4 = ((((10 : Int32) * x1) + v3) - (48 : Int32)) → (∀ v5 : Int32, v5 = x2 + (1 : Int32) → (∀ h6 : Hp, h6 = sI h a0 19 ((gI h a0 19) + (1 : Int32)) → (K4 v4 v5 h6))))))))
def eX12_figure_4 (a0 : Nat) (Q : Hp → Prop) (x1 : Int32) (x2 : Int32) (h : Hp) : Prop := ∃ N, lpN (fun (K : Int32 × Int32 × Hp → Prop) (s : Int32 × Int32 × Hp) => fX12_figure_4 a0 Q (fun x1 x2 h => K (x1, x2, h)) s.1 s.2.1 s.2.2) N (x1, x2, h)
theorem iX12_figure_4 {a0 : Nat} {Q : Hp → Prop} (I : Int32 → Int32 → Hp → Prop) (μ : Int32 → Int32 → Hp → Nat) (hs : ∀ (x1 : Int32) (x2 : Int32) (h : Hp), I x1 x2 h → ∀ K : Int32 → Int32 → Hp → Prop, (∀ (x1' : Int32) (x2' : Int32) (h' : Hp), I x1' x2' h' → μ x1' x2' h' < μ x1 x2 h → K x1' x2' h') → fX12_figure_4 a0 Q K x1 x2 h) : ∀ (x1 : Int32) (x2 : Int32) (h : Hp), I x1 x2 h → eX12_figure_4 a0 Q x1 x2 h := fun x1 x2 h hI => lp_ind (fun s => I s.1 s.2.1 s.2.2) (fun s => μ s.1 s.2.1 s.2.2) (fun s hs' K hK => hs s.1 s.2.1 s.2.2 hs' _ (fun x1' x2' h' h1 h2 => hK (x1', x2', h') h1 h2)) (x1, x2, h) hI
set_option maxRecDepth 20000 in
theorem tX12_figure_4 {G : GG} {X : XX} {a0 : Nat} {x1 : Int32} {x2 : Int32} {h : Hp}  {Q : Hp → Prop} (C : Cx G RX12 cX12_figure 3 none 1 0 0 X) (k0 : kd a0 = 12) (hw : eX12_figure_4 a0 Q x1 x2 h) : R0 G X 0 0 (ZM G (fun r h' => r = none ∧ Q h') X) 4 [some (.ref (G.1 a0)), some (.int x1), some (.int x2)] [] h := by
  obtain ⟨N, hw⟩ := hw
  induction N generalizing x1 x2 h with
  | zero => exact hw.elim
  | succ N ih =>
    obtain ⟨K4, eK⟩ : ∃ K : Int32 → Int32 → Hp → Prop, K = (fun x1 x2 h => lpN (fun (K : Int32 × Int32 × Hp → Prop) (s : Int32 × Int32 × Hp) => fX12_figure_4 a0 Q (fun x1 x2 h => K (x1, x2, h)) s.1 s.2.1 s.2.2) N (x1, x2, h)) := ⟨_, rfl⟩
    have hw : fX12_figure_4 a0 Q (fun x1 x2 h => lpN (fun (K : Int32 × Int32 × Hp → Prop) (s : Int32 × Int32 × Hp) => fX12_figure_4 a0 Q (fun x1 x2 h => K (x1, x2, h)) s.1 s.2.1 s.2.2) N (x1, x2, h)) x1 x2 h := hw
    have hK4 : ∀ (x1 : Int32) (x2 : Int32) (h : Hp), K4 x1 x2 h → R0 G X 0 0 (ZM G (fun r h' => r = none ∧ Q h') X) 4 [some (.ref (G.1 a0)), some (.int x1), some (.int x2)] [] h := fun x1 x2 h q => ih (by rw [eK] at q; exact q)
    rw [← eK] at hw
    clear eK ih
    unfold fX12_figure_4 at hw
    refine r_iload_n C dX12_figure_4 rfl ?_
    refine r_iconst (4) C dX12_figure_5 (by decide) ?_
    refine r_icmp_ge 52 C dX12_figure_6 (by decide) (fun hc => ?_) (fun hc => ?_)
    · replace hw := it_t hc hw
      exact tX12_figure_52 C (k0) hw
    · replace hw := it_f hc hw
      refine r_aload_n C dX12_figure_9 rfl ?_
      refine kX12_178 C (k0) (sX12_look (k0) hw) dX12_figure_10 (Nat.le_of_ble_eq_true rfl) rfl (Nat.le_of_ble_eq_true rfl) (fun v1 hw => ?_)
      refine r_bipush (48) C dX12_figure_13 (by decide) ?_
      refine r_bipush (57) C dX12_figure_15 (by decide) ?_
      refine kX12_114 C (sX12_in hw) dX12_figure_17 (Nat.le_of_ble_eq_true rfl) rfl (Nat.le_of_ble_eq_true rfl) (fun v2 hw => ?_)
      refine r_if_eq 52 C dX12_figure_20 (by decide) (fun hc => ?_) (fun hc => ?_)
      · replace hw := it_t hc hw
        exact tX12_figure_52 C (k0) hw
      · replace hw := it_f hc hw
        refine r_bipush (10) C dX12_figure_23 (by decide) ?_
        refine r_iload_n C dX12_figure_25 rfl ?_
        refine r_imul C dX12_figure_26 ?_
        refine r_aload_n C dX12_figure_27 rfl ?_
        refine kX12_178 C (k0) (sX12_look (k0) hw) dX12_figure_28 (Nat.le_of_ble_eq_true rfl) rfl (Nat.le_of_ble_eq_true rfl) (fun v3 hw => ?_)
        refine r_iadd C dX12_figure_31 ?_
        refine r_bipush (48) C dX12_figure_32 (by decide) ?_
        refine r_isub C dX12_figure_34 ?_
        refine r_topi (fun v4 ev4 => ?_)
        replace hw := hw v4 ev4
        refine r_istore_n [some (.ref (G.1 a0)), some (.int v4), some (.int x2)] C dX12_figure_35 (Nat.le_of_ble_eq_true rfl) rfl rfl ?_
        obtain ⟨v5, ev5⟩ : ∃ v : Int32, v = x2 + (1 : Int32) := ⟨_, rfl⟩
        replace hw := hw v5 ev5
        refine r_iinc v5 [some (.ref (G.1 a0)), some (.int v4), some (.int v5)] C dX12_figure_36 rfl (by rw [ev5]; rfl) rfl rfl ?_
        refine r_aload_n C dX12_figure_39 rfl ?_
        refine r_dup C dX12_figure_40 rfl ?_
        refine gX12_163 C (k0) dX12_figure_41 ?_
        refine r_iconst (1) C dX12_figure_44 (by decide) ?_
        refine r_iadd C dX12_figure_45 ?_
        refine pX12_163 C (k0) dX12_figure_46 ?_
        refine r_toph (fun h6 eh6 => ?_)
        replace hw := hw h6 eh6
        refine r_goto 4 C dX12_figure_49 (by decide) ?_
        exact hK4 _ _ _ hw
def wX12_figure (a0 : Nat) (h : Hp) (Q : Hp → Prop) : Prop :=
  eX12_figure_4 a0 Q (0 : Int32) (0 : Int32) h
set_option maxRecDepth 20000 in
theorem sX12_figure {G : GG} {a0 : Nat} {h : Hp} {Q : Hp → Prop} (k0 : kd a0 = 12) (hw : wX12_figure a0 h Q) : CV G 1 yX12_figure cX12_figure 3 none [.ref (G.1 a0)] h Q := by
  refine CO_of [some (.ref (G.1 a0)), none, none] (by decide) (Nat.le_of_ble_eq_true rfl) rfl (fun X C => ?_)
  unfold wX12_figure at hw
  refine r_iconst (0) C dX12_figure_0 (by decide) ?_
  refine r_istore_n [some (.ref (G.1 a0)), some (.int (0 : Int32)), none] C dX12_figure_1 (Nat.le_of_ble_eq_true rfl) rfl rfl ?_
  refine r_iconst (0) C dX12_figure_2 (by decide) ?_
  refine r_istore_n [some (.ref (G.1 a0)), some (.int (0 : Int32)), some (.int (0 : Int32))] C dX12_figure_3 (Nat.le_of_ble_eq_true rfl) rfl rfl ?_
  exact tX12_figure_4 C (k0) hw
