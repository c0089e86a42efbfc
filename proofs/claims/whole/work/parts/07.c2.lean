def fX3_pay_2 (a0 : Nat) (a1 : Nat) (x2 : Int32) (Q : Hp → Prop) (K2 : Int32 → Hp → Prop) (x3 : Int32) (h : Hp) : Prop :=
  if (gI h a1 3) ≤ x3 then (Q h) else (wX11_bit x2 x3 h (fun v1 => if v1 = 0 then (∀ v2 : Int32, v2 = x3 + (1 : Int32) → (K2 v2 h)) else (vp_in x3 (ln (rf a0 0)) ∧ (vp_in x3 (ln (rf a1 2)) ∧ (vp_in x3 (ln (rf a0 0)) ∧ (∀ h6 : Hp, h6 = sI h (rf a0 0) x3.toNatClampNeg ((gI h (rf a0 0) x3.toNatClampNeg) + (gI h (rf a1 2) x3.toNatClampNeg)) → (∀ v7 : Int32, v7 = x3 + (1 : Int32) → (K2 v7 h6))))))))
def eX3_pay_2 (a0 : Nat) (a1 : Nat) (x2 : Int32) (Q : Hp → Prop) (x3 : Int32) (h : Hp) : Prop := ∃ N, lpN (fun (K : Int32 × Hp → Prop) (s : Int32 × Hp) => fX3_pay_2 a0 a1 x2 Q (fun x3 h => K (x3, h)) s.1 s.2) N (x3, h)
theorem iX3_pay_2 {a0 : Nat} {a1 : Nat} {x2 : Int32} {Q : Hp → Prop} (I : Int32 → Hp → Prop) (μ : Int32 → Hp → Nat) (hs : ∀ (x3 : Int32) (h : Hp), I x3 h → ∀ K : Int32 → Hp → Prop, (∀ (x3' : Int32) (h' : Hp), I x3' h' → μ x3' h' < μ x3 h → K x3' h') → fX3_pay_2 a0 a1 x2 Q K x3 h) : ∀ (x3 : Int32) (h : Hp), I x3 h → eX3_pay_2 a0 a1 x2 Q x3 h := fun x3 h hI => lp_ind (fun s => I s.1 s.2) (fun s => μ s.1 s.2) (fun s hs' K hK => hs s.1 s.2 hs' _ (fun x3' h' h1 h2 => hK (x3', h') h1 h2)) (x3, h) hI
set_option maxRecDepth 20000 in
theorem tX3_pay_2 {G : GG} {X : XX} {a0 : Nat} {a1 : Nat} {x2 : Int32} {x3 : Int32} {h : Hp}  {Q : Hp → Prop} (C : Cx G RX3 cX3_pay 4 none 1 0 0 X) (k0 : kd a0 = 3) (k1 : kd a1 = 8) (hw : eX3_pay_2 a0 a1 x2 Q x3 h) : R0 G X 0 0 (ZM G (fun r h' => r = none ∧ Q h') X) 2 [some (.ref (G.1 a0)), some (.ref (G.1 a1)), some (.int x2), some (.int x3)] [] h := by
  obtain ⟨N, hw⟩ := hw
  induction N generalizing x3 h with
  | zero => exact hw.elim
  | succ N ih =>
    obtain ⟨K2, eK⟩ : ∃ K : Int32 → Hp → Prop, K = (fun x3 h => lpN (fun (K : Int32 × Hp → Prop) (s : Int32 × Hp) => fX3_pay_2 a0 a1 x2 Q (fun x3 h => K (x3, h)) s.1 s.2) N (x3, h)) := ⟨_, rfl⟩
    have hw : fX3_pay_2 a0 a1 x2 Q (fun x3 h => lpN (fun (K : Int32 × Hp → Prop) (s : Int32 × Hp) => fX3_pay_2 a0 a1 x2 Q (fun x3 h => K (x3, h)) s.1 s.2) N (x3, h)) x3 h := hw
    have hK2 : ∀ (x3 : Int32) (h : Hp), K2 x3 h → R0 G X 0 0 (ZM G (fun r h' => r = none ∧ Q h') X) 2 [some (.ref (G.1 a0)), some (.ref (G.1 a1)), some (.int x2), some (.int x3)] [] h := fun x3 h q => ih (by rw [eK] at q; exact q)
    rw [← eK] at hw
    clear eK ih
    unfold fX3_pay_2 at hw
    refine r_iload_n C dX3_pay_2 rfl ?_
    refine r_aload_n C dX3_pay_3 rfl ?_
    refine gX3_22 C (k1) dX3_pay_4 ?_
    refine r_icmp_ge 39 C dX3_pay_7 (by decide) (fun hc => ?_) (fun hc => ?_)
    · replace hw := it_t hc hw
      exact r_vret C dX3_pay_39 ⟨rfl, hw⟩
    · replace hw := it_f hc hw
      refine r_iload_n C dX3_pay_10 rfl ?_
      refine r_iload_n C dX3_pay_11 rfl ?_
      refine kX3_27 C (sX11_bit hw) dX3_pay_12 (Nat.le_of_ble_eq_true rfl) rfl (Nat.le_of_ble_eq_true rfl) (fun v1 hw => ?_)
      refine r_if_eq 33 C dX3_pay_15 (by decide) (fun hc => ?_) (fun hc => ?_)
      · replace hw := it_t hc hw
        obtain ⟨v2, ev2⟩ : ∃ v : Int32, v = x3 + (1 : Int32) := ⟨_, rfl⟩
        replace hw := hw v2 ev2
        refine r_iinc v2 [some (.ref (G.1 a0)), some (.ref (G.1 a1)), some (.int x2), some (.int v2)] C dX3_pay_33 rfl (by rw [ev2]; rfl) rfl rfl ?_
        refine r_goto 2 C dX3_pay_36 (by decide) ?_
        exact hK2 _ _ hw
      · replace hw := it_f hc hw
        refine r_aload_n C dX3_pay_18 rfl ?_
        refine gX3_9 C (k0) dX3_pay_19 ?_
        refine r_iload_n C dX3_pay_22 rfl ?_
        refine r_dup2_11 C dX3_pay_23 rfl rfl ?_
        obtain ⟨hi3, hw⟩ := hw
        refine r_iald C (kr3_0 (k0)) hi3 dX3_pay_24 ?_
        refine r_aload_n C dX3_pay_25 rfl ?_
        refine gX3_31 C (k1) dX3_pay_26 ?_
        refine r_iload_n C dX3_pay_29 rfl ?_
        obtain ⟨hi4, hw⟩ := hw
        refine r_iald C (kr8_2 (k1)) hi4 dX3_pay_30 ?_
        refine r_iadd C dX3_pay_31 ?_
        obtain ⟨hi5, hw⟩ := hw
        refine r_iast C (kr3_0 (k0)) hi5 dX3_pay_32 ?_
        refine r_toph (fun h6 eh6 => ?_)
        replace hw := hw h6 eh6
        obtain ⟨v7, ev7⟩ : ∃ v : Int32, v = x3 + (1 : Int32) := ⟨_, rfl⟩
        replace hw := hw v7 ev7
        refine r_iinc v7 [some (.ref (G.1 a0)), some (.ref (G.1 a1)), some (.int x2), some (.int v7)] C dX3_pay_33 rfl (by rw [ev7]; rfl) rfl rfl ?_
        refine r_goto 2 C dX3_pay_36 (by decide) ?_
        exact hK2 _ _ hw
def wX3_pay (a0 : Nat) (a1 : Nat) (x2 : Int32) (h : Hp) (Q : Hp → Prop) : Prop :=
  eX3_pay_2 a0 a1 x2 Q (0 : Int32) h
set_option maxRecDepth 20000 in
theorem sX3_pay {G : GG} {a0 : Nat} {a1 : Nat} {x2 : Int32} {h : Hp} {Q : Hp → Prop} (k0 : kd a0 = 3) (k1 : kd a1 = 8) (hw : wX3_pay a0 a1 x2 h Q) : CV G 1 yX3_pay cX3_pay 4 none [.ref (G.1 a0), .ref (G.1 a1), .int x2] h Q := by
  refine CO_of [some (.ref (G.1 a0)), some (.ref (G.1 a1)), some (.int x2), none] (by decide) (Nat.le_of_ble_eq_true rfl) rfl (fun X C => ?_)
  unfold wX3_pay at hw
  refine r_iconst (0) C dX3_pay_0 (by decide) ?_
  refine r_istore_n [some (.ref (G.1 a0)), some (.ref (G.1 a1)), some (.int x2), some (.int (0 : Int32))] C dX3_pay_1 (Nat.le_of_ble_eq_true rfl) rfl rfl ?_
  exact tX3_pay_2 C (k0) (k1) hw
def wX3_takeFrom (a0 : Nat) (a1 : Nat) (h : Hp) (Q : Hp → Prop) : Prop :=
  ∀ h1 : Hp, h1 = sI h a0 1 (gI h a1 1) → (∀ h2 : Hp, h2 = sI h1 a0 2 (gI h1 a1 2) → (∀ h3 : Hp, h3 = sI h2 a0 3 (gI h2 a1 3) → (cpOK (rf a1 0) (rf a0 0) (0 : Int32) (0 : Int32) (12 : Int32) ∧ (∀ h5 : Hp, h5 = cpI h3 (rf a1 0) (rf a0 0) (0 : Int32).toNatClampNeg (0 : Int32).toNatClampNeg (12 : Int32).toNatClampNeg → (Q h5)))))
set_option maxRecDepth 20000 in
theorem sX3_takeFrom {G : GG} {a0 : Nat} {a1 : Nat} {h : Hp} {Q : Hp → Prop} (k0 : kd a0 = 3) (k1 : kd a1 = 3) (hw : wX3_takeFrom a0 a1 h Q) : CV G 1 yX3_takeFrom cX3_takeFrom 2 none [.ref (G.1 a0), .ref (G.1 a1)] h Q := by
  refine CO_of [some (.ref (G.1 a0)), some (.ref (G.1 a1))] (by decide) (Nat.le_of_ble_eq_true rfl) rfl (fun X C => ?_)
  unfold wX3_takeFrom at hw
  refine r_aload_n C dX3_takeFrom_0 rfl ?_
  refine r_aload_n C dX3_takeFrom_1 rfl ?_
  refine gX3_34 C (k1) dX3_takeFrom_2 ?_
  refine pX3_34 C (k0) dX3_takeFrom_5 ?_
  refine r_toph (fun h1 eh1 => ?_)
  replace hw := hw h1 eh1
  refine r_aload_n C dX3_takeFrom_8 rfl ?_
  refine r_aload_n C dX3_takeFrom_9 rfl ?_
  refine gX3_15 C (k1) dX3_takeFrom_10 ?_
  refine pX3_15 C (k0) dX3_takeFrom_13 ?_
  refine r_toph (fun h2 eh2 => ?_)
  replace hw := hw h2 eh2
  refine r_aload_n C dX3_takeFrom_16 rfl ?_
  refine r_aload_n C dX3_takeFrom_17 rfl ?_
  refine gX3_19 C (k1) dX3_takeFrom_18 ?_
  refine pX3_19 C (k0) dX3_takeFrom_21 ?_
  refine r_toph (fun h3 eh3 => ?_)
  replace hw := hw h3 eh3
  refine r_aload_n C dX3_takeFrom_24 rfl ?_
  refine gX3_9 C (k1) dX3_takeFrom_25 ?_
  refine r_iconst (0) C dX3_takeFrom_28 (by decide) ?_
  refine r_aload_n C dX3_takeFrom_29 rfl ?_
  refine gX3_9 C (k0) dX3_takeFrom_30 ?_
  refine r_iconst (0) C dX3_takeFrom_33 (by decide) ?_
  refine r_bipush (12) C dX3_takeFrom_34 (by decide) ?_
  obtain ⟨hc4, hw⟩ := hw
  refine r_copyi C ⟨wd910, wd547, wd546, wd108⟩ (kr3_0 (k1)) (kr3_0 (k0)) hc4 (Nat.le_of_ble_eq_true rfl) rfl (Nat.le_of_ble_eq_true rfl) dX3_takeFrom_36 ?_
  refine r_toph (fun h5 eh5 => ?_)
  replace hw := hw h5 eh5
  exact r_vret C dX3_takeFrom_39 ⟨rfl, hw⟩
def wX4_add (a0 : Nat) (x1 : Int32) (h : Hp) (Q : Int32 → Hp → Prop) : Prop :=
  if (gI h a0 1) < (3 : Int32) then (vp_in (gI h a0 1) (ln (rf a0 0)) ∧ (∀ h2 : Hp, h2 = sI h (rf a0 0) (gI h a0 1).toNatClampNeg x1 → (∀ h3 : Hp, h3 = sI h2 a0 1 ((gI h2 a0 1) + (1 : Int32)) → (Q ((gI h3 a0 1) - (1 : Int32)) h3)))) else (Q (-3 : Int32) h)
set_option maxRecDepth 20000 in
theorem sX4_add {G : GG} {a0 : Nat} {x1 : Int32} {h : Hp} {Q : Int32 → Hp → Prop} (k0 : kd a0 = 4) (hw : wX4_add a0 x1 h Q) : CI G 0 yX4_add cX4_add 2 (some .int) [.ref (G.1 a0), .int x1] h Q := by
  refine CO_of [some (.ref (G.1 a0)), some (.int x1)] (by decide) (Nat.le_of_ble_eq_true rfl) rfl (fun X C => ?_)
  unfold wX4_add at hw
  refine r_aload_n C dX4_add_0 rfl ?_
  refine gX4_15 C (k0) dX4_add_1 ?_
  refine r_iconst (3) C dX4_add_4 (by decide) ?_
  refine r_icmp_lt 11 C dX4_add_5 (by decide) (fun hc => ?_) (fun hc => ?_)
  · replace hw := it_t hc hw
    refine r_aload_n C dX4_add_11 rfl ?_
    refine gX4_9 C (k0) dX4_add_12 ?_
    refine r_aload_n C dX4_add_15 rfl ?_
    refine gX4_15 C (k0) dX4_add_16 ?_
    refine r_iload_n C dX4_add_19 rfl ?_
    obtain ⟨hi1, hw⟩ := hw
    refine r_iast C (kr4_0 (k0)) hi1 dX4_add_20 ?_
    refine r_toph (fun h2 eh2 => ?_)
    replace hw := hw h2 eh2
    refine r_aload_n C dX4_add_21 rfl ?_
    refine r_dup C dX4_add_22 rfl ?_
    refine gX4_15 C (k0) dX4_add_23 ?_
    refine r_iconst (1) C dX4_add_26 (by decide) ?_
    refine r_iadd C dX4_add_27 ?_
    refine pX4_15 C (k0) dX4_add_28 ?_
    refine r_toph (fun h3 eh3 => ?_)
    replace hw := hw h3 eh3
    refine r_aload_n C dX4_add_31 rfl ?_
    refine gX4_15 C (k0) dX4_add_32 ?_
    refine r_iconst (1) C dX4_add_35 (by decide) ?_
    refine r_isub C dX4_add_36 ?_
    exact r_iret C dX4_add_37 ⟨_, rfl, hw⟩
  · replace hw := it_f hc hw
    refine r_bipush (-3) C dX4_add_8 (by decide) ?_
    exact r_iret C dX4_add_10 ⟨_, rfl, hw⟩
def wX4_upTo (x0 : Int32) (h : Hp) (Q : Int64 → Prop) : Prop :=
  Q ((shlL (1 : Int64) (x0 + (1 : Int32))) - (1 : Int64))
set_option maxRecDepth 20000 in
theorem sX4_upTo {G : GG} {x0 : Int32} {h : Hp} {Q : Int64 → Prop} (hw : wX4_upTo x0 h Q) : PJ G 0 yX4_upTo cX4_upTo 1 (some .long) [.int x0] h Q := by
  refine CO_of [some (.int x0)] (by decide) (Nat.le_of_ble_eq_true rfl) rfl (fun X C => ?_)
  unfold wX4_upTo at hw
  refine r_lconst (1) C dX4_upTo_0 (by decide) ?_
  refine r_iload_n C dX4_upTo_1 rfl ?_
  refine r_iconst (1) C dX4_upTo_2 (by decide) ?_
  refine r_iadd C dX4_upTo_3 ?_
  refine r_lshl C dX4_upTo_4 ?_
  refine r_lconst (1) C dX4_upTo_5 (by decide) ?_
  refine r_lsub C dX4_upTo_6 ?_
  exact r_lret C dX4_upTo_7 ⟨_, rfl, rfl, hw⟩
def fX4_onePassing_6 (a0 : Nat) (x1 : Int64) (x3 : Int32) (h : Hp) (Q : Int64 → Prop) (K6 : Int64 → Int32 → Prop) (x4 : Int64) (x6 : Int32) : Prop :=
  if (gI h a0 1) ≤ x6 then (Q x4) else (vp_in x6 (ln (rf a0 0)) ∧ (vp_in x6 (ln (rf a0 0)) ∧ (wX4_upTo x3 h (fun v3 => ∀ v4 : Int64, v4 = (x4 ||| ((shrL x1 (gI h (rf a0 0) x6.toNatClampNeg)) ||| ((shlL x1 (gI h (rf a0 0) x6.toNatClampNeg)) &&& v3))) → (∀ v5 : Int32, v5 = x6 + (1 : Int32) → (K6 v4 v5))))))
def eX4_onePassing_6 (a0 : Nat) (x1 : Int64) (x3 : Int32) (h : Hp) (Q : Int64 → Prop) (x4 : Int64) (x6 : Int32) : Prop := ∃ N, lpN (fun (K : Int64 × Int32 → Prop) (s : Int64 × Int32) => fX4_onePassing_6 a0 x1 x3 h Q (fun x4 x6 => K (x4, x6)) s.1 s.2) N (x4, x6)
theorem iX4_onePassing_6 {a0 : Nat} {x1 : Int64} {x3 : Int32} {h : Hp} {Q : Int64 → Prop} (I : Int64 → Int32 → Prop) (μ : Int64 → Int32 → Nat) (hs : ∀ (x4 : Int64) (x6 : Int32), I x4 x6 → ∀ K : Int64 → Int32 → Prop, (∀ (x4' : Int64) (x6' : Int32), I x4' x6' → μ x4' x6' < μ x4 x6 → K x4' x6') → fX4_onePassing_6 a0 x1 x3 h Q K x4 x6) : ∀ (x4 : Int64) (x6 : Int32), I x4 x6 → eX4_onePassing_6 a0 x1 x3 h Q x4 x6 := fun x4 x6 hI => lp_ind (fun s => I s.1 s.2) (fun s => μ s.1 s.2) (fun s hs' K hK => hs s.1 s.2 hs' _ (fun x4' x6' h1 h2 => hK (x4', x6') h1 h2)) (x4, x6) hI
set_option maxRecDepth 20000 in
theorem tX4_onePassing_6 {G : GG} {X : XX} {a0 : Nat} {x1 : Int64} {x3 : Int32} {x4 : Int64} {x6 : Int32} {h : Hp}  {Q : Int64 → Prop} (C : Cx G RX4 cX4_onePassing 7 (some .long) 1 0 0 X) (k0 : kd a0 = 4) (hw : eX4_onePassing_6 a0 x1 x3 h Q x4 x6) : R0 G X 0 0 (ZM G (fun r h' => ∃ v, r = some (.long v) ∧ h' = h ∧ Q v) X) 6 [some (.ref (G.1 a0)), some (.long x1), none, some (.int x3), some (.long x4), none, some (.int x6)] [] h := by
  obtain ⟨N, hw⟩ := hw
  induction N generalizing x4 x6 with
  | zero => exact hw.elim
  | succ N ih =>
    obtain ⟨K6, eK⟩ : ∃ K : Int64 → Int32 → Prop, K = (fun x4 x6 => lpN (fun (K : Int64 × Int32 → Prop) (s : Int64 × Int32) => fX4_onePassing_6 a0 x1 x3 h Q (fun x4 x6 => K (x4, x6)) s.1 s.2) N (x4, x6)) := ⟨_, rfl⟩
    have hw : fX4_onePassing_6 a0 x1 x3 h Q (fun x4 x6 => lpN (fun (K : Int64 × Int32 → Prop) (s : Int64 × Int32) => fX4_onePassing_6 a0 x1 x3 h Q (fun x4 x6 => K (x4, x6)) s.1 s.2) N (x4, x6)) x4 x6 := hw
    have hK6 : ∀ (x4 : Int64) (x6 : Int32), K6 x4 x6 → R0 G X 0 0 (ZM G (fun r h' => ∃ v, r = some (.long v) ∧ h' = h ∧ Q v) X) 6 [some (.ref (G.1 a0)), some (.long x1), none, some (.int x3), some (.long x4), none, some (.int x6)] [] h := fun x4 x6 q => ih (by rw [eK] at q; exact q)
    rw [← eK] at hw
    clear eK ih
    unfold fX4_onePassing_6 at hw
    refine r_iload C dX4_onePassing_6 rfl ?_
    refine r_aload_n C dX4_onePassing_8 rfl ?_
    refine gX4_15 C (k0) dX4_onePassing_9 ?_
    refine r_icmp_ge 50 C dX4_onePassing_12 (by decide) (fun hc => ?_) (fun hc => ?_)
    · replace hw := it_t hc hw
      refine r_lload C dX4_onePassing_50 rfl ?_
      exact r_lret C dX4_onePassing_52 ⟨_, rfl, rfl, hw⟩
    · replace hw := it_f hc hw
      refine r_lload C dX4_onePassing_15 rfl ?_
      refine r_lload_n C dX4_onePassing_17 rfl ?_
      refine r_aload_n C dX4_onePassing_18 rfl ?_
      refine gX4_9 C (k0) dX4_onePassing_19 ?_
      refine r_iload C dX4_onePassing_22 rfl ?_
      obtain ⟨hi1, hw⟩ := hw
      refine r_iald C (kr4_0 (k0)) hi1 dX4_onePassing_24 ?_
      refine r_lshr C dX4_onePassing_25 ?_
      refine r_lload_n C dX4_onePassing_26 rfl ?_
      refine r_aload_n C dX4_onePassing_27 rfl ?_
      refine gX4_9 C (k0) dX4_onePassing_28 ?_
      refine r_iload C dX4_onePassing_31 rfl ?_
      obtain ⟨hi2, hw⟩ := hw
      refine r_iald C (kr4_0 (k0)) hi2 dX4_onePassing_33 ?_
      refine r_lshl C dX4_onePassing_34 ?_
      refine r_iload_n C dX4_onePassing_35 rfl ?_
      refine kX4_23 C (sX4_upTo hw) dX4_onePassing_36 (Nat.le_of_ble_eq_true rfl) rfl (Nat.le_of_ble_eq_true rfl) (fun v3 hw => ?_)
      refine r_land C dX4_onePassing_39 ?_
      refine r_lor C dX4_onePassing_40 ?_
      refine r_lor C dX4_onePassing_41 ?_
      refine r_topl (fun v4 ev4 => ?_)
      replace hw := hw v4 ev4
      refine r_lstore [some (.ref (G.1 a0)), some (.long x1), none, some (.int x3), some (.long v4), none, some (.int x6)] C dX4_onePassing_42 (Nat.le_of_ble_eq_true rfl) rfl rfl ?_
      obtain ⟨v5, ev5⟩ : ∃ v : Int32, v = x6 + (1 : Int32) := ⟨_, rfl⟩
      replace hw := hw v5 ev5
      refine r_iinc v5 [some (.ref (G.1 a0)), some (.long x1), none, some (.int x3), some (.long v4), none, some (.int v5)] C dX4_onePassing_44 rfl (by rw [ev5]; rfl) rfl rfl ?_
      refine r_goto 6 C dX4_onePassing_47 (by decide) ?_
      exact hK6 _ _ hw
def wX4_onePassing (a0 : Nat) (x1 : Int64) (x3 : Int32) (h : Hp) (Q : Int64 → Prop) : Prop :=
  eX4_onePassing_6 a0 x1 x3 h Q x1 (0 : Int32)
set_option maxRecDepth 20000 in
theorem sX4_onePassing {G : GG} {a0 : Nat} {x1 : Int64} {x3 : Int32} {h : Hp} {Q : Int64 → Prop} (k0 : kd a0 = 4) (hw : wX4_onePassing a0 x1 x3 h Q) : PJ G 1 yX4_onePassing cX4_onePassing 7 (some .long) [.ref (G.1 a0), .long x1, .int x3] h Q := by
  refine CO_of [some (.ref (G.1 a0)), some (.long x1), none, some (.int x3), none, none, none] (by decide) (Nat.le_of_ble_eq_true rfl) rfl (fun X C => ?_)
  unfold wX4_onePassing at hw
  refine r_lload_n C dX4_onePassing_0 rfl ?_
  refine r_lstore [some (.ref (G.1 a0)), some (.long x1), none, some (.int x3), some (.long x1), none, none] C dX4_onePassing_1 (Nat.le_of_ble_eq_true rfl) rfl rfl ?_
  refine r_iconst (0) C dX4_onePassing_3 (by decide) ?_
  refine r_istore [some (.ref (G.1 a0)), some (.long x1), none, some (.int x3), some (.long x1), none, some (.int (0 : Int32))] C dX4_onePassing_4 (Nat.le_of_ble_eq_true rfl) rfl rfl ?_
  exact tX4_onePassing_6 C (k0) hw
def fX4_everFrom_6 (a0 : Nat) (x3 : Int32) (h : Hp) (Q : Int64 → Prop) (K6 : Int64 → Int32 → Prop) (x4 : Int64) (x6 : Int32) : Prop :=
  if x3 < x6 then (Q x4) else (wX4_onePassing a0 x4 x3 h (fun v1 => if (lg_cmp v1 x4) = 0 then (Q x4) else (∀ v2 : Int32, v2 = x6 + (1 : Int32) → (K6 v1 v2))))
def eX4_everFrom_6 (a0 : Nat) (x3 : Int32) (h : Hp) (Q : Int64 → Prop) (x4 : Int64) (x6 : Int32) : Prop := ∃ N, lpN (fun (K : Int64 × Int32 → Prop) (s : Int64 × Int32) => fX4_everFrom_6 a0 x3 h Q (fun x4 x6 => K (x4, x6)) s.1 s.2) N (x4, x6)
theorem iX4_everFrom_6 {a0 : Nat} {x3 : Int32} {h : Hp} {Q : Int64 → Prop} (I : Int64 → Int32 → Prop) (μ : Int64 → Int32 → Nat) (hs : ∀ (x4 : Int64) (x6 : Int32), I x4 x6 → ∀ K : Int64 → Int32 → Prop, (∀ (x4' : Int64) (x6' : Int32), I x4' x6' → μ x4' x6' < μ x4 x6 → K x4' x6') → fX4_everFrom_6 a0 x3 h Q K x4 x6) : ∀ (x4 : Int64) (x6 : Int32), I x4 x6 → eX4_everFrom_6 a0 x3 h Q x4 x6 := fun x4 x6 hI => lp_ind (fun s => I s.1 s.2) (fun s => μ s.1 s.2) (fun s hs' K hK => hs s.1 s.2 hs' _ (fun x4' x6' h1 h2 => hK (x4', x6') h1 h2)) (x4, x6) hI
set_option maxRecDepth 20000 in
theorem tX4_everFrom_6 {G : GG} {X : XX} {a0 : Nat} {x3 : Int32} {x4 : Int64} {x6 : Int32} {h : Hp}  {Q : Int64 → Prop} (C : Cx G RX4 cX4_everFrom 9 (some .long) 2 0 0 X) (k0 : kd a0 = 4) (hw : eX4_everFrom_6 a0 x3 h Q x4 x6) : R0 G X 0 0 (ZM G (fun r h' => ∃ v, r = some (.long v) ∧ h' = h ∧ Q v) X) 6 [some (.ref (G.1 a0)), none, none, some (.int x3), some (.long x4), none, some (.int x6), none, none] [] h := by
  obtain ⟨N, hw⟩ := hw
  induction N generalizing x4 x6 with
  | zero => exact hw.elim
  | succ N ih =>
    obtain ⟨K6, eK⟩ : ∃ K : Int64 → Int32 → Prop, K = (fun x4 x6 => lpN (fun (K : Int64 × Int32 → Prop) (s : Int64 × Int32) => fX4_everFrom_6 a0 x3 h Q (fun x4 x6 => K (x4, x6)) s.1 s.2) N (x4, x6)) := ⟨_, rfl⟩
    have hw : fX4_everFrom_6 a0 x3 h Q (fun x4 x6 => lpN (fun (K : Int64 × Int32 → Prop) (s : Int64 × Int32) => fX4_everFrom_6 a0 x3 h Q (fun x4 x6 => K (x4, x6)) s.1 s.2) N (x4, x6)) x4 x6 := hw
    have hK6 : ∀ (x4 : Int64) (x6 : Int32), K6 x4 x6 → R0 G X 0 0 (ZM G (fun r h' => ∃ v, r = some (.long v) ∧ h' = h ∧ Q v) X) 6 [some (.ref (G.1 a0)), none, none, some (.int x3), some (.long x4), none, some (.int x6), none, none] [] h := fun x4 x6 q => ih (by rw [eK] at q; exact q)
    rw [← eK] at hw
    clear eK ih
    unfold fX4_everFrom_6 at hw
    refine r_iload C dX4_everFrom_6 rfl ?_
    refine r_iload_n C dX4_everFrom_8 rfl ?_
    refine r_icmp_gt 42 C dX4_everFrom_9 (by decide) (fun hc => ?_) (fun hc => ?_)
    · replace hw := it_t hc hw
      refine r_lload C dX4_everFrom_42 rfl ?_
      exact r_lret C dX4_everFrom_44 ⟨_, rfl, rfl, hw⟩
    · replace hw := it_f hc hw
      refine r_aload_n C dX4_everFrom_12 rfl ?_
      refine r_lload C dX4_everFrom_13 rfl ?_
      refine r_iload_n C dX4_everFrom_15 rfl ?_
      refine kX4_27 C (k0) (sX4_onePassing (k0) hw) dX4_everFrom_16 (Nat.le_of_ble_eq_true rfl) rfl (Nat.le_of_ble_eq_true rfl) (fun v1 hw => ?_)
      refine r_lstore [some (.ref (G.1 a0)), none, none, some (.int x3), some (.long x4), none, some (.int x6), some (.long v1), none] C dX4_everFrom_19 (Nat.le_of_ble_eq_true rfl) rfl rfl ?_
      refine r_lload C dX4_everFrom_21 rfl ?_
      refine r_lload C dX4_everFrom_23 rfl ?_
      refine r_lcmp C dX4_everFrom_25 ?_
      refine r_if_ne 32 C dX4_everFrom_26 (by decide) (fun hc => ?_) (fun hc => ?_)
      · replace hw := it_f hc hw
        refine r_lload C dX4_everFrom_32 rfl ?_
        refine r_lstore [some (.ref (G.1 a0)), none, none, some (.int x3), some (.long v1), none, some (.int x6), some (.long v1), none] C dX4_everFrom_34 (Nat.le_of_ble_eq_true rfl) rfl rfl ?_
        obtain ⟨v2, ev2⟩ : ∃ v : Int32, v = x6 + (1 : Int32) := ⟨_, rfl⟩
        replace hw := hw v2 ev2
        refine r_iinc v2 [some (.ref (G.1 a0)), none, none, some (.int x3), some (.long v1), none, some (.int v2), some (.long v1), none] C dX4_everFrom_36 rfl (by rw [ev2]; rfl) rfl rfl ?_
        refine r_goto 6 C dX4_everFrom_39 (by decide) ?_
        refine r_weak [some (.ref (G.1 a0)), none, none, some (.int x3), some (.long v1), none, some (.int v2), none, none] (lw_k (lw_k (lw_k (lw_k (lw_k (lw_k (lw_k (lw_d (lw_k (lw_n)))))))))) ?_
        exact hK6 _ _ hw
      · replace hw := it_t hc hw
        refine r_lload C dX4_everFrom_29 rfl ?_
        exact r_lret C dX4_everFrom_31 ⟨_, rfl, rfl, hw⟩
def wX4_everFrom (a0 : Nat) (x1 : Int64) (x3 : Int32) (h : Hp) (Q : Int64 → Prop) : Prop :=
  eX4_everFrom_6 a0 x3 h Q x1 (0 : Int32)
set_option maxRecDepth 20000 in
theorem sX4_everFrom {G : GG} {a0 : Nat} {x1 : Int64} {x3 : Int32} {h : Hp} {Q : Int64 → Prop} (k0 : kd a0 = 4) (hw : wX4_everFrom a0 x1 x3 h Q) : PJ G 2 yX4_everFrom cX4_everFrom 9 (some .long) [.ref (G.1 a0), .long x1, .int x3] h Q := by
  refine CO_of [some (.ref (G.1 a0)), some (.long x1), none, some (.int x3), none, none, none, none, none] (by decide) (Nat.le_of_ble_eq_true rfl) rfl (fun X C => ?_)
  unfold wX4_everFrom at hw
  refine r_lload_n C dX4_everFrom_0 rfl ?_
  refine r_lstore [some (.ref (G.1 a0)), some (.long x1), none, some (.int x3), some (.long x1), none, none, none, none] C dX4_everFrom_1 (Nat.le_of_ble_eq_true rfl) rfl rfl ?_
  refine r_iconst (0) C dX4_everFrom_3 (by decide) ?_
  refine r_istore [some (.ref (G.1 a0)), some (.long x1), none, some (.int x3), some (.long x1), none, some (.int (0 : Int32)), none, none] C dX4_everFrom_4 (Nat.le_of_ble_eq_true rfl) rfl rfl ?_
  refine r_weak [some (.ref (G.1 a0)), none, none, some (.int x3), some (.long x1), none, some (.int (0 : Int32)), none, none] (lw_k (lw_d (lw_k (lw_k (lw_k (lw_k (lw_k (lw_k (lw_k (lw_n)))))))))) ?_
  exact tX4_everFrom_6 C (k0) hw
def fX4_fewestPassings_8 (a0 : Nat) (x2 : Int32) (x3 : Int32) (h : Hp) (Q : Int32 → Prop) (K8 : Int64 → Int32 → Prop) (x4 : Int64) (x6 : Int32) : Prop :=
  if x2 < x6 then (Q (-2 : Int32)) else (wX4_hold x4 x3 h (fun v1 => if v1 = 0 then (wX4_onePassing a0 x4 x2 h (fun v2 => ∀ v3 : Int32, v3 = x6 + (1 : Int32) → (K8 v2 v3))) else (Q x6)))
def eX4_fewestPassings_8 (a0 : Nat) (x2 : Int32) (x3 : Int32) (h : Hp) (Q : Int32 → Prop) (x4 : Int64) (x6 : Int32) : Prop := ∃ N, lpN (fun (K : Int64 × Int32 → Prop) (s : Int64 × Int32) => fX4_fewestPassings_8 a0 x2 x3 h Q (fun x4 x6 => K (x4, x6)) s.1 s.2) N (x4, x6)
theorem iX4_fewestPassings_8 {a0 : Nat} {x2 : Int32} {x3 : Int32} {h : Hp} {Q : Int32 → Prop} (I : Int64 → Int32 → Prop) (μ : Int64 → Int32 → Nat) (hs : ∀ (x4 : Int64) (x6 : Int32), I x4 x6 → ∀ K : Int64 → Int32 → Prop, (∀ (x4' : Int64) (x6' : Int32), I x4' x6' → μ x4' x6' < μ x4 x6 → K x4' x6') → fX4_fewestPassings_8 a0 x2 x3 h Q K x4 x6) : ∀ (x4 : Int64) (x6 : Int32), I x4 x6 → eX4_fewestPassings_8 a0 x2 x3 h Q x4 x6 := fun x4 x6 hI => lp_ind (fun s => I s.1 s.2) (fun s => μ s.1 s.2) (fun s hs' K hK => hs s.1 s.2 hs' _ (fun x4' x6' h1 h2 => hK (x4', x6') h1 h2)) (x4, x6) hI
set_option maxRecDepth 20000 in
theorem tX4_fewestPassings_8 {G : GG} {X : XX} {a0 : Nat} {x2 : Int32} {x3 : Int32} {x4 : Int64} {x6 : Int32} {h : Hp}  {Q : Int32 → Prop} (C : Cx G RX4 cX4_fewestPassings 7 (some .int) 2 0 0 X) (k0 : kd a0 = 4) (hw : eX4_fewestPassings_8 a0 x2 x3 h Q x4 x6) : R0 G X 0 0 (ZM G (fun r h' => ∃ v, r = some (.int v) ∧ h' = h ∧ Q v) X) 8 [some (.ref (G.1 a0)), none, some (.int x2), some (.int x3), some (.long x4), none, some (.int x6)] [] h := by
  obtain ⟨N, hw⟩ := hw
  induction N generalizing x4 x6 with
  | zero => exact hw.elim
  | succ N ih =>
    obtain ⟨K8, eK⟩ : ∃ K : Int64 → Int32 → Prop, K = (fun x4 x6 => lpN (fun (K : Int64 × Int32 → Prop) (s : Int64 × Int32) => fX4_fewestPassings_8 a0 x2 x3 h Q (fun x4 x6 => K (x4, x6)) s.1 s.2) N (x4, x6)) := ⟨_, rfl⟩
    have hw : fX4_fewestPassings_8 a0 x2 x3 h Q (fun x4 x6 => lpN (fun (K : Int64 × Int32 → Prop) (s : Int64 × Int32) => fX4_fewestPassings_8 a0 x2 x3 h Q (fun x4 x6 => K (x4, x6)) s.1 s.2) N (x4, x6)) x4 x6 := hw
    have hK8 : ∀ (x4 : Int64) (x6 : Int32), K8 x4 x6 → R0 G X 0 0 (ZM G (fun r h' => ∃ v, r = some (.int v) ∧ h' = h ∧ Q v) X) 8 [some (.ref (G.1 a0)), none, some (.int x2), some (.int x3), some (.long x4), none, some (.int x6)] [] h := fun x4 x6 q => ih (by rw [eK] at q; exact q)
    rw [← eK] at hw
    clear eK ih
    unfold fX4_fewestPassings_8 at hw
    refine r_iload C dX4_fewestPassings_8 rfl ?_
    refine r_iload_n C dX4_fewestPassings_10 rfl ?_
    refine r_icmp_gt 41 C dX4_fewestPassings_11 (by decide) (fun hc => ?_) (fun hc => ?_)
    · replace hw := it_t hc hw
      refine r_bipush (-2) C dX4_fewestPassings_41 (by decide) ?_
      exact r_iret C dX4_fewestPassings_43 ⟨_, rfl, rfl, hw⟩
    · replace hw := it_f hc hw
      refine r_lload C dX4_fewestPassings_14 rfl ?_
      refine r_iload_n C dX4_fewestPassings_16 rfl ?_
      refine kX4_31 C (sX4_hold hw) dX4_fewestPassings_17 (Nat.le_of_ble_eq_true rfl) rfl (Nat.le_of_ble_eq_true rfl) (fun v1 hw => ?_)
      refine r_if_eq 26 C dX4_fewestPassings_20 (by decide) (fun hc => ?_) (fun hc => ?_)
      · replace hw := it_t hc hw
        refine r_aload_n C dX4_fewestPassings_26 rfl ?_
        refine r_lload C dX4_fewestPassings_27 rfl ?_
        refine r_iload_n C dX4_fewestPassings_29 rfl ?_
        refine kX4_27 C (k0) (sX4_onePassing (k0) hw) dX4_fewestPassings_30 (Nat.le_of_ble_eq_true rfl) rfl (Nat.le_of_ble_eq_true rfl) (fun v2 hw => ?_)
        refine r_lstore [some (.ref (G.1 a0)), none, some (.int x2), some (.int x3), some (.long v2), none, some (.int x6)] C dX4_fewestPassings_33 (Nat.le_of_ble_eq_true rfl) rfl rfl ?_
        obtain ⟨v3, ev3⟩ : ∃ v : Int32, v = x6 + (1 : Int32) := ⟨_, rfl⟩
        replace hw := hw v3 ev3
        refine r_iinc v3 [some (.ref (G.1 a0)), none, some (.int x2), some (.int x3), some (.long v2), none, some (.int v3)] C dX4_fewestPassings_35 rfl (by rw [ev3]; rfl) rfl rfl ?_
        refine r_goto 8 C dX4_fewestPassings_38 (by decide) ?_
        exact hK8 _ _ hw
      · replace hw := it_f hc hw
        refine r_iload C dX4_fewestPassings_23 rfl ?_
        exact r_iret C dX4_fewestPassings_25 ⟨_, rfl, rfl, hw⟩
def wX4_fewestPassings (a0 : Nat) (x1 : Int32) (x2 : Int32) (x3 : Int32) (h : Hp) (Q : Int32 → Prop) : Prop :=
  ∀ v1 : Int64, v1 = (shlL (1 : Int64) x1) → (eX4_fewestPassings_8 a0 x2 x3 h Q v1 (0 : Int32))
set_option maxRecDepth 20000 in
theorem sX4_fewestPassings {G : GG} {a0 : Nat} {x1 : Int32} {x2 : Int32} {x3 : Int32} {h : Hp} {Q : Int32 → Prop} (k0 : kd a0 = 4) (hw : wX4_fewestPassings a0 x1 x2 x3 h Q) : PI G 2 yX4_fewestPassings cX4_fewestPassings 7 (some .int) [.ref (G.1 a0), .int x1, .int x2, .int x3] h Q := by
  refine CO_of [some (.ref (G.1 a0)), some (.int x1), some (.int x2), some (.int x3), none, none, none] (by decide) (Nat.le_of_ble_eq_true rfl) rfl (fun X C => ?_)
  unfold wX4_fewestPassings at hw
  refine r_lconst (1) C dX4_fewestPassings_0 (by decide) ?_
  refine r_iload_n C dX4_fewestPassings_1 rfl ?_
  refine r_lshl C dX4_fewestPassings_2 ?_
  refine r_topl (fun v1 ev1 => ?_)
  replace hw := hw v1 ev1
  refine r_lstore [some (.ref (G.1 a0)), some (.int x1), some (.int x2), some (.int x3), some (.long v1), none, none] C dX4_fewestPassings_3 (Nat.le_of_ble_eq_true rfl) rfl rfl ?_
  refine r_iconst (0) C dX4_fewestPassings_5 (by decide) ?_
  refine r_istore [some (.ref (G.1 a0)), some (.int x1), some (.int x2), some (.int x3), some (.long v1), none, some (.int (0 : Int32))] C dX4_fewestPassings_6 (Nat.le_of_ble_eq_true rfl) rfl rfl ?_
  refine r_weak [some (.ref (G.1 a0)), none, some (.int x2), some (.int x3), some (.long v1), none, some (.int (0 : Int32))] (lw_k (lw_d (lw_k (lw_k (lw_k (lw_k (lw_k (lw_n)))))))) ?_
  exact tX4_fewestPassings_8 C (k0) hw
def fX4_oneTrip_6 (x0 : Int64) (x2 : Int32) (x3 : Int32) (h : Hp) (Q : Int64 → Prop) (K6 : Int64 → Int32 → Prop) (x4 : Int64) (x6 : Int32) : Prop :=
  if x3 < x6 then (Q x4) else (wX4_upTo x2 h (fun v1 => ∀ v2 : Int64, v2 = (x4 ||| ((shrL x0 x6) ||| ((shlL x0 x6) &&& v1))) → (∀ v3 : Int32, v3 = x6 + (1 : Int32) → (K6 v2 v3))))
def eX4_oneTrip_6 (x0 : Int64) (x2 : Int32) (x3 : Int32) (h : Hp) (Q : Int64 → Prop) (x4 : Int64) (x6 : Int32) : Prop := ∃ N, lpN (fun (K : Int64 × Int32 → Prop) (s : Int64 × Int32) => fX4_oneTrip_6 x0 x2 x3 h Q (fun x4 x6 => K (x4, x6)) s.1 s.2) N (x4, x6)
theorem iX4_oneTrip_6 {x0 : Int64} {x2 : Int32} {x3 : Int32} {h : Hp} {Q : Int64 → Prop} (I : Int64 → Int32 → Prop) (μ : Int64 → Int32 → Nat) (hs : ∀ (x4 : Int64) (x6 : Int32), I x4 x6 → ∀ K : Int64 → Int32 → Prop, (∀ (x4' : Int64) (x6' : Int32), I x4' x6' → μ x4' x6' < μ x4 x6 → K x4' x6') → fX4_oneTrip_6 x0 x2 x3 h Q K x4 x6) : ∀ (x4 : Int64) (x6 : Int32), I x4 x6 → eX4_oneTrip_6 x0 x2 x3 h Q x4 x6 := fun x4 x6 hI => lp_ind (fun s => I s.1 s.2) (fun s => μ s.1 s.2) (fun s hs' K hK => hs s.1 s.2 hs' _ (fun x4' x6' h1 h2 => hK (x4', x6') h1 h2)) (x4, x6) hI
set_option maxRecDepth 20000 in
theorem tX4_oneTrip_6 {G : GG} {X : XX} {x0 : Int64} {x2 : Int32} {x3 : Int32} {x4 : Int64} {x6 : Int32} {h : Hp}  {Q : Int64 → Prop} (C : Cx G RX4 cX4_oneTrip 7 (some .long) 1 0 0 X) (hw : eX4_oneTrip_6 x0 x2 x3 h Q x4 x6) : R0 G X 0 0 (ZM G (fun r h' => ∃ v, r = some (.long v) ∧ h' = h ∧ Q v) X) 6 [some (.long x0), none, some (.int x2), some (.int x3), some (.long x4), none, some (.int x6)] [] h := by
  obtain ⟨N, hw⟩ := hw
  induction N generalizing x4 x6 with
  | zero => exact hw.elim
  | succ N ih =>
    obtain ⟨K6, eK⟩ : ∃ K : Int64 → Int32 → Prop, K = (fun x4 x6 => lpN (fun (K : Int64 × Int32 → Prop) (s : Int64 × Int32) => fX4_oneTrip_6 x0 x2 x3 h Q (fun x4 x6 => K (x4, x6)) s.1 s.2) N (x4, x6)) := ⟨_, rfl⟩
    have hw : fX4_oneTrip_6 x0 x2 x3 h Q (fun x4 x6 => lpN (fun (K : Int64 × Int32 → Prop) (s : Int64 × Int32) => fX4_oneTrip_6 x0 x2 x3 h Q (fun x4 x6 => K (x4, x6)) s.1 s.2) N (x4, x6)) x4 x6 := hw
    have hK6 : ∀ (x4 : Int64) (x6 : Int32), K6 x4 x6 → R0 G X 0 0 (ZM G (fun r h' => ∃ v, r = some (.long v) ∧ h' = h ∧ Q v) X) 6 [some (.long x0), none, some (.int x2), some (.int x3), some (.long x4), none, some (.int x6)] [] h := fun x4 x6 q => ih (by rw [eK] at q; exact q)
    rw [← eK] at hw
    clear eK ih
    unfold fX4_oneTrip_6 at hw
    refine r_iload C dX4_oneTrip_6 rfl ?_
    refine r_iload_n C dX4_oneTrip_8 rfl ?_
    refine r_icmp_gt 37 C dX4_oneTrip_9 (by decide) (fun hc => ?_) (fun hc => ?_)
    · replace hw := it_t hc hw
      refine r_lload C dX4_oneTrip_37 rfl ?_
      exact r_lret C dX4_oneTrip_39 ⟨_, rfl, rfl, hw⟩
    · replace hw := it_f hc hw
      refine r_lload C dX4_oneTrip_12 rfl ?_
      refine r_lload_n C dX4_oneTrip_14 rfl ?_
      refine r_iload C dX4_oneTrip_15 rfl ?_
      refine r_lshr C dX4_oneTrip_17 ?_
      refine r_lload_n C dX4_oneTrip_18 rfl ?_
      refine r_iload C dX4_oneTrip_19 rfl ?_
      refine r_lshl C dX4_oneTrip_21 ?_
      refine r_iload_n C dX4_oneTrip_22 rfl ?_
      refine kX4_23 C (sX4_upTo hw) dX4_oneTrip_23 (Nat.le_of_ble_eq_true rfl) rfl (Nat.le_of_ble_eq_true rfl) (fun v1 hw => ?_)
      refine r_land C dX4_oneTrip_26 ?_
      refine r_lor C dX4_oneTrip_27 ?_
      refine r_lor C dX4_oneTrip_28 ?_
      refine r_topl (fun v2 ev2 => ?_)
      replace hw := hw v2 ev2
      refine r_lstore [some (.long x0), none, some (.int x2), some (.int x3), some (.long v2), none, some (.int x6)] C dX4_oneTrip_29 (Nat.le_of_ble_eq_true rfl) rfl rfl ?_
      obtain ⟨v3, ev3⟩ : ∃ v : Int32, v = x6 + (1 : Int32) := ⟨_, rfl⟩
      replace hw := hw v3 ev3
      refine r_iinc v3 [some (.long x0), none, some (.int x2), some (.int x3), some (.long v2), none, some (.int v3)] C dX4_oneTrip_31 rfl (by rw [ev3]; rfl) rfl rfl ?_
      refine r_goto 6 C dX4_oneTrip_34 (by decide) ?_
      exact hK6 _ _ hw
def wX4_oneTrip (x0 : Int64) (x2 : Int32) (x3 : Int32) (h : Hp) (Q : Int64 → Prop) : Prop :=
  eX4_oneTrip_6 x0 x2 x3 h Q x0 (1 : Int32)
set_option maxRecDepth 20000 in
theorem sX4_oneTrip {G : GG} {x0 : Int64} {x2 : Int32} {x3 : Int32} {h : Hp} {Q : Int64 → Prop} (hw : wX4_oneTrip x0 x2 x3 h Q) : PJ G 1 yX4_oneTrip cX4_oneTrip 7 (some .long) [.long x0, .int x2, .int x3] h Q := by
  refine CO_of [some (.long x0), none, some (.int x2), some (.int x3), none, none, none] (by decide) (Nat.le_of_ble_eq_true rfl) rfl (fun X C => ?_)
  unfold wX4_oneTrip at hw
  refine r_lload_n C dX4_oneTrip_0 rfl ?_
  refine r_lstore [some (.long x0), none, some (.int x2), some (.int x3), some (.long x0), none, none] C dX4_oneTrip_1 (Nat.le_of_ble_eq_true rfl) rfl rfl ?_
  refine r_iconst (1) C dX4_oneTrip_3 (by decide) ?_
  refine r_istore [some (.long x0), none, some (.int x2), some (.int x3), some (.long x0), none, some (.int (1 : Int32))] C dX4_oneTrip_4 (Nat.le_of_ble_eq_true rfl) rfl rfl ?_
  exact tX4_oneTrip_6 C  hw
def fX4_fewestTrips_13 (a0 : Nat) (x2 : Int32) (x3 : Int32) (x4 : Int32) (h : Hp) (Q : Int32 → Prop) (K13 : Int64 → Int32 → Prop) (x5 : Int64) (x7 : Int32) : Prop :=
  if x2 < x7 then (Q (-2 : Int32)) else (wX4_hold x5 x4 h (fun v1 => if v1 = 0 then (wX4_oneTrip x5 x2 x3 h (fun v2 => wX4_everFrom a0 v2 x2 h (fun v3 => ∀ v4 : Int32, v4 = x7 + (1 : Int32) → (K13 v3 v4)))) else (Q x7)))
def eX4_fewestTrips_13 (a0 : Nat) (x2 : Int32) (x3 : Int32) (x4 : Int32) (h : Hp) (Q : Int32 → Prop) (x5 : Int64) (x7 : Int32) : Prop := ∃ N, lpN (fun (K : Int64 × Int32 → Prop) (s : Int64 × Int32) => fX4_fewestTrips_13 a0 x2 x3 x4 h Q (fun x5 x7 => K (x5, x7)) s.1 s.2) N (x5, x7)
theorem iX4_fewestTrips_13 {a0 : Nat} {x2 : Int32} {x3 : Int32} {x4 : Int32} {h : Hp} {Q : Int32 → Prop} (I : Int64 → Int32 → Prop) (μ : Int64 → Int32 → Nat) (hs : ∀ (x5 : Int64) (x7 : Int32), I x5 x7 → ∀ K : Int64 → Int32 → Prop, (∀ (x5' : Int64) (x7' : Int32), I x5' x7' → μ x5' x7' < μ x5 x7 → K x5' x7') → fX4_fewestTrips_13 a0 x2 x3 x4 h Q K x5 x7) : ∀ (x5 : Int64) (x7 : Int32), I x5 x7 → eX4_fewestTrips_13 a0 x2 x3 x4 h Q x5 x7 := fun x5 x7 hI => lp_ind (fun s => I s.1 s.2) (fun s => μ s.1 s.2) (fun s hs' K hK => hs s.1 s.2 hs' _ (fun x5' x7' h1 h2 => hK (x5', x7') h1 h2)) (x5, x7) hI
set_option maxRecDepth 20000 in
theorem tX4_fewestTrips_13 {G : GG} {X : XX} {a0 : Nat} {x2 : Int32} {x3 : Int32} {x4 : Int32} {x5 : Int64} {x7 : Int32} {h : Hp}  {Q : Int32 → Prop} (C : Cx G RX4 cX4_fewestTrips 8 (some .int) 3 0 0 X) (k0 : kd a0 = 4) (hw : eX4_fewestTrips_13 a0 x2 x3 x4 h Q x5 x7) : R0 G X 0 0 (ZM G (fun r h' => ∃ v, r = some (.int v) ∧ h' = h ∧ Q v) X) 13 [some (.ref (G.1 a0)), none, some (.int x2), some (.int x3), some (.int x4), some (.long x5), none, some (.int x7)] [] h := by
  obtain ⟨N, hw⟩ := hw
  induction N generalizing x5 x7 with
  | zero => exact hw.elim
  | succ N ih =>
    obtain ⟨K13, eK⟩ : ∃ K : Int64 → Int32 → Prop, K = (fun x5 x7 => lpN (fun (K : Int64 × Int32 → Prop) (s : Int64 × Int32) => fX4_fewestTrips_13 a0 x2 x3 x4 h Q (fun x5 x7 => K (x5, x7)) s.1 s.2) N (x5, x7)) := ⟨_, rfl⟩
    have hw : fX4_fewestTrips_13 a0 x2 x3 x4 h Q (fun x5 x7 => lpN (fun (K : Int64 × Int32 → Prop) (s : Int64 × Int32) => fX4_fewestTrips_13 a0 x2 x3 x4 h Q (fun x5 x7 => K (x5, x7)) s.1 s.2) N (x5, x7)) x5 x7 := hw
    have hK13 : ∀ (x5 : Int64) (x7 : Int32), K13 x5 x7 → R0 G X 0 0 (ZM G (fun r h' => ∃ v, r = some (.int v) ∧ h' = h ∧ Q v) X) 13 [some (.ref (G.1 a0)), none, some (.int x2), some (.int x3), some (.int x4), some (.long x5), none, some (.int x7)] [] h := fun x5 x7 q => ih (by rw [eK] at q; exact q)
    rw [← eK] at hw
    clear eK ih
    unfold fX4_fewestTrips_13 at hw
    refine r_iload C dX4_fewestTrips_13 rfl ?_
    refine r_iload_n C dX4_fewestTrips_15 rfl ?_
    refine r_icmp_gt 52 C dX4_fewestTrips_16 (by decide) (fun hc => ?_) (fun hc => ?_)
    · replace hw := it_t hc hw
      refine r_bipush (-2) C dX4_fewestTrips_52 (by decide) ?_
      exact r_iret C dX4_fewestTrips_54 ⟨_, rfl, rfl, hw⟩
    · replace hw := it_f hc hw
      refine r_lload C dX4_fewestTrips_19 rfl ?_
      refine r_iload C dX4_fewestTrips_21 rfl ?_
      refine kX4_31 C (sX4_hold hw) dX4_fewestTrips_23 (Nat.le_of_ble_eq_true rfl) rfl (Nat.le_of_ble_eq_true rfl) (fun v1 hw => ?_)
      refine r_if_eq 32 C dX4_fewestTrips_26 (by decide) (fun hc => ?_) (fun hc => ?_)
      · replace hw := it_t hc hw
        refine r_aload_n C dX4_fewestTrips_32 rfl ?_
        refine r_lload C dX4_fewestTrips_33 rfl ?_
        refine r_iload_n C dX4_fewestTrips_35 rfl ?_
        refine r_iload_n C dX4_fewestTrips_36 rfl ?_
        refine kX4_38 C (sX4_oneTrip hw) dX4_fewestTrips_37 (Nat.le_of_ble_eq_true rfl) rfl (Nat.le_of_ble_eq_true rfl) (fun v2 hw => ?_)
        refine r_iload_n C dX4_fewestTrips_40 rfl ?_
        refine kX4_35 C (k0) (sX4_everFrom (k0) hw) dX4_fewestTrips_41 (Nat.le_of_ble_eq_true rfl) rfl (Nat.le_of_ble_eq_true rfl) (fun v3 hw => ?_)
        refine r_lstore [some (.ref (G.1 a0)), none, some (.int x2), some (.int x3), some (.int x4), some (.long v3), none, some (.int x7)] C dX4_fewestTrips_44 (Nat.le_of_ble_eq_true rfl) rfl rfl ?_
        obtain ⟨v4, ev4⟩ : ∃ v : Int32, v = x7 + (1 : Int32) := ⟨_, rfl⟩
        replace hw := hw v4 ev4
        refine r_iinc v4 [some (.ref (G.1 a0)), none, some (.int x2), some (.int x3), some (.int x4), some (.long v3), none, some (.int v4)] C dX4_fewestTrips_46 rfl (by rw [ev4]; rfl) rfl rfl ?_
        refine r_goto 13 C dX4_fewestTrips_49 (by decide) ?_
        exact hK13 _ _ hw
      · replace hw := it_f hc hw
        refine r_iload C dX4_fewestTrips_29 rfl ?_
        exact r_iret C dX4_fewestTrips_31 ⟨_, rfl, rfl, hw⟩
def wX4_fewestTrips (a0 : Nat) (x1 : Int32) (x2 : Int32) (x3 : Int32) (x4 : Int32) (h : Hp) (Q : Int32 → Prop) : Prop :=
  wX4_everFrom a0 (shlL (1 : Int64) x1) x2 h (fun v1 => eX4_fewestTrips_13 a0 x2 x3 x4 h Q v1 (0 : Int32))
set_option maxRecDepth 20000 in
theorem sX4_fewestTrips {G : GG} {a0 : Nat} {x1 : Int32} {x2 : Int32} {x3 : Int32} {x4 : Int32} {h : Hp} {Q : Int32 → Prop} (k0 : kd a0 = 4) (hw : wX4_fewestTrips a0 x1 x2 x3 x4 h Q) : PI G 3 yX4_fewestTrips cX4_fewestTrips 8 (some .int) [.ref (G.1 a0), .int x1, .int x2, .int x3, .int x4] h Q := by
  refine CO_of [some (.ref (G.1 a0)), some (.int x1), some (.int x2), some (.int x3), some (.int x4), none, none, none] (by decide) (Nat.le_of_ble_eq_true rfl) rfl (fun X C => ?_)
  unfold wX4_fewestTrips at hw
  refine r_aload_n C dX4_fewestTrips_0 rfl ?_
  refine r_lconst (1) C dX4_fewestTrips_1 (by decide) ?_
  refine r_iload_n C dX4_fewestTrips_2 rfl ?_
  refine r_lshl C dX4_fewestTrips_3 ?_
  refine r_iload_n C dX4_fewestTrips_4 rfl ?_
  refine kX4_35 C (k0) (sX4_everFrom (k0) hw) dX4_fewestTrips_5 (Nat.le_of_ble_eq_true rfl) rfl (Nat.le_of_ble_eq_true rfl) (fun v1 hw => ?_)
  refine r_lstore [some (.ref (G.1 a0)), some (.int x1), some (.int x2), some (.int x3), some (.int x4), some (.long v1), none, none] C dX4_fewestTrips_8 (Nat.le_of_ble_eq_true rfl) rfl rfl ?_
  refine r_iconst (0) C dX4_fewestTrips_10 (by decide) ?_
  refine r_istore [some (.ref (G.1 a0)), some (.int x1), some (.int x2), some (.int x3), some (.int x4), some (.long v1), none, some (.int (0 : Int32))] C dX4_fewestTrips_11 (Nat.le_of_ble_eq_true rfl) rfl rfl ?_
  refine r_weak [some (.ref (G.1 a0)), none, some (.int x2), some (.int x3), some (.int x4), some (.long v1), none, some (.int (0 : Int32))] (lw_k (lw_d (lw_k (lw_k (lw_k (lw_k (lw_k (lw_k (lw_n))))))))) ?_
  exact tX4_fewestTrips_13 C (k0) hw
def fX4_soonest_2 (a0 : Nat) (x1 : Int32) (h : Hp) (Q : Int32 → Prop) (K2 : Int32 → Prop) (x2 : Int32) : Prop :=
  if x1 < x2 then (Q (-2 : Int32)) else (wX4_sumsOf a0 x2 h (fun v1 => wX4_hold v1 x1 h (fun v2 => if v2 = 0 then (∀ v3 : Int32, v3 = x2 + (1 : Int32) → (K2 v3)) else (Q x2))))
def eX4_soonest_2 (a0 : Nat) (x1 : Int32) (h : Hp) (Q : Int32 → Prop) (x2 : Int32) : Prop := ∃ N, lpN (fun (K : Int32 → Prop) (s : Int32) => fX4_soonest_2 a0 x1 h Q (fun x2 => K x2) s) N x2
theorem iX4_soonest_2 {a0 : Nat} {x1 : Int32} {h : Hp} {Q : Int32 → Prop} (I : Int32 → Prop) (μ : Int32 → Nat) (hs : ∀ (x2 : Int32), I x2 → ∀ K : Int32 → Prop, (∀ (x2' : Int32), I x2' → μ x2' < μ x2 → K x2') → fX4_soonest_2 a0 x1 h Q K x2) : ∀ (x2 : Int32), I x2 → eX4_soonest_2 a0 x1 h Q x2 := fun x2 hI => lp_ind (fun s => I s) (fun s => μ s) (fun s hs' K hK => hs s hs' _ (fun x2' h1 h2 => hK x2' h1 h2)) x2 hI
set_option maxRecDepth 20000 in
theorem tX4_soonest_2 {G : GG} {X : XX} {a0 : Nat} {x1 : Int32} {x2 : Int32} {h : Hp}  {Q : Int32 → Prop} (C : Cx G RX4 cX4_soonest 3 (some .int) 1 0 0 X) (k0 : kd a0 = 4) (hw : eX4_soonest_2 a0 x1 h Q x2) : R0 G X 0 0 (ZM G (fun r h' => ∃ v, r = some (.int v) ∧ h' = h ∧ Q v) X) 2 [some (.ref (G.1 a0)), some (.int x1), some (.int x2)] [] h := by
  obtain ⟨N, hw⟩ := hw
  induction N generalizing x2 with
  | zero => exact hw.elim
  | succ N ih =>
    obtain ⟨K2, eK⟩ : ∃ K : Int32 → Prop, K = (fun x2 => lpN (fun (K : Int32 → Prop) (s : Int32) => fX4_soonest_2 a0 x1 h Q (fun x2 => K x2) s) N x2) := ⟨_, rfl⟩
    have hw : fX4_soonest_2 a0 x1 h Q (fun x2 => lpN (fun (K : Int32 → Prop) (s : Int32) => fX4_soonest_2 a0 x1 h Q (fun x2 => K x2) s) N x2) x2 := hw
    have hK2 : ∀ (x2 : Int32), K2 x2 → R0 G X 0 0 (ZM G (fun r h' => ∃ v, r = some (.int v) ∧ h' = h ∧ Q v) X) 2 [some (.ref (G.1 a0)), some (.int x1), some (.int x2)] [] h := fun x2 q => ih (by rw [eK] at q; exact q)
    rw [← eK] at hw
    clear eK ih
    unfold fX4_soonest_2 at hw
    refine r_iload_n C dX4_soonest_2 rfl ?_
    refine r_iload_n C dX4_soonest_3 rfl ?_
    refine r_icmp_gt 27 C dX4_soonest_4 (by decide) (fun hc => ?_) (fun hc => ?_)
    · replace hw := it_t hc hw
      refine r_bipush (-2) C dX4_soonest_27 (by decide) ?_
      exact r_iret C dX4_soonest_29 ⟨_, rfl, rfl, hw⟩
    · replace hw := it_f hc hw
      refine r_aload_n C dX4_soonest_7 rfl ?_
      refine r_iload_n C dX4_soonest_8 rfl ?_
      refine kX4_42 C (k0) (sX4_sumsOf (k0) hw) dX4_soonest_9 (Nat.le_of_ble_eq_true rfl) rfl (Nat.le_of_ble_eq_true rfl) (fun v1 hw => ?_)
      refine r_iload_n C dX4_soonest_12 rfl ?_
      refine kX4_31 C (sX4_hold hw) dX4_soonest_13 (Nat.le_of_ble_eq_true rfl) rfl (Nat.le_of_ble_eq_true rfl) (fun v2 hw => ?_)
      refine r_if_eq 21 C dX4_soonest_16 (by decide) (fun hc => ?_) (fun hc => ?_)
      · replace hw := it_t hc hw
        obtain ⟨v3, ev3⟩ : ∃ v : Int32, v = x2 + (1 : Int32) := ⟨_, rfl⟩
        replace hw := hw v3 ev3
        refine r_iinc v3 [some (.ref (G.1 a0)), some (.int x1), some (.int v3)] C dX4_soonest_21 rfl (by rw [ev3]; rfl) rfl rfl ?_
        refine r_goto 2 C dX4_soonest_24 (by decide) ?_
        exact hK2 _ hw
      · replace hw := it_f hc hw
        refine r_iload_n C dX4_soonest_19 rfl ?_
        exact r_iret C dX4_soonest_20 ⟨_, rfl, rfl, hw⟩
def wX4_soonest (a0 : Nat) (x1 : Int32) (h : Hp) (Q : Int32 → Prop) : Prop :=
  eX4_soonest_2 a0 x1 h Q (0 : Int32)
set_option maxRecDepth 20000 in
theorem sX4_soonest {G : GG} {a0 : Nat} {x1 : Int32} {h : Hp} {Q : Int32 → Prop} (k0 : kd a0 = 4) (hw : wX4_soonest a0 x1 h Q) : PI G 1 yX4_soonest cX4_soonest 3 (some .int) [.ref (G.1 a0), .int x1] h Q := by
  refine CO_of [some (.ref (G.1 a0)), some (.int x1), none] (by decide) (Nat.le_of_ble_eq_true rfl) rfl (fun X C => ?_)
  unfold wX4_soonest at hw
  refine r_iconst (0) C dX4_soonest_0 (by decide) ?_
  refine r_istore_n [some (.ref (G.1 a0)), some (.int x1), some (.int (0 : Int32))] C dX4_soonest_1 (Nat.le_of_ble_eq_true rfl) rfl rfl ?_
  exact tX4_soonest_2 C (k0) hw
def wX5_clear (a0 : Nat) (h : Hp) (Q : Hp → Prop) : Prop :=
  ∀ h1 : Hp, h1 = sI h a0 3 (0 : Int32) → (Q h1)
set_option maxRecDepth 20000 in
theorem sX5_clear {G : GG} {a0 : Nat} {h : Hp} {Q : Hp → Prop} (k0 : kd a0 = 5) (hw : wX5_clear a0 h Q) : CV G 0 yX5_clear cX5_clear 1 none [.ref (G.1 a0)] h Q := by
  refine CO_of [some (.ref (G.1 a0))] (by decide) (Nat.le_of_ble_eq_true rfl) rfl (fun X C => ?_)
  unfold wX5_clear at hw
  refine r_aload_n C dX5_clear_0 rfl ?_
  refine r_iconst (0) C dX5_clear_1 (by decide) ?_
  refine pX5_21 C (k0) dX5_clear_2 ?_
  refine r_toph (fun h1 eh1 => ?_)
  replace hw := hw h1 eh1
  exact r_vret C dX5_clear_5 ⟨rfl, hw⟩
def wX5_add (a0 : Nat) (x1 : Int32) (x2 : Int32) (h : Hp) (Q : Hp → Prop) : Prop :=
  if (121 : Int32) ≤ (gI h a0 3) then (Q h) else (vp_in (gI h a0 3) (ln (rf a0 0)) ∧ (∀ h2 : Hp, h2 = sI h (rf a0 0) (gI h a0 3).toNatClampNeg x1 → (vp_in (gI h2 a0 3) (ln (rf a0 1)) ∧ (∀ h4 : Hp, h4 = sI h2 (rf a0 1) (gI h2 a0 3).toNatClampNeg x2 → (∀ h5 : Hp, h5 = sI h4 a0 3 ((gI h4 a0 3) + (1 : Int32)) → (Q h5))))))
set_option maxRecDepth 20000 in
theorem sX5_add {G : GG} {a0 : Nat} {x1 : Int32} {x2 : Int32} {h : Hp} {Q : Hp → Prop} (k0 : kd a0 = 5) (hw : wX5_add a0 x1 x2 h Q) : CV G 0 yX5_add cX5_add 3 none [.ref (G.1 a0), .int x1, .int x2] h Q := by
  refine CO_of [some (.ref (G.1 a0)), some (.int x1), some (.int x2)] (by decide) (Nat.le_of_ble_eq_true rfl) rfl (fun X C => ?_)
  unfold wX5_add at hw
  refine r_aload_n C dX5_add_0 rfl ?_
  refine gX5_21 C (k0) dX5_add_1 ?_
  refine r_bipush (121) C dX5_add_4 (by decide) ?_
  refine r_icmp_ge 39 C dX5_add_6 (by decide) (fun hc => ?_) (fun hc => ?_)
  · replace hw := it_t hc hw
    exact r_vret C dX5_add_39 ⟨rfl, hw⟩
  · replace hw := it_f hc hw
    refine r_aload_n C dX5_add_9 rfl ?_
    refine gX5_11 C (k0) dX5_add_10 ?_
    refine r_aload_n C dX5_add_13 rfl ?_
    refine gX5_21 C (k0) dX5_add_14 ?_
    refine r_iload_n C dX5_add_17 rfl ?_
    obtain ⟨hi1, hw⟩ := hw
    refine r_iast C (kr5_0 (k0)) hi1 dX5_add_18 ?_
    refine r_toph (fun h2 eh2 => ?_)
    replace hw := hw h2 eh2
    refine r_aload_n C dX5_add_19 rfl ?_
    refine gX5_15 C (k0) dX5_add_20 ?_
    refine r_aload_n C dX5_add_23 rfl ?_
    refine gX5_21 C (k0) dX5_add_24 ?_
    refine r_iload_n C dX5_add_27 rfl ?_
    obtain ⟨hi3, hw⟩ := hw
    refine r_iast C (kr5_1 (k0)) hi3 dX5_add_28 ?_
    refine r_toph (fun h4 eh4 => ?_)
    replace hw := hw h4 eh4
    refine r_aload_n C dX5_add_29 rfl ?_
    refine r_dup C dX5_add_30 rfl ?_
    refine gX5_21 C (k0) dX5_add_31 ?_
    refine r_iconst (1) C dX5_add_34 (by decide) ?_
    refine r_iadd C dX5_add_35 ?_
    refine pX5_21 C (k0) dX5_add_36 ?_
    refine r_toph (fun h5 eh5 => ?_)
    replace hw := hw h5 eh5
    exact r_vret C dX5_add_39 ⟨rfl, hw⟩
def wX5_takeFrom (a0 : Nat) (a1 : Nat) (h : Hp) (Q : Hp → Prop) : Prop :=
  cpOK (rf a1 0) (rf a0 0) (0 : Int32) (0 : Int32) (121 : Int32) ∧ (∀ h2 : Hp, h2 = cpI h (rf a1 0) (rf a0 0) (0 : Int32).toNatClampNeg (0 : Int32).toNatClampNeg (121 : Int32).toNatClampNeg → (cpOK (rf a1 1) (rf a0 1) (0 : Int32) (0 : Int32) (121 : Int32) ∧ (∀ h4 : Hp, h4 = cpI h2 (rf a1 1) (rf a0 1) (0 : Int32).toNatClampNeg (0 : Int32).toNatClampNeg (121 : Int32).toNatClampNeg → (∀ h5 : Hp, h5 = sI h4 a0 3 (gI h4 a1 3) → (∀ h6 : Hp, h6 = sI h5 a0 4 (1 : Int32) → (Q h6))))))
set_option maxRecDepth 20000 in
theorem sX5_takeFrom {G : GG} {a0 : Nat} {a1 : Nat} {h : Hp} {Q : Hp → Prop} (k0 : kd a0 = 5) (k1 : kd a1 = 5) (hw : wX5_takeFrom a0 a1 h Q) : CV G 1 yX5_takeFrom cX5_takeFrom 2 none [.ref (G.1 a0), .ref (G.1 a1)] h Q := by
  refine CO_of [some (.ref (G.1 a0)), some (.ref (G.1 a1))] (by decide) (Nat.le_of_ble_eq_true rfl) rfl (fun X C => ?_)
  unfold wX5_takeFrom at hw
  refine r_aload_n C dX5_takeFrom_0 rfl ?_
  refine gX5_11 C (k1) dX5_takeFrom_1 ?_
  refine r_iconst (0) C dX5_takeFrom_4 (by decide) ?_
  refine r_aload_n C dX5_takeFrom_5 rfl ?_
  refine gX5_11 C (k0) dX5_takeFrom_6 ?_
  refine r_iconst (0) C dX5_takeFrom_9 (by decide) ?_
  refine r_bipush (121) C dX5_takeFrom_10 (by decide) ?_
  obtain ⟨hc1, hw⟩ := hw
  refine r_copyi C ⟨wd632, wd547, wd546, wd108⟩ (kr5_0 (k1)) (kr5_0 (k0)) hc1 (Nat.le_of_ble_eq_true rfl) rfl (Nat.le_of_ble_eq_true rfl) dX5_takeFrom_12 ?_
  refine r_toph (fun h2 eh2 => ?_)
  replace hw := hw h2 eh2
  refine r_aload_n C dX5_takeFrom_15 rfl ?_
  refine gX5_15 C (k1) dX5_takeFrom_16 ?_
  refine r_iconst (0) C dX5_takeFrom_19 (by decide) ?_
  refine r_aload_n C dX5_takeFrom_20 rfl ?_
  refine gX5_15 C (k0) dX5_takeFrom_21 ?_
  refine r_iconst (0) C dX5_takeFrom_24 (by decide) ?_
  refine r_bipush (121) C dX5_takeFrom_25 (by decide) ?_
  obtain ⟨hc3, hw⟩ := hw
  refine r_copyi C ⟨wd632, wd547, wd546, wd108⟩ (kr5_1 (k1)) (kr5_1 (k0)) hc3 (Nat.le_of_ble_eq_true rfl) rfl (Nat.le_of_ble_eq_true rfl) dX5_takeFrom_27 ?_
  refine r_toph (fun h4 eh4 => ?_)
  replace hw := hw h4 eh4
  refine r_aload_n C dX5_takeFrom_30 rfl ?_
  refine r_aload_n C dX5_takeFrom_31 rfl ?_
  refine gX5_21 C (k1) dX5_takeFrom_32 ?_
  refine pX5_21 C (k0) dX5_takeFrom_35 ?_
  refine r_toph (fun h5 eh5 => ?_)
  replace hw := hw h5 eh5
  refine r_aload_n C dX5_takeFrom_38 rfl ?_
  refine r_iconst (1) C dX5_takeFrom_39 (by decide) ?_
  refine pX5_31 C (k0) ⟨rfl, rfl⟩ dX5_takeFrom_40 ?_
  refine r_toph (fun h6 eh6 => ?_)
  replace hw := hw h6 eh6
  exact r_vret C dX5_takeFrom_43 ⟨rfl, hw⟩
def wX9_sign (a0 : Nat) (h : Hp) (Q : Int32 → Prop) : Prop :=
  if (gI h a0 2) ≤ (gI h a0 3) then (Q (-1 : Int32)) else (if (Int32.ofNat (ln (rf a0 1))) ≤ (gI h a0 3) then (Q (-1 : Int32)) else (vp_in (gI h a0 3) (ln (rf a0 1)) ∧ (Q (gI h (rf a0 1) (gI h a0 3).toNatClampNeg))))
set_option maxRecDepth 20000 in
theorem sX9_sign {G : GG} {a0 : Nat} {h : Hp} {Q : Int32 → Prop} (k0 : kd a0 = 9) (hw : wX9_sign a0 h Q) : PI G 0 yX9_sign cX9_sign 1 (some .int) [.ref (G.1 a0)] h Q := by
  refine CO_of [some (.ref (G.1 a0))] (by decide) (Nat.le_of_ble_eq_true rfl) rfl (fun X C => ?_)
  unfold wX9_sign at hw
  refine r_aload_n C dX9_sign_0 rfl ?_
  refine gX9_24 C (k0) dX9_sign_1 ?_
  refine r_aload_n C dX9_sign_4 rfl ?_
  refine gX9_20 C (k0) dX9_sign_5 ?_
  refine r_icmp_ge 35 C dX9_sign_8 (by decide) (fun hc => ?_) (fun hc => ?_)
  · replace hw := it_t hc hw
    refine r_iconst (-1) C dX9_sign_35 (by decide) ?_
    exact r_iret C dX9_sign_36 ⟨_, rfl, rfl, hw⟩
  · replace hw := it_f hc hw
    refine r_aload_n C dX9_sign_11 rfl ?_
    refine gX9_24 C (k0) dX9_sign_12 ?_
    refine r_aload_n C dX9_sign_15 rfl ?_
    refine gX9_16 C (k0) dX9_sign_16 ?_
    refine r_alen C (kr9_1 (k0)) rfl dX9_sign_19 ?_
    refine r_icmp_ge 35 C dX9_sign_20 (by decide) (fun hc => ?_) (fun hc => ?_)
    · replace hw := it_t hc hw
      refine r_iconst (-1) C dX9_sign_35 (by decide) ?_
      exact r_iret C dX9_sign_36 ⟨_, rfl, rfl, hw⟩
    · replace hw := it_f hc hw
      refine r_aload_n C dX9_sign_23 rfl ?_
      refine gX9_16 C (k0) dX9_sign_24 ?_
      refine r_aload_n C dX9_sign_27 rfl ?_
      refine gX9_24 C (k0) dX9_sign_28 ?_
      obtain ⟨hi1, hw⟩ := hw
      refine r_iald C (kr9_1 (k0)) hi1 dX9_sign_31 ?_
      refine r_goto 36 C dX9_sign_32 (by decide) ?_
      exact r_iret C dX9_sign_36 ⟨_, rfl, rfl, hw⟩
def wX9_levelOf (x0 : Int32) (h : Hp) (Q : Int32 → Prop) : Prop :=
  if x0 = (37 : Int32) then (Q (4 : Int32)) else (if x0 = (38 : Int32) then (Q (1 : Int32)) else (if x0 = (42 : Int32) then (Q (4 : Int32)) else (if x0 = (43 : Int32) then (Q (3 : Int32)) else (if x0 = (45 : Int32) then (Q (3 : Int32)) else (if x0 = (47 : Int32) then (Q (4 : Int32)) else (if x0 = (60 : Int32) then (Q (2 : Int32)) else (if x0 = (61 : Int32) then (Q (2 : Int32)) else (if x0 = (62 : Int32) then (Q (2 : Int32)) else (if x0 = (124 : Int32) then (Q (0 : Int32)) else (Q (-1 : Int32)))))))))))
set_option maxRecDepth 20000 in
theorem sX9_levelOf {G : GG} {x0 : Int32} {h : Hp} {Q : Int32 → Prop} (hw : wX9_levelOf x0 h Q) : PI G 0 yX9_levelOf cX9_levelOf 1 (some .int) [.int x0] h Q := by
  refine CO_of [some (.int x0)] (by decide) (Nat.le_of_ble_eq_true rfl) rfl (fun X C => ?_)
  unfold wX9_levelOf at hw
  refine r_iload_n C dX9_levelOf_0 rfl ?_
  by_cases hs1_37 : x0 = (37 : Int32)
  · replace hw := it_t hs1_37 hw
    refine r_look (off := 99) 100 C dX9_levelOf_1 (by decide) (by rw [hs1_37]; rfl) (by decide) ?_
    refine r_iconst (4) C dX9_levelOf_100 (by decide) ?_
    exact r_iret C dX9_levelOf_101 ⟨_, rfl, rfl, hw⟩
  replace hw := it_f hs1_37 hw
  by_cases hs1_38 : x0 = (38 : Int32)
  · replace hw := it_t hs1_38 hw
    refine r_look (off := 93) 94 C dX9_levelOf_1 (by decide) (by rw [hs1_38]; rfl) (by decide) ?_
    refine r_iconst (1) C dX9_levelOf_94 (by decide) ?_
    exact r_iret C dX9_levelOf_95 ⟨_, rfl, rfl, hw⟩
  replace hw := it_f hs1_38 hw
  by_cases hs1_42 : x0 = (42 : Int32)
  · replace hw := it_t hs1_42 hw
    refine r_look (off := 99) 100 C dX9_levelOf_1 (by decide) (by rw [hs1_42]; rfl) (by decide) ?_
    refine r_iconst (4) C dX9_levelOf_100 (by decide) ?_
    exact r_iret C dX9_levelOf_101 ⟨_, rfl, rfl, hw⟩
  replace hw := it_f hs1_42 hw
  by_cases hs1_43 : x0 = (43 : Int32)
  · replace hw := it_t hs1_43 hw
    refine r_look (off := 97) 98 C dX9_levelOf_1 (by decide) (by rw [hs1_43]; rfl) (by decide) ?_
    refine r_iconst (3) C dX9_levelOf_98 (by decide) ?_
    exact r_iret C dX9_levelOf_99 ⟨_, rfl, rfl, hw⟩
  replace hw := it_f hs1_43 hw
  by_cases hs1_45 : x0 = (45 : Int32)
  · replace hw := it_t hs1_45 hw
    refine r_look (off := 97) 98 C dX9_levelOf_1 (by decide) (by rw [hs1_45]; rfl) (by decide) ?_
    refine r_iconst (3) C dX9_levelOf_98 (by decide) ?_
    exact r_iret C dX9_levelOf_99 ⟨_, rfl, rfl, hw⟩
  replace hw := it_f hs1_45 hw
  by_cases hs1_47 : x0 = (47 : Int32)
  · replace hw := it_t hs1_47 hw
    refine r_look (off := 99) 100 C dX9_levelOf_1 (by decide) (by rw [hs1_47]; rfl) (by decide) ?_
    refine r_iconst (4) C dX9_levelOf_100 (by decide) ?_
    exact r_iret C dX9_levelOf_101 ⟨_, rfl, rfl, hw⟩
  replace hw := it_f hs1_47 hw
  by_cases hs1_60 : x0 = (60 : Int32)
  · replace hw := it_t hs1_60 hw
    refine r_look (off := 95) 96 C dX9_levelOf_1 (by decide) (by rw [hs1_60]; rfl) (by decide) ?_
    refine r_iconst (2) C dX9_levelOf_96 (by decide) ?_
    exact r_iret C dX9_levelOf_97 ⟨_, rfl, rfl, hw⟩
  replace hw := it_f hs1_60 hw
  by_cases hs1_61 : x0 = (61 : Int32)
  · replace hw := it_t hs1_61 hw
    refine r_look (off := 95) 96 C dX9_levelOf_1 (by decide) (by rw [hs1_61]; rfl) (by decide) ?_
    refine r_iconst (2) C dX9_levelOf_96 (by decide) ?_
    exact r_iret C dX9_levelOf_97 ⟨_, rfl, rfl, hw⟩
  replace hw := it_f hs1_61 hw
  by_cases hs1_62 : x0 = (62 : Int32)
  · replace hw := it_t hs1_62 hw
    refine r_look (off := 95) 96 C dX9_levelOf_1 (by decide) (by rw [hs1_62]; rfl) (by decide) ?_
    refine r_iconst (2) C dX9_levelOf_96 (by decide) ?_
    exact r_iret C dX9_levelOf_97 ⟨_, rfl, rfl, hw⟩
  replace hw := it_f hs1_62 hw
  by_cases hs1_124 : x0 = (124 : Int32)
  · replace hw := it_t hs1_124 hw
    refine r_look (off := 91) 92 C dX9_levelOf_1 (by decide) (by rw [hs1_124]; rfl) (by decide) ?_
    refine r_iconst (0) C dX9_levelOf_92 (by decide) ?_
    exact r_iret C dX9_levelOf_93 ⟨_, rfl, rfl, hw⟩
  replace hw := it_f hs1_124 hw
  refine r_look (off := 101) 102 C dX9_levelOf_1 (by decide) (by show Op.lookupswitch.offset [(37, 99), (38, 93), (42, 99), (43, 97), (45, 97), (47, 99), (60, 95), (61, 95), (62, 95), (124, 91)] 101 _ = _; rw [lv_osw hs1_37 (by decide), lv_osw hs1_38 (by decide), lv_osw hs1_42 (by decide), lv_osw hs1_43 (by decide), lv_osw hs1_45 (by decide), lv_osw hs1_47 (by decide), lv_osw hs1_60 (by decide), lv_osw hs1_61 (by decide), lv_osw hs1_62 (by decide), lv_osw hs1_124 (by decide)]; rfl) (by decide) ?_
  refine r_iconst (-1) C dX9_levelOf_102 (by decide) ?_
  exact r_iret C dX9_levelOf_103 ⟨_, rfl, rfl, hw⟩
def wX9_isDigit (x0 : Int32) (h : Hp) (Q : Int32 → Prop) : Prop :=
  if x0 < (48 : Int32) then (Q (0 : Int32)) else (if (57 : Int32) < x0 then (Q (0 : Int32)) else (Q (1 : Int32)))
set_option maxRecDepth 20000 in
theorem sX9_isDigit {G : GG} {x0 : Int32} {h : Hp} {Q : Int32 → Prop} (hw : wX9_isDigit x0 h Q) : PI G 0 yX9_isDigit cX9_isDigit 1 (some .boolean) [.int x0] h Q := by
  refine CO_of [some (.int x0)] (by decide) (Nat.le_of_ble_eq_true rfl) rfl (fun X C => ?_)
  unfold wX9_isDigit at hw
  refine r_iload_n C dX9_isDigit_0 rfl ?_
  refine r_bipush (48) C dX9_isDigit_1 (by decide) ?_
  refine r_icmp_lt 16 C dX9_isDigit_3 (by decide) (fun hc => ?_) (fun hc => ?_)
  · replace hw := it_t hc hw
    refine r_iconst (0) C dX9_isDigit_16 (by decide) ?_
    exact r_zret C dX9_isDigit_17 rfl ⟨_, rfl, rfl, hw⟩
  · replace hw := it_f hc hw
    refine r_iload_n C dX9_isDigit_6 rfl ?_
    refine r_bipush (57) C dX9_isDigit_7 (by decide) ?_
    refine r_icmp_gt 16 C dX9_isDigit_9 (by decide) (fun hc => ?_) (fun hc => ?_)
    · replace hw := it_t hc hw
      refine r_iconst (0) C dX9_isDigit_16 (by decide) ?_
      exact r_zret C dX9_isDigit_17 rfl ⟨_, rfl, rfl, hw⟩
    · replace hw := it_f hc hw
      refine r_iconst (1) C dX9_isDigit_12 (by decide) ?_
      refine r_goto 17 C dX9_isDigit_13 (by decide) ?_
      exact r_zret C dX9_isDigit_17 rfl ⟨_, rfl, rfl, hw⟩
def jX9_number_48 (a0 : Nat) (x1 : Int32) (h : Hp) (Q : Hp → Prop) : Prop :=
  wX5_add (rf a0 0) (0 : Int32) x1 h (fun h2 => Q h2)
set_option maxRecDepth 20000 in
theorem tX9_number_48 {G : GG} {X : XX} {a0 : Nat} {x1 : Int32} {h : Hp}  {Q : Hp → Prop} (C : Cx G RX9 cX9_number 3 none 1 0 0 X) (k0 : kd a0 = 9) (hw : jX9_number_48 a0 x1 h Q) : R0 G X 0 0 (ZM G (fun r h' => r = none ∧ Q h') X) 48 [some (.ref (G.1 a0)), some (.int x1), none] [] h := by
  unfold jX9_number_48 at hw
  refine r_aload_n C dX9_number_48 rfl ?_
  refine gX9_10 C (k0) dX9_number_49 ?_
  refine r_iconst (0) C dX9_number_52 (by decide) ?_
  refine r_iload_n C dX9_number_53 rfl ?_
  refine kX9_45 C (kr9_0 (k0)) (sX5_add (kr9_0 (k0)) hw) dX9_number_54 (Nat.le_of_ble_eq_true rfl) rfl (Nat.le_of_ble_eq_true rfl) (fun h2 hw => ?_)
  exact r_vret C dX9_number_57 ⟨rfl, hw⟩
def fX9_number_4 (a0 : Nat) (Q : Hp → Prop) (K4 : Int32 → Int32 → Hp → Prop) (x1 : Int32) (x2 : Int32) (h : Hp) : Prop :=
  if (4 : Int32) ≤ x2 then (jX9_number_48 a0 x1 h Q) else (wX9_sign a0 h (fun v1 => wX9_isDigit v1 h (fun v2 => if v2 = 0 then (jX9_number_48 a0 x1 h Q) else (wX9_sign a0 h (fun v3 => ∀ v4 : Int32, v4 = (((x1 * (10 : Int32)) + v3) - (48 : Int32)) → (∀ h5 : Hp, h5 = sI h a0 3 ((gI h a0 3) + (1 : Int32)) → (∀ v6 : Int32, v6 = x2 + (1 : Int32) → (K4 v4 v6 h5))))))))
def eX9_number_4 (a0 : Nat) (Q : Hp → Prop) (x1 : Int32) (x2 : Int32) (h : Hp) : Prop := ∃ N, lpN (fun (K : Int32 × Int32 × Hp → Prop) (s : Int32 × Int32 × Hp) => fX9_number_4 a0 Q (fun x1 x2 h => K (x1, x2, h)) s.1 s.2.1 s.2.2) N (x1, x2, h)
theorem iX9_number_4 {a0 : Nat} {Q : Hp → Prop} (I : Int32 → Int32 → Hp → Prop) (μ : Int32 → Int32 → Hp → Nat) (hs : ∀ (x1 : Int32) (x2 : Int32) (h : Hp), I x1 x2 h → ∀ K : Int32 → Int32 → Hp → Prop, (∀ (x1' : Int32) (x2' : Int32) (h' : Hp), I x1' x2' h' → μ x1' x2' h' < μ x1 x2 h → K x1' x2' h') → fX9_number_4 a0 Q K x1 x2 h) : ∀ (x1 : Int32) (x2 : Int32) (h : Hp), I x1 x2 h → eX9_number_4 a0 Q x1 x2 h := fun x1 x2 h hI => lp_ind (fun s => I s.1 s.2.1 s.2.2) (fun s => μ s.1 s.2.1 s.2.2) (fun s hs' K hK => hs s.1 s.2.1 s.2.2 hs' _ (fun x1' x2' h' h1 h2 => hK (x1', x2', h') h1 h2)) (x1, x2, h) hI
set_option maxRecDepth 20000 in
theorem tX9_number_4 {G : GG} {X : XX} {a0 : Nat} {x1 : Int32} {x2 : Int32} {h : Hp}  {Q : Hp → Prop} (C : Cx G RX9 cX9_number 3 none 1 0 0 X) (k0 : kd a0 = 9) (hw : eX9_number_4 a0 Q x1 x2 h) : R0 G X 0 0 (ZM G (fun r h' => r = none ∧ Q h') X) 4 [some (.ref (G.1 a0)), some (.int x1), some (.int x2)] [] h := by
  obtain ⟨N, hw⟩ := hw
  induction N generalizing x1 x2 h with
  | zero => exact hw.elim
  | succ N ih =>
    obtain ⟨K4, eK⟩ : ∃ K : Int32 → Int32 → Hp → Prop, K = (fun x1 x2 h => lpN (fun (K : Int32 × Int32 × Hp → Prop) (s : Int32 × Int32 × Hp) => fX9_number_4 a0 Q (fun x1 x2 h => K (x1, x2, h)) s.1 s.2.1 s.2.2) N (x1, x2, h)) := ⟨_, rfl⟩
    have hw : fX9_number_4 a0 Q (fun x1 x2 h => lpN (fun (K : Int32 × Int32 × Hp → Prop) (s : Int32 × Int32 × Hp) => fX9_number_4 a0 Q (fun x1 x2 h => K (x1, x2, h)) s.1 s.2.1 s.2.2) N (x1, x2, h)) x1 x2 h := hw
    have hK4 : ∀ (x1 : Int32) (x2 : Int32) (h : Hp), K4 x1 x2 h → R0 G X 0 0 (ZM G (fun r h' => r = none ∧ Q h') X) 4 [some (.ref (G.1 a0)), some (.int x1), some (.int x2)] [] h := fun x1 x2 h q => ih (by rw [eK] at q; exact q)
    rw [← eK] at hw
    clear eK ih
    unfold fX9_number_4 at hw
    refine r_iload_n C dX9_number_4 rfl ?_
    refine r_iconst (4) C dX9_number_5 (by decide) ?_
    refine r_icmp_ge 48 C dX9_number_6 (by decide) (fun hc => ?_) (fun hc => ?_)
    · replace hw := it_t hc hw
      refine r_weak [some (.ref (G.1 a0)), some (.int x1), none] (lw_k (lw_k (lw_d (lw_n)))) ?_
      exact tX9_number_48 C (k0) hw
    · replace hw := it_f hc hw
      refine r_aload_n C dX9_number_9 rfl ?_
      refine kX9_37 C (k0) (sX9_sign (k0) hw) dX9_number_10 (Nat.le_of_ble_eq_true rfl) rfl (Nat.le_of_ble_eq_true rfl) (fun v1 hw => ?_)
      refine kX9_56 C (sX9_isDigit hw) dX9_number_13 (Nat.le_of_ble_eq_true rfl) rfl (Nat.le_of_ble_eq_true rfl) (fun v2 hw => ?_)
      refine r_if_eq 48 C dX9_number_16 (by decide) (fun hc => ?_) (fun hc => ?_)
      · replace hw := it_t hc hw
        refine r_weak [some (.ref (G.1 a0)), some (.int x1), none] (lw_k (lw_k (lw_d (lw_n)))) ?_
        exact tX9_number_48 C (k0) hw
      · replace hw := it_f hc hw
        refine r_iload_n C dX9_number_19 rfl ?_
        refine r_bipush (10) C dX9_number_20 (by decide) ?_
        refine r_imul C dX9_number_22 ?_
        refine r_aload_n C dX9_number_23 rfl ?_
        refine kX9_37 C (k0) (sX9_sign (k0) hw) dX9_number_24 (Nat.le_of_ble_eq_true rfl) rfl (Nat.le_of_ble_eq_true rfl) (fun v3 hw => ?_)
        refine r_iadd C dX9_number_27 ?_
        refine r_bipush (48) C dX9_number_28 (by decide) ?_
        refine r_isub C dX9_number_30 ?_
        refine r_topi (fun v4 ev4 => ?_)
        replace hw := hw v4 ev4
        refine r_istore_n [some (.ref (G.1 a0)), some (.int v4), some (.int x2)] C dX9_number_31 (Nat.le_of_ble_eq_true rfl) rfl rfl ?_
        refine r_aload_n C dX9_number_32 rfl ?_
        refine r_dup C dX9_number_33 rfl ?_
        refine gX9_24 C (k0) dX9_number_34 ?_
        refine r_iconst (1) C dX9_number_37 (by decide) ?_
        refine r_iadd C dX9_number_38 ?_
        refine pX9_24 C (k0) dX9_number_39 ?_
        refine r_toph (fun h5 eh5 => ?_)
        replace hw := hw h5 eh5
        obtain ⟨v6, ev6⟩ : ∃ v : Int32, v = x2 + (1 : Int32) := ⟨_, rfl⟩
        replace hw := hw v6 ev6
        refine r_iinc v6 [some (.ref (G.1 a0)), some (.int v4), some (.int v6)] C dX9_number_42 rfl (by rw [ev6]; rfl) rfl rfl ?_
        refine r_goto 4 C dX9_number_45 (by decide) ?_
        exact hK4 _ _ _ hw
def wX9_number (a0 : Nat) (h : Hp) (Q : Hp → Prop) : Prop :=
  eX9_number_4 a0 Q (0 : Int32) (0 : Int32) h
set_option maxRecDepth 20000 in
theorem sX9_number {G : GG} {a0 : Nat} {h : Hp} {Q : Hp → Prop} (k0 : kd a0 = 9) (hw : wX9_number a0 h Q) : CV G 1 yX9_number cX9_number 3 none [.ref (G.1 a0)] h Q := by
  refine CO_of [some (.ref (G.1 a0)), none, none] (by decide) (Nat.le_of_ble_eq_true rfl) rfl (fun X C => ?_)
  unfold wX9_number at hw
  refine r_iconst (0) C dX9_number_0 (by decide) ?_
  refine r_istore_n [some (.ref (G.1 a0)), some (.int (0 : Int32)), none] C dX9_number_1 (Nat.le_of_ble_eq_true rfl) rfl rfl ?_
  refine r_iconst (0) C dX9_number_2 (by decide) ?_
  refine r_istore_n [some (.ref (G.1 a0)), some (.int (0 : Int32)), some (.int (0 : Int32))] C dX9_number_3 (Nat.le_of_ble_eq_true rfl) rfl rfl ?_
  exact tX9_number_4 C (k0) hw
def wX9_nameOf (x0 : Int32) (h : Hp) (Q : Int32 → Prop) : Prop :=
  if x0 = (99 : Int32) then (Q (3 : Int32)) else (if x0 = (100 : Int32) then (Q (-1 : Int32)) else (if x0 = (101 : Int32) then (Q (-1 : Int32)) else (if x0 = (102 : Int32) then (Q (-1 : Int32)) else (if x0 = (103 : Int32) then (Q (1 : Int32)) else (if x0 = (104 : Int32) then (Q (-1 : Int32)) else (if x0 = (105 : Int32) then (Q (-1 : Int32)) else (if x0 = (106 : Int32) then (Q (-1 : Int32)) else (if x0 = (107 : Int32) then (Q (-1 : Int32)) else (if x0 = (108 : Int32) then (Q (-1 : Int32)) else (if x0 = (109 : Int32) then (Q (-1 : Int32)) else (if x0 = (110 : Int32) then (Q (5 : Int32)) else (if x0 = (111 : Int32) then (Q (-1 : Int32)) else (if x0 = (112 : Int32) then (Q (2 : Int32)) else (if x0 = (113 : Int32) then (Q (-1 : Int32)) else (if x0 = (114 : Int32) then (Q (-1 : Int32)) else (if x0 = (115 : Int32) then (Q (4 : Int32)) else (if x0 = (116 : Int32) then (Q (0 : Int32)) else (Q (-1 : Int32)))))))))))))))))))
set_option maxRecDepth 20000 in
theorem sX9_nameOf {G : GG} {x0 : Int32} {h : Hp} {Q : Int32 → Prop} (hw : wX9_nameOf x0 h Q) : PI G 0 yX9_nameOf cX9_nameOf 1 (some .int) [.int x0] h Q := by
  refine CO_of [some (.int x0)] (by decide) (Nat.le_of_ble_eq_true rfl) rfl (fun X C => ?_)
  unfold wX9_nameOf at hw
  refine r_iload_n C dX9_nameOf_0 rfl ?_
  by_cases hs1_99 : x0 = (99 : Int32)
  · replace hw := it_t hs1_99 hw
    refine r_tabIn (off := 93) (99) 94 C dX9_nameOf_1 hs1_99 (by decide) ?_
    refine r_iconst (3) C dX9_nameOf_94 (by decide) ?_
    exact r_iret C dX9_nameOf_95 ⟨_, rfl, rfl, hw⟩
  replace hw := it_f hs1_99 hw
  by_cases hs1_100 : x0 = (100 : Int32)
  · replace hw := it_t hs1_100 hw
    refine r_tabIn (off := 99) (100) 100 C dX9_nameOf_1 hs1_100 (by decide) ?_
    refine r_iconst (-1) C dX9_nameOf_100 (by decide) ?_
    exact r_iret C dX9_nameOf_101 ⟨_, rfl, rfl, hw⟩
  replace hw := it_f hs1_100 hw
  by_cases hs1_101 : x0 = (101 : Int32)
  · replace hw := it_t hs1_101 hw
    refine r_tabIn (off := 99) (101) 100 C dX9_nameOf_1 hs1_101 (by decide) ?_
    refine r_iconst (-1) C dX9_nameOf_100 (by decide) ?_
    exact r_iret C dX9_nameOf_101 ⟨_, rfl, rfl, hw⟩
  replace hw := it_f hs1_101 hw
  by_cases hs1_102 : x0 = (102 : Int32)
  · replace hw := it_t hs1_102 hw
    refine r_tabIn (off := 99) (102) 100 C dX9_nameOf_1 hs1_102 (by decide) ?_
    refine r_iconst (-1) C dX9_nameOf_100 (by decide) ?_
    exact r_iret C dX9_nameOf_101 ⟨_, rfl, rfl, hw⟩
  replace hw := it_f hs1_102 hw
  by_cases hs1_103 : x0 = (103 : Int32)
  · replace hw := it_t hs1_103 hw
    refine r_tabIn (off := 89) (103) 90 C dX9_nameOf_1 hs1_103 (by decide) ?_
    refine r_iconst (1) C dX9_nameOf_90 (by decide) ?_
    exact r_iret C dX9_nameOf_91 ⟨_, rfl, rfl, hw⟩
  replace hw := it_f hs1_103 hw
  by_cases hs1_104 : x0 = (104 : Int32)
  · replace hw := it_t hs1_104 hw
    refine r_tabIn (off := 99) (104) 100 C dX9_nameOf_1 hs1_104 (by decide) ?_
    refine r_iconst (-1) C dX9_nameOf_100 (by decide) ?_
    exact r_iret C dX9_nameOf_101 ⟨_, rfl, rfl, hw⟩
  replace hw := it_f hs1_104 hw
  by_cases hs1_105 : x0 = (105 : Int32)
  · replace hw := it_t hs1_105 hw
    refine r_tabIn (off := 99) (105) 100 C dX9_nameOf_1 hs1_105 (by decide) ?_
    refine r_iconst (-1) C dX9_nameOf_100 (by decide) ?_
    exact r_iret C dX9_nameOf_101 ⟨_, rfl, rfl, hw⟩
  replace hw := it_f hs1_105 hw
  by_cases hs1_106 : x0 = (106 : Int32)
  · replace hw := it_t hs1_106 hw
    refine r_tabIn (off := 99) (106) 100 C dX9_nameOf_1 hs1_106 (by decide) ?_
    refine r_iconst (-1) C dX9_nameOf_100 (by decide) ?_
    exact r_iret C dX9_nameOf_101 ⟨_, rfl, rfl, hw⟩
  replace hw := it_f hs1_106 hw
  by_cases hs1_107 : x0 = (107 : Int32)
  · replace hw := it_t hs1_107 hw
    refine r_tabIn (off := 99) (107) 100 C dX9_nameOf_1 hs1_107 (by decide) ?_
    refine r_iconst (-1) C dX9_nameOf_100 (by decide) ?_
    exact r_iret C dX9_nameOf_101 ⟨_, rfl, rfl, hw⟩
  replace hw := it_f hs1_107 hw
  by_cases hs1_108 : x0 = (108 : Int32)
  · replace hw := it_t hs1_108 hw
    refine r_tabIn (off := 99) (108) 100 C dX9_nameOf_1 hs1_108 (by decide) ?_
    refine r_iconst (-1) C dX9_nameOf_100 (by decide) ?_
    exact r_iret C dX9_nameOf_101 ⟨_, rfl, rfl, hw⟩
  replace hw := it_f hs1_108 hw
  by_cases hs1_109 : x0 = (109 : Int32)
  · replace hw := it_t hs1_109 hw
    refine r_tabIn (off := 99) (109) 100 C dX9_nameOf_1 hs1_109 (by decide) ?_
    refine r_iconst (-1) C dX9_nameOf_100 (by decide) ?_
    exact r_iret C dX9_nameOf_101 ⟨_, rfl, rfl, hw⟩
  replace hw := it_f hs1_109 hw
  by_cases hs1_110 : x0 = (110 : Int32)
  · replace hw := it_t hs1_110 hw
    refine r_tabIn (off := 97) (110) 98 C dX9_nameOf_1 hs1_110 (by decide) ?_
    refine r_iconst (5) C dX9_nameOf_98 (by decide) ?_
    exact r_iret C dX9_nameOf_99 ⟨_, rfl, rfl, hw⟩
  replace hw := it_f hs1_110 hw
  by_cases hs1_111 : x0 = (111 : Int32)
  · replace hw := it_t hs1_111 hw
    refine r_tabIn (off := 99) (111) 100 C dX9_nameOf_1 hs1_111 (by decide) ?_
    refine r_iconst (-1) C dX9_nameOf_100 (by decide) ?_
    exact r_iret C dX9_nameOf_101 ⟨_, rfl, rfl, hw⟩
  replace hw := it_f hs1_111 hw
  by_cases hs1_112 : x0 = (112 : Int32)
  · replace hw := it_t hs1_112 hw
    refine r_tabIn (off := 91) (112) 92 C dX9_nameOf_1 hs1_112 (by decide) ?_
    refine r_iconst (2) C dX9_nameOf_92 (by decide) ?_
    exact r_iret C dX9_nameOf_93 ⟨_, rfl, rfl, hw⟩
  replace hw := it_f hs1_112 hw
  by_cases hs1_113 : x0 = (113 : Int32)
  · replace hw := it_t hs1_113 hw
    refine r_tabIn (off := 99) (113) 100 C dX9_nameOf_1 hs1_113 (by decide) ?_
    refine r_iconst (-1) C dX9_nameOf_100 (by decide) ?_
    exact r_iret C dX9_nameOf_101 ⟨_, rfl, rfl, hw⟩
  replace hw := it_f hs1_113 hw
  by_cases hs1_114 : x0 = (114 : Int32)
  · replace hw := it_t hs1_114 hw
    refine r_tabIn (off := 99) (114) 100 C dX9_nameOf_1 hs1_114 (by decide) ?_
    refine r_iconst (-1) C dX9_nameOf_100 (by decide) ?_
    exact r_iret C dX9_nameOf_101 ⟨_, rfl, rfl, hw⟩
  replace hw := it_f hs1_114 hw
  by_cases hs1_115 : x0 = (115 : Int32)
  · replace hw := it_t hs1_115 hw
    refine r_tabIn (off := 95) (115) 96 C dX9_nameOf_1 hs1_115 (by decide) ?_
    refine r_iconst (4) C dX9_nameOf_96 (by decide) ?_
    exact r_iret C dX9_nameOf_97 ⟨_, rfl, rfl, hw⟩
  replace hw := it_f hs1_115 hw
  by_cases hs1_116 : x0 = (116 : Int32)
  · replace hw := it_t hs1_116 hw
    refine r_tabIn (off := 87) (116) 88 C dX9_nameOf_1 hs1_116 (by decide) ?_
    refine r_iconst (0) C dX9_nameOf_88 (by decide) ?_
    exact r_iret C dX9_nameOf_89 ⟨_, rfl, rfl, hw⟩
  replace hw := it_f hs1_116 hw
  refine r_tabOut 100 C dX9_nameOf_1 (by have qhs1_99 := lv_neT (a := 99) hs1_99 (by decide); have qhs1_100 := lv_neT (a := 100) hs1_100 (by decide); have qhs1_101 := lv_neT (a := 101) hs1_101 (by decide); have qhs1_102 := lv_neT (a := 102) hs1_102 (by decide); have qhs1_103 := lv_neT (a := 103) hs1_103 (by decide); have qhs1_104 := lv_neT (a := 104) hs1_104 (by decide); have qhs1_105 := lv_neT (a := 105) hs1_105 (by decide); have qhs1_106 := lv_neT (a := 106) hs1_106 (by decide); have qhs1_107 := lv_neT (a := 107) hs1_107 (by decide); have qhs1_108 := lv_neT (a := 108) hs1_108 (by decide); have qhs1_109 := lv_neT (a := 109) hs1_109 (by decide); have qhs1_110 := lv_neT (a := 110) hs1_110 (by decide); have qhs1_111 := lv_neT (a := 111) hs1_111 (by decide); have qhs1_112 := lv_neT (a := 112) hs1_112 (by decide); have qhs1_113 := lv_neT (a := 113) hs1_113 (by decide); have qhs1_114 := lv_neT (a := 114) hs1_114 (by decide); have qhs1_115 := lv_neT (a := 115) hs1_115 (by decide); have qhs1_116 := lv_neT (a := 116) hs1_116 (by decide); omega) (by decide) ?_
  refine r_iconst (-1) C dX9_nameOf_100 (by decide) ?_
  exact r_iret C dX9_nameOf_101 ⟨_, rfl, rfl, hw⟩
abbrev TG0 : Type := (Nat → Int32 → Int32 → Hp → (Hp → Prop) → Prop) × (Nat → Int32 → Hp → (Hp → Prop) → Prop) × (Nat → Int32 → Int32 → Hp → (Hp → Prop) → Prop)
def HG0 (G : GG) (r : TG0) (n : Nat) : Prop := (∀ (a0 : Nat) (x1 : Int32) (x2 : Int32) (h : Hp) (Q : (Hp → Prop)), kd a0 = 9 → r.1 a0 x1 x2 h Q → CV G (2 + n) yX9_chain cX9_chain 5 none [.ref (G.1 a0), .int x1, .int x2] h Q) ∧ (∀ (a0 : Nat) (x1 : Int32) (h : Hp) (Q : (Hp → Prop)), kd a0 = 9 → r.2.1 a0 x1 h Q → CV G (2 + n) yX9_operand cX9_operand 3 none [.ref (G.1 a0), .int x1] h Q) ∧ (∀ (a0 : Nat) (x1 : Int32) (x2 : Int32) (h : Hp) (Q : (Hp → Prop)), kd a0 = 9 → r.2.2 a0 x1 x2 h Q → CV G (2 + n) yX9_opened cX9_opened 3 none [.ref (G.1 a0), .int x1, .int x2] h Q)
def fX9_chain_21 (a0 : Nat) (x1 : Int32) (x2 : Int32) (r : TG0) (Q : Hp → Prop) (K21 : Int32 → Hp → Prop) (x3 : Int32) (h : Hp) : Prop :=
  if (gI h a0 2) ≤ x3 then (Q h) else (if (gI h a0 4) = 0 then (Q h) else (wX9_sign a0 h (fun v1 => wX9_levelOf v1 h (fun v2 => if v2 = x1 then (wX9_sign a0 h (fun v3 => ∀ h4 : Hp, h4 = sI h a0 3 ((gI h a0 3) + (1 : Int32)) → (r.1 a0 (x1 + (1 : Int32)) x2 h4 (fun h6 => wX5_add (rf a0 0) v3 (0 : Int32) h6 (fun h8 => if x1 = (2 : Int32) then (Q h8) else (∀ v9 : Int32, v9 = x3 + (1 : Int32) → (K21 v9 h8))))))) else (Q h)))))
def eX9_chain_21 (a0 : Nat) (x1 : Int32) (x2 : Int32) (r : TG0) (Q : Hp → Prop) (x3 : Int32) (h : Hp) : Prop := ∃ N, lpN (fun (K : Int32 × Hp → Prop) (s : Int32 × Hp) => fX9_chain_21 a0 x1 x2 r Q (fun x3 h => K (x3, h)) s.1 s.2) N (x3, h)
theorem iX9_chain_21 {a0 : Nat} {x1 : Int32} {x2 : Int32} {r : TG0} {Q : Hp → Prop} (I : Int32 → Hp → Prop) (μ : Int32 → Hp → Nat) (hs : ∀ (x3 : Int32) (h : Hp), I x3 h → ∀ K : Int32 → Hp → Prop, (∀ (x3' : Int32) (h' : Hp), I x3' h' → μ x3' h' < μ x3 h → K x3' h') → fX9_chain_21 a0 x1 x2 r Q K x3 h) : ∀ (x3 : Int32) (h : Hp), I x3 h → eX9_chain_21 a0 x1 x2 r Q x3 h := fun x3 h hI => lp_ind (fun s => I s.1 s.2) (fun s => μ s.1 s.2) (fun s hs' K hK => hs s.1 s.2 hs' _ (fun x3' h' h1 h2 => hK (x3', h') h1 h2)) (x3, h) hI
set_option maxRecDepth 20000 in
theorem tX9_chain_21 {G : GG} {X : XX} {n : Nat} {r : TG0} {a0 : Nat} {x1 : Int32} {x2 : Int32} {x3 : Int32} {h : Hp}  {Q : Hp → Prop} (C : Cx G RX9 cX9_chain 5 none (2 + n + 1) 0 0 X) (hr : HG0 G r n) (k0 : kd a0 = 9) (hw : eX9_chain_21 a0 x1 x2 r Q x3 h) : R0 G X 0 0 (ZM G (fun r h' => r = none ∧ Q h') X) 21 [some (.ref (G.1 a0)), some (.int x1), some (.int x2), some (.int x3), none] [] h := by
  obtain ⟨N, hw⟩ := hw
  induction N generalizing x3 h with
  | zero => exact hw.elim
  | succ N ih =>
    obtain ⟨K21, eK⟩ : ∃ K : Int32 → Hp → Prop, K = (fun x3 h => lpN (fun (K : Int32 × Hp → Prop) (s : Int32 × Hp) => fX9_chain_21 a0 x1 x2 r Q (fun x3 h => K (x3, h)) s.1 s.2) N (x3, h)) := ⟨_, rfl⟩
    have hw : fX9_chain_21 a0 x1 x2 r Q (fun x3 h => lpN (fun (K : Int32 × Hp → Prop) (s : Int32 × Hp) => fX9_chain_21 a0 x1 x2 r Q (fun x3 h => K (x3, h)) s.1 s.2) N (x3, h)) x3 h := hw
    have hK21 : ∀ (x3 : Int32) (h : Hp), K21 x3 h → R0 G X 0 0 (ZM G (fun r h' => r = none ∧ Q h') X) 21 [some (.ref (G.1 a0)), some (.int x1), some (.int x2), some (.int x3), none] [] h := fun x3 h q => ih (by rw [eK] at q; exact q)
    rw [← eK] at hw
    clear eK ih
    unfold fX9_chain_21 at hw
    refine r_iload_n C dX9_chain_21 rfl ?_
    refine r_aload_n C dX9_chain_22 rfl ?_
    refine gX9_20 C (k0) dX9_chain_23 ?_
    refine r_icmp_ge 93 C dX9_chain_26 (by decide) (fun hc => ?_) (fun hc => ?_)
    · replace hw := it_t hc hw
      exact r_vret C dX9_chain_93 ⟨rfl, hw⟩
    · replace hw := it_f hc hw
      refine r_aload_n C dX9_chain_29 rfl ?_
      refine gX9_27 C (k0) dX9_chain_30 ?_
      refine r_if_eq 93 C dX9_chain_33 (by decide) (fun hc => ?_) (fun hc => ?_)
      · replace hw := it_t hc hw
        exact r_vret C dX9_chain_93 ⟨rfl, hw⟩
      · replace hw := it_f hc hw
        refine r_aload_n C dX9_chain_36 rfl ?_
        refine kX9_37 C (k0) (sX9_sign (k0) hw) dX9_chain_37 (by omega) rfl (Nat.le_of_ble_eq_true rfl) (fun v1 hw => ?_)
        refine kX9_52 C (sX9_levelOf hw) dX9_chain_40 (by omega) rfl (Nat.le_of_ble_eq_true rfl) (fun v2 hw => ?_)
        refine r_iload_n C dX9_chain_43 rfl ?_
        refine r_icmp_ne 93 C dX9_chain_44 (by decide) (fun hc => ?_) (fun hc => ?_)
        · replace hw := it_f hc hw
          exact r_vret C dX9_chain_93 ⟨rfl, hw⟩
        · replace hw := it_t hc hw
          refine r_aload_n C dX9_chain_47 rfl ?_
          refine kX9_37 C (k0) (sX9_sign (k0) hw) dX9_chain_48 (by omega) rfl (Nat.le_of_ble_eq_true rfl) (fun v3 hw => ?_)
          refine r_istore [some (.ref (G.1 a0)), some (.int x1), some (.int x2), some (.int x3), some (.int v3)] C dX9_chain_51 (Nat.le_of_ble_eq_true rfl) rfl rfl ?_
          refine r_aload_n C dX9_chain_53 rfl ?_
          refine r_dup C dX9_chain_54 rfl ?_
          refine gX9_24 C (k0) dX9_chain_55 ?_
          refine r_iconst (1) C dX9_chain_58 (by decide) ?_
          refine r_iadd C dX9_chain_59 ?_
          refine pX9_24 C (k0) dX9_chain_60 ?_
          refine r_toph (fun h4 eh4 => ?_)
          replace hw := hw h4 eh4
          refine r_aload_n C dX9_chain_63 rfl ?_
          refine r_iload_n C dX9_chain_64 rfl ?_
          refine r_iconst (1) C dX9_chain_65 (by decide) ?_
          refine r_iadd C dX9_chain_66 ?_
          refine r_iload_n C dX9_chain_67 rfl ?_
          refine kX9_41 C (k0) (hr.1 _ _ _ _ _ (k0) hw) dX9_chain_68 (by omega) rfl (Nat.le_of_ble_eq_true rfl) (fun h6 hw => ?_)
          refine r_aload_n C dX9_chain_71 rfl ?_
          refine gX9_10 C (k0) dX9_chain_72 ?_
          refine r_iload C dX9_chain_75 rfl ?_
          refine r_iconst (0) C dX9_chain_77 (by decide) ?_
          refine kX9_45 C (kr9_0 (k0)) (sX5_add (kr9_0 (k0)) hw) dX9_chain_78 (by omega) rfl (Nat.le_of_ble_eq_true rfl) (fun h8 hw => ?_)
          refine r_iload_n C dX9_chain_81 rfl ?_
          refine r_iconst (2) C dX9_chain_82 (by decide) ?_
          refine r_icmp_ne 87 C dX9_chain_83 (by decide) (fun hc => ?_) (fun hc => ?_)
          · replace hw := it_f hc hw
            obtain ⟨v9, ev9⟩ : ∃ v : Int32, v = x3 + (1 : Int32) := ⟨_, rfl⟩
            replace hw := hw v9 ev9
            refine r_iinc v9 [some (.ref (G.1 a0)), some (.int x1), some (.int x2), some (.int v9), some (.int v3)] C dX9_chain_87 rfl (by rw [ev9]; rfl) rfl rfl ?_
            refine r_goto 21 C dX9_chain_90 (by decide) ?_
            refine r_weak [some (.ref (G.1 a0)), some (.int x1), some (.int x2), some (.int v9), none] (lw_k (lw_k (lw_k (lw_k (lw_d (lw_n)))))) ?_
            exact hK21 _ _ hw
          · replace hw := it_t hc hw
            exact r_vret C dX9_chain_86 ⟨rfl, hw⟩
def bX9_chain (r : TG0) (a0 : Nat) (x1 : Int32) (x2 : Int32) (h : Hp) (Q : Hp → Prop) : Prop :=
  if x1 < (5 : Int32) then (r.1 a0 (x1 + (1 : Int32)) x2 h (fun h2 => eX9_chain_21 a0 x1 x2 r Q (0 : Int32) h2)) else (r.2.1 a0 x2 h (fun h4 => Q h4))
set_option maxRecDepth 20000 in
theorem uX9_chain {G : GG} {n : Nat} {r : TG0} {a0 : Nat} {x1 : Int32} {x2 : Int32} {h : Hp} {Q : Hp → Prop} (hr : HG0 G r n) (k0 : kd a0 = 9) (hw : bX9_chain r a0 x1 x2 h Q) : CV G (2 + n + 1) yX9_chain cX9_chain 5 none [.ref (G.1 a0), .int x1, .int x2] h Q := by
  refine CO_of [some (.ref (G.1 a0)), some (.int x1), some (.int x2), none, none] (by decide) (Nat.le_of_ble_eq_true rfl) rfl (fun X C => ?_)
  unfold bX9_chain at hw
  refine r_iload_n C dX9_chain_0 rfl ?_
  refine r_iconst (5) C dX9_chain_1 (by decide) ?_
  refine r_icmp_lt 11 C dX9_chain_2 (by decide) (fun hc => ?_) (fun hc => ?_)
  · replace hw := it_t hc hw
    refine r_aload_n C dX9_chain_11 rfl ?_
    refine r_iload_n C dX9_chain_12 rfl ?_
    refine r_iconst (1) C dX9_chain_13 (by decide) ?_
    refine r_iadd C dX9_chain_14 ?_
    refine r_iload_n C dX9_chain_15 rfl ?_
    refine kX9_41 C (k0) (hr.1 _ _ _ _ _ (k0) hw) dX9_chain_16 (by omega) rfl (Nat.le_of_ble_eq_true rfl) (fun h2 hw => ?_)
    refine r_iconst (0) C dX9_chain_19 (by decide) ?_
    refine r_istore_n [some (.ref (G.1 a0)), some (.int x1), some (.int x2), some (.int (0 : Int32)), none] C dX9_chain_20 (Nat.le_of_ble_eq_true rfl) rfl rfl ?_
    exact tX9_chain_21 C hr (k0) hw
  · replace hw := it_f hc hw
    refine r_aload_n C dX9_chain_5 rfl ?_
    refine r_iload_n C dX9_chain_6 rfl ?_
    refine kX9_48 C (k0) (hr.2.1 _ _ _ _ (k0) hw) dX9_chain_7 (by omega) rfl (Nat.le_of_ble_eq_true rfl) (fun h4 hw => ?_)
    exact r_vret C dX9_chain_10 ⟨rfl, hw⟩
def jX9_operand_76 (a0 : Nat) (x1 : Int32) (x2 : Int32) (h : Hp) (r : TG0) (Q : Hp → Prop) : Prop :=
  ∀ h1 : Hp, h1 = sI h a0 3 ((gI h a0 3) + (1 : Int32)) → (r.2.2 a0 x2 (x1 + (1 : Int32)) h1 (fun h3 => Q h3))
set_option maxRecDepth 20000 in
theorem tX9_operand_76 {G : GG} {X : XX} {n : Nat} {r : TG0} {a0 : Nat} {x1 : Int32} {x2 : Int32} {h : Hp}  {Q : Hp → Prop} (C : Cx G RX9 cX9_operand 3 none (2 + n + 1) 0 0 X) (hr : HG0 G r n) (k0 : kd a0 = 9) (hw : jX9_operand_76 a0 x1 x2 h r Q) : R0 G X 0 0 (ZM G (fun r h' => r = none ∧ Q h') X) 76 [some (.ref (G.1 a0)), some (.int x1), some (.int x2)] [] h := by
  unfold jX9_operand_76 at hw
  refine r_aload_n C dX9_operand_76 rfl ?_
  refine r_dup C dX9_operand_77 rfl ?_
  refine gX9_24 C (k0) dX9_operand_78 ?_
  refine r_iconst (1) C dX9_operand_81 (by decide) ?_
  refine r_iadd C dX9_operand_82 ?_
  refine pX9_24 C (k0) dX9_operand_83 ?_
  refine r_toph (fun h1 eh1 => ?_)
  replace hw := hw h1 eh1
  refine r_aload_n C dX9_operand_86 rfl ?_
  refine r_iload_n C dX9_operand_87 rfl ?_
  refine r_iload_n C dX9_operand_88 rfl ?_
  refine r_iconst (1) C dX9_operand_89 (by decide) ?_
  refine r_iadd C dX9_operand_90 ?_
  refine kX9_66 C (k0) (hr.2.2 _ _ _ _ _ (k0) hw) dX9_operand_91 (by omega) rfl (Nat.le_of_ble_eq_true rfl) (fun h3 hw => ?_)
  refine r_goto 102 C dX9_operand_94 (by decide) ?_
  exact r_vret C dX9_operand_102 ⟨rfl, hw⟩
def bX9_operand (r : TG0) (a0 : Nat) (x1 : Int32) (h : Hp) (Q : Hp → Prop) : Prop :=
  wX9_sign a0 h (fun v1 => wX9_isDigit v1 h (fun v2 => if v2 = 0 then (wX9_nameOf v1 h (fun v3 => if v3 = (-1 : Int32) then (if (6 : Int32) ≤ x1 then (∀ h4 : Hp, h4 = sI h a0 4 (0 : Int32) → (Q h4)) else (if v1 = (40 : Int32) then (jX9_operand_76 a0 x1 v1 h r Q) else (if v1 = (33 : Int32) then (jX9_operand_76 a0 x1 v1 h r Q) else (if v1 = (45 : Int32) then (jX9_operand_76 a0 x1 v1 h r Q) else (∀ h5 : Hp, h5 = sI h a0 4 (0 : Int32) → (Q h5)))))) else (wX9_nameOf v1 h (fun v6 => wX5_add (rf a0 0) (1 : Int32) v6 h (fun h8 => ∀ h9 : Hp, h9 = sI h8 a0 3 ((gI h8 a0 3) + (1 : Int32)) → (Q h9)))))) else (wX9_number a0 h (fun h11 => Q h11))))
set_option maxRecDepth 20000 in
theorem uX9_operand {G : GG} {n : Nat} {r : TG0} {a0 : Nat} {x1 : Int32} {h : Hp} {Q : Hp → Prop} (hr : HG0 G r n) (k0 : kd a0 = 9) (hw : bX9_operand r a0 x1 h Q) : CV G (2 + n + 1) yX9_operand cX9_operand 3 none [.ref (G.1 a0), .int x1] h Q := by
  refine CO_of [some (.ref (G.1 a0)), some (.int x1), none] (by decide) (Nat.le_of_ble_eq_true rfl) rfl (fun X C => ?_)
  unfold bX9_operand at hw
  refine r_aload_n C dX9_operand_0 rfl ?_
  refine kX9_37 C (k0) (sX9_sign (k0) hw) dX9_operand_1 (by omega) rfl (Nat.le_of_ble_eq_true rfl) (fun v1 hw => ?_)
  refine r_istore_n [some (.ref (G.1 a0)), some (.int x1), some (.int v1)] C dX9_operand_4 (Nat.le_of_ble_eq_true rfl) rfl rfl ?_
  refine r_iload_n C dX9_operand_5 rfl ?_
  refine kX9_56 C (sX9_isDigit hw) dX9_operand_6 (by omega) rfl (Nat.le_of_ble_eq_true rfl) (fun v2 hw => ?_)
  refine r_if_eq 19 C dX9_operand_9 (by decide) (fun hc => ?_) (fun hc => ?_)
  · replace hw := it_t hc hw
    refine r_iload_n C dX9_operand_19 rfl ?_
    refine kX9_63 C (sX9_nameOf hw) dX9_operand_20 (by omega) rfl (Nat.le_of_ble_eq_true rfl) (fun v3 hw => ?_)
    refine r_iconst (-1) C dX9_operand_23 (by decide) ?_
    refine r_icmp_eq 52 C dX9_operand_24 (by decide) (fun hc => ?_) (fun hc => ?_)
    · replace hw := it_t hc hw
      refine r_iload_n C dX9_operand_52 rfl ?_
      refine r_bipush (6) C dX9_operand_53 (by decide) ?_
      refine r_icmp_ge 97 C dX9_operand_55 (by decide) (fun hc => ?_) (fun hc => ?_)
      · replace hw := it_t hc hw
        refine r_aload_n C dX9_operand_97 rfl ?_
        refine r_iconst (0) C dX9_operand_98 (by decide) ?_
        refine pX9_27 C (k0) ⟨rfl, rfl⟩ dX9_operand_99 ?_
        refine r_toph (fun h4 eh4 => ?_)
        replace hw := hw h4 eh4
        exact r_vret C dX9_operand_102 ⟨rfl, hw⟩
      · replace hw := it_f hc hw
        refine r_iload_n C dX9_operand_58 rfl ?_
        refine r_bipush (40) C dX9_operand_59 (by decide) ?_
        refine r_icmp_eq 76 C dX9_operand_61 (by decide) (fun hc => ?_) (fun hc => ?_)
        · replace hw := it_t hc hw
          exact tX9_operand_76 C hr (k0) hw
        · replace hw := it_f hc hw
          refine r_iload_n C dX9_operand_64 rfl ?_
          refine r_bipush (33) C dX9_operand_65 (by decide) ?_
          refine r_icmp_eq 76 C dX9_operand_67 (by decide) (fun hc => ?_) (fun hc => ?_)
          · replace hw := it_t hc hw
            exact tX9_operand_76 C hr (k0) hw
          · replace hw := it_f hc hw
            refine r_iload_n C dX9_operand_70 rfl ?_
            refine r_bipush (45) C dX9_operand_71 (by decide) ?_
            refine r_icmp_ne 97 C dX9_operand_73 (by decide) (fun hc => ?_) (fun hc => ?_)
            · replace hw := it_f hc hw
              refine r_aload_n C dX9_operand_97 rfl ?_
              refine r_iconst (0) C dX9_operand_98 (by decide) ?_
              refine pX9_27 C (k0) ⟨rfl, rfl⟩ dX9_operand_99 ?_
              refine r_toph (fun h5 eh5 => ?_)
              replace hw := hw h5 eh5
              exact r_vret C dX9_operand_102 ⟨rfl, hw⟩
            · replace hw := it_t hc hw
              exact tX9_operand_76 C hr (k0) hw
    · replace hw := it_f hc hw
      refine r_aload_n C dX9_operand_27 rfl ?_
      refine gX9_10 C (k0) dX9_operand_28 ?_
      refine r_iconst (1) C dX9_operand_31 (by decide) ?_
      refine r_iload_n C dX9_operand_32 rfl ?_
      refine kX9_63 C (sX9_nameOf hw) dX9_operand_33 (by omega) rfl (Nat.le_of_ble_eq_true rfl) (fun v6 hw => ?_)
      refine kX9_45 C (kr9_0 (k0)) (sX5_add (kr9_0 (k0)) hw) dX9_operand_36 (by omega) rfl (Nat.le_of_ble_eq_true rfl) (fun h8 hw => ?_)
      refine r_aload_n C dX9_operand_39 rfl ?_
      refine r_dup C dX9_operand_40 rfl ?_
      refine gX9_24 C (k0) dX9_operand_41 ?_
      refine r_iconst (1) C dX9_operand_44 (by decide) ?_
      refine r_iadd C dX9_operand_45 ?_
      refine pX9_24 C (k0) dX9_operand_46 ?_
      refine r_toph (fun h9 eh9 => ?_)
      replace hw := hw h9 eh9
      refine r_goto 102 C dX9_operand_49 (by decide) ?_
      exact r_vret C dX9_operand_102 ⟨rfl, hw⟩
  · replace hw := it_f hc hw
    refine r_aload_n C dX9_operand_12 rfl ?_
    refine kX9_60 C (k0) (sX9_number (k0) hw) dX9_operand_13 (by omega) rfl (Nat.le_of_ble_eq_true rfl) (fun h11 hw => ?_)
    refine r_goto 102 C dX9_operand_16 (by decide) ?_
    exact r_vret C dX9_operand_102 ⟨rfl, hw⟩
def bX9_opened (r : TG0) (a0 : Nat) (x1 : Int32) (x2 : Int32) (h : Hp) (Q : Hp → Prop) : Prop :=
  if x1 = (40 : Int32) then (r.1 a0 (0 : Int32) x2 h (fun h2 => if (gI h2 a0 4) = 0 then (∀ h3 : Hp, h3 = sI h2 a0 4 (0 : Int32) → (Q h3)) else (wX9_sign a0 h2 (fun v4 => if v4 = (41 : Int32) then (∀ h6 : Hp, h6 = sI h2 a0 3 ((gI h2 a0 3) + (1 : Int32)) → (Q h6)) else (∀ h5 : Hp, h5 = sI h2 a0 4 (0 : Int32) → (Q h5)))))) else (r.2.1 a0 x2 h (fun h8 => if x1 = (33 : Int32) then (wX5_add (rf a0 0) (33 : Int32) (0 : Int32) h8 (fun h12 => Q h12)) else (wX5_add (rf a0 0) (2 : Int32) (0 : Int32) h8 (fun h10 => Q h10))))
set_option maxRecDepth 20000 in
theorem uX9_opened {G : GG} {n : Nat} {r : TG0} {a0 : Nat} {x1 : Int32} {x2 : Int32} {h : Hp} {Q : Hp → Prop} (hr : HG0 G r n) (k0 : kd a0 = 9) (hw : bX9_opened r a0 x1 x2 h Q) : CV G (2 + n + 1) yX9_opened cX9_opened 3 none [.ref (G.1 a0), .int x1, .int x2] h Q := by
  refine CO_of [some (.ref (G.1 a0)), some (.int x1), some (.int x2)] (by decide) (Nat.le_of_ble_eq_true rfl) rfl (fun X C => ?_)
  unfold bX9_opened at hw
  refine r_iload_n C dX9_opened_0 rfl ?_
  refine r_bipush (40) C dX9_opened_1 (by decide) ?_
  refine r_icmp_eq 32 C dX9_opened_3 (by decide) (fun hc => ?_) (fun hc => ?_)
  · replace hw := it_t hc hw
    refine r_aload_n C dX9_opened_32 rfl ?_
    refine r_iconst (0) C dX9_opened_33 (by decide) ?_
    refine r_iload_n C dX9_opened_34 rfl ?_
    refine kX9_41 C (k0) (hr.1 _ _ _ _ _ (k0) hw) dX9_opened_35 (by omega) rfl (Nat.le_of_ble_eq_true rfl) (fun h2 hw => ?_)
    refine r_aload_n C dX9_opened_38 rfl ?_
    refine gX9_27 C (k0) dX9_opened_39 ?_
    refine r_if_eq 67 C dX9_opened_42 (by decide) (fun hc => ?_) (fun hc => ?_)
    · replace hw := it_t hc hw
      refine r_aload_n C dX9_opened_67 rfl ?_
      refine r_iconst (0) C dX9_opened_68 (by decide) ?_
      refine pX9_27 C (k0) ⟨rfl, rfl⟩ dX9_opened_69 ?_
      refine r_toph (fun h3 eh3 => ?_)
      replace hw := hw h3 eh3
      exact r_vret C dX9_opened_72 ⟨rfl, hw⟩
    · replace hw := it_f hc hw
      refine r_aload_n C dX9_opened_45 rfl ?_
      refine kX9_37 C (k0) (sX9_sign (k0) hw) dX9_opened_46 (by omega) rfl (Nat.le_of_ble_eq_true rfl) (fun v4 hw => ?_)
      refine r_bipush (41) C dX9_opened_49 (by decide) ?_
      refine r_icmp_ne 67 C dX9_opened_51 (by decide) (fun hc => ?_) (fun hc => ?_)
      · replace hw := it_f hc hw
        refine r_aload_n C dX9_opened_67 rfl ?_
        refine r_iconst (0) C dX9_opened_68 (by decide) ?_
        refine pX9_27 C (k0) ⟨rfl, rfl⟩ dX9_opened_69 ?_
        refine r_toph (fun h5 eh5 => ?_)
        replace hw := hw h5 eh5
        exact r_vret C dX9_opened_72 ⟨rfl, hw⟩
      · replace hw := it_t hc hw
        refine r_aload_n C dX9_opened_54 rfl ?_
        refine r_dup C dX9_opened_55 rfl ?_
        refine gX9_24 C (k0) dX9_opened_56 ?_
        refine r_iconst (1) C dX9_opened_59 (by decide) ?_
        refine r_iadd C dX9_opened_60 ?_
        refine pX9_24 C (k0) dX9_opened_61 ?_
        refine r_toph (fun h6 eh6 => ?_)
        replace hw := hw h6 eh6
        refine r_goto 72 C dX9_opened_64 (by decide) ?_
        exact r_vret C dX9_opened_72 ⟨rfl, hw⟩
  · replace hw := it_f hc hw
    refine r_aload_n C dX9_opened_6 rfl ?_
    refine r_iload_n C dX9_opened_7 rfl ?_
    refine kX9_48 C (k0) (hr.2.1 _ _ _ _ (k0) hw) dX9_opened_8 (by omega) rfl (Nat.le_of_ble_eq_true rfl) (fun h8 hw => ?_)
    refine r_aload_n C dX9_opened_11 rfl ?_
    refine gX9_10 C (k0) dX9_opened_12 ?_
    refine r_iload_n C dX9_opened_15 rfl ?_
    refine r_bipush (33) C dX9_opened_16 (by decide) ?_
    refine r_icmp_ne 26 C dX9_opened_18 (by decide) (fun hc => ?_) (fun hc => ?_)
    · replace hw := it_f hc hw
      refine r_iconst (2) C dX9_opened_26 (by decide) ?_
      refine r_iconst (0) C dX9_opened_27 (by decide) ?_
      refine kX9_45 C (kr9_0 (k0)) (sX5_add (kr9_0 (k0)) hw) dX9_opened_28 (by omega) rfl (Nat.le_of_ble_eq_true rfl) (fun h10 hw => ?_)
      exact r_vret C dX9_opened_31 ⟨rfl, hw⟩
    · replace hw := it_t hc hw
      refine r_bipush (33) C dX9_opened_21 (by decide) ?_
      refine r_goto 27 C dX9_opened_23 (by decide) ?_
      refine r_iconst (0) C dX9_opened_27 (by decide) ?_
      refine kX9_45 C (kr9_0 (k0)) (sX5_add (kr9_0 (k0)) hw) dX9_opened_28 (by omega) rfl (Nat.le_of_ble_eq_true rfl) (fun h12 hw => ?_)
      exact r_vret C dX9_opened_31 ⟨rfl, hw⟩
def wG0 : Nat → TG0
  | 0 => (fun _ _ _ _ _ => False, fun _ _ _ _ => False, fun _ _ _ _ _ => False)
  | n + 1 => (bX9_chain (wG0 n), bX9_operand (wG0 n), bX9_opened (wG0 n))
theorem sG0 (G : GG) : ∀ n, HG0 G (wG0 n) n := by
  intro n
  induction n with
  | zero => exact ⟨fun _ _ _ _ _ k0 hw => False.elim hw, fun _ _ _ _ k0 hw => False.elim hw, fun _ _ _ _ _ k0 hw => False.elim hw⟩
  | succ n ih => exact ⟨fun _ _ _ _ _ k0 hw => uX9_chain ih k0 hw, fun _ _ _ _ k0 hw => uX9_operand ih k0 hw, fun _ _ _ _ _ k0 hw => uX9_opened ih k0 hw⟩
