def jX12_wrongIn_120 (a0 : Nat) (x1 : Int32) (x2 : Int32) (x3 : Int32) (x4 : Int32) (x6 : Int32) (h : Hp) (K8 : Int32 → Hp → Prop) (Q : Int32 → Hp → Prop) : Prop :=
  wX12_in ((gI h a0 41) - x6) (0 : Int32) x2 h (fun v1 => if v1 = 0 then (Q x4 h) else (∀ h2 : Hp, h2 = sI h a0 41 ((gI h a0 41) - x6) → (∀ v3 : Int32, v3 = x4 + (1 : Int32) → (K8 v3 h2))))
set_option maxRecDepth 20000 in
theorem tX12_wrongIn_120 {G : GG} {X : XX} {a0 : Nat} {x1 : Int32} {x2 : Int32} {x3 : Int32} {x4 : Int32} {x6 : Int32} {h : Hp}  {K8 : Int32 → Hp → Prop} {Q : Int32 → Hp → Prop} (C : Cx G RX12 cX12_wrongIn 7 (some .int) 2 0 0 X) (k0 : kd a0 = 12) (hK8 : ∀ (y4 : Int32) (h' : Hp), K8 y4 h' → R0 G X 0 0 (ZM G (fun r h' => ∃ v, r = some (.int v) ∧ Q v h') X) 8 [some (.ref (G.1 a0)), some (.int x1), some (.int x2), some (.int x3), some (.int y4), none, none] [] h') (hw : jX12_wrongIn_120 a0 x1 x2 x3 x4 x6 h K8 Q) : R0 G X 0 0 (ZM G (fun r h' => ∃ v, r = some (.int v) ∧ Q v h') X) 120 [some (.ref (G.1 a0)), some (.int x1), some (.int x2), some (.int x3), some (.int x4), none, some (.int x6)] [] h := by
  unfold jX12_wrongIn_120 at hw
  refine r_aload_n C dX12_wrongIn_120 rfl ?_
  refine gX12_340 C (k0) dX12_wrongIn_121 ?_
  refine r_iload C dX12_wrongIn_124 rfl ?_
  refine r_isub C dX12_wrongIn_126 ?_
  refine r_iconst (0) C dX12_wrongIn_127 (by decide) ?_
  refine r_iload_n C dX12_wrongIn_128 rfl ?_
  refine kX12_114 C (sX12_in hw) dX12_wrongIn_129 (Nat.le_of_ble_eq_true rfl) rfl (Nat.le_of_ble_eq_true rfl) (fun v1 hw => ?_)
  refine r_if_ne 138 C dX12_wrongIn_132 (by decide) (fun hc => ?_) (fun hc => ?_)
  · replace hw := it_f hc hw
    refine r_aload_n C dX12_wrongIn_138 rfl ?_
    refine r_dup C dX12_wrongIn_139 rfl ?_
    refine gX12_340 C (k0) dX12_wrongIn_140 ?_
    refine r_iload C dX12_wrongIn_143 rfl ?_
    refine r_isub C dX12_wrongIn_145 ?_
    refine pX12_340 C (k0) dX12_wrongIn_146 ?_
    refine r_toph (fun h2 eh2 => ?_)
    replace hw := hw h2 eh2
    obtain ⟨v3, ev3⟩ : ∃ v : Int32, v = x4 + (1 : Int32) := ⟨_, rfl⟩
    replace hw := hw v3 ev3
    refine r_iinc v3 [some (.ref (G.1 a0)), some (.int x1), some (.int x2), some (.int x3), some (.int v3), none, some (.int x6)] C dX12_wrongIn_149 rfl (by rw [ev3]; rfl) rfl rfl ?_
    refine r_goto 8 C dX12_wrongIn_152 (by decide) ?_
    refine r_weak [some (.ref (G.1 a0)), some (.int x1), some (.int x2), some (.int x3), some (.int v3), none, none] (lw_k (lw_k (lw_k (lw_k (lw_k (lw_k (lw_d (lw_n)))))))) ?_
    exact hK8 _ _ hw
  · replace hw := it_t hc hw
    refine r_iload C dX12_wrongIn_135 rfl ?_
    exact r_iret C dX12_wrongIn_137 ⟨_, rfl, hw⟩
def jX12_wrongIn_86 (a0 : Nat) (x1 : Int32) (x2 : Int32) (x3 : Int32) (x4 : Int32) (x5 : Int32) (x6 : Int32) (h : Hp) (K8 : Int32 → Hp → Prop) (Q : Int32 → Hp → Prop) : Prop :=
  wX12_isGate a0 x5 h (fun v1 => if v1 = 0 then (Q x4 h) else (vp_in x5 (ln (rf a0 2)) ∧ (if x6 = (gI h (rf a0 2) x5.toNatClampNeg) then (jX12_wrongIn_120 a0 x1 x2 x3 x4 x6 h K8 Q) else (vp_in x5 (ln (rf a0 2)) ∧ (if (-x6) = (gI h (rf a0 2) x5.toNatClampNeg) then (jX12_wrongIn_120 a0 x1 x2 x3 x4 x6 h K8 Q) else (Q x4 h))))))
set_option maxRecDepth 20000 in
theorem tX12_wrongIn_86 {G : GG} {X : XX} {a0 : Nat} {x1 : Int32} {x2 : Int32} {x3 : Int32} {x4 : Int32} {x5 : Int32} {x6 : Int32} {h : Hp}  {K8 : Int32 → Hp → Prop} {Q : Int32 → Hp → Prop} (C : Cx G RX12 cX12_wrongIn 7 (some .int) 2 0 0 X) (k0 : kd a0 = 12) (hK8 : ∀ (y4 : Int32) (h' : Hp), K8 y4 h' → R0 G X 0 0 (ZM G (fun r h' => ∃ v, r = some (.int v) ∧ Q v h') X) 8 [some (.ref (G.1 a0)), some (.int x1), some (.int x2), some (.int x3), some (.int y4), none, none] [] h') (hw : jX12_wrongIn_86 a0 x1 x2 x3 x4 x5 x6 h K8 Q) : R0 G X 0 0 (ZM G (fun r h' => ∃ v, r = some (.int v) ∧ Q v h') X) 86 [some (.ref (G.1 a0)), some (.int x1), some (.int x2), some (.int x3), some (.int x4), some (.int x5), some (.int x6)] [] h := by
  unfold jX12_wrongIn_86 at hw
  refine r_aload_n C dX12_wrongIn_86 rfl ?_
  refine r_iload C dX12_wrongIn_87 rfl ?_
  refine kX12_157 C (k0) (sX12_isGate (k0) hw) dX12_wrongIn_89 (Nat.le_of_ble_eq_true rfl) rfl (Nat.le_of_ble_eq_true rfl) (fun v1 hw => ?_)
  refine r_if_eq 135 C dX12_wrongIn_92 (by decide) (fun hc => ?_) (fun hc => ?_)
  · replace hw := it_t hc hw
    refine r_iload C dX12_wrongIn_135 rfl ?_
    exact r_iret C dX12_wrongIn_137 ⟨_, rfl, hw⟩
  · replace hw := it_f hc hw
    refine r_iload C dX12_wrongIn_95 rfl ?_
    refine r_aload_n C dX12_wrongIn_97 rfl ?_
    refine gX12_7 C (k0) dX12_wrongIn_98 ?_
    refine r_iload C dX12_wrongIn_101 rfl ?_
    obtain ⟨hi2, hw⟩ := hw
    refine r_iald C (kr12_2 (k0)) hi2 dX12_wrongIn_103 ?_
    refine r_icmp_eq 120 C dX12_wrongIn_104 (by decide) (fun hc => ?_) (fun hc => ?_)
    · replace hw := it_t hc hw
      refine r_weak [some (.ref (G.1 a0)), some (.int x1), some (.int x2), some (.int x3), some (.int x4), none, some (.int x6)] (lw_k (lw_k (lw_k (lw_k (lw_k (lw_d (lw_k (lw_n)))))))) ?_
      exact tX12_wrongIn_120 C (k0) hK8 hw
    · replace hw := it_f hc hw
      refine r_iload C dX12_wrongIn_107 rfl ?_
      refine r_ineg C dX12_wrongIn_109 ?_
      refine r_aload_n C dX12_wrongIn_110 rfl ?_
      refine gX12_7 C (k0) dX12_wrongIn_111 ?_
      refine r_iload C dX12_wrongIn_114 rfl ?_
      obtain ⟨hi3, hw⟩ := hw
      refine r_iald C (kr12_2 (k0)) hi3 dX12_wrongIn_116 ?_
      refine r_icmp_ne 135 C dX12_wrongIn_117 (by decide) (fun hc => ?_) (fun hc => ?_)
      · replace hw := it_f hc hw
        refine r_iload C dX12_wrongIn_135 rfl ?_
        exact r_iret C dX12_wrongIn_137 ⟨_, rfl, hw⟩
      · replace hw := it_t hc hw
        refine r_weak [some (.ref (G.1 a0)), some (.int x1), some (.int x2), some (.int x3), some (.int x4), none, some (.int x6)] (lw_k (lw_k (lw_k (lw_k (lw_k (lw_d (lw_k (lw_n)))))))) ?_
        exact tX12_wrongIn_120 C (k0) hK8 hw
def fX12_wrongIn_8 (a0 : Nat) (x1 : Int32) (x2 : Int32) (x3 : Int32) (Q : Int32 → Hp → Prop) (K8 : Int32 → Hp → Prop) (x4 : Int32) (h : Hp) : Prop :=
  vp_in x1 (ln (rf a0 53)) ∧ (if (gI h (rf a0 53) x1.toNatClampNeg) ≤ ((2 : Int32) * x4) then (Q (-1 : Int32) h) else (vp_in x1 (ln (rf a0 53)) ∧ (if (((2 : Int32) * x4) + (1 : Int32)) < (gI h (rf a0 53) x1.toNatClampNeg) then (vp_in (((60 : Int32) * x1) + ((2 : Int32) * x4)) (ln (rf a0 54)) ∧ (∀ v4 : Int32, v4 = (gL h (rf a0 54) (((60 : Int32) * x1) + ((2 : Int32) * x4)).toNatClampNeg).toInt32 → (vp_in ((((60 : Int32) * x1) + ((2 : Int32) * x4)) + (1 : Int32)) (ln (rf a0 54)) ∧ (∀ v6 : Int32, v6 = (gL h (rf a0 54) ((((60 : Int32) * x1) + ((2 : Int32) * x4)) + (1 : Int32)).toNatClampNeg).toInt32 → (if x4 = x3 then (∀ v7 : Int32, v7 = (-v6) → (jX12_wrongIn_86 a0 x1 x2 x3 x4 v4 v7 h K8 Q)) else (jX12_wrongIn_86 a0 x1 x2 x3 x4 v4 v6 h K8 Q)))))) else (Q x4 h))))
def eX12_wrongIn_8 (a0 : Nat) (x1 : Int32) (x2 : Int32) (x3 : Int32) (Q : Int32 → Hp → Prop) (x4 : Int32) (h : Hp) : Prop := ∃ N, lpN (fun (K : Int32 × Hp → Prop) (s : Int32 × Hp) => fX12_wrongIn_8 a0 x1 x2 x3 Q (fun x4 h => K (x4, h)) s.1 s.2) N (x4, h)
theorem iX12_wrongIn_8 {a0 : Nat} {x1 : Int32} {x2 : Int32} {x3 : Int32} {Q : Int32 → Hp → Prop} (I : Int32 → Hp → Prop) (μ : Int32 → Hp → Nat) (hs : ∀ (x4 : Int32) (h : Hp), I x4 h → ∀ K : Int32 → Hp → Prop, (∀ (x4' : Int32) (h' : Hp), I x4' h' → μ x4' h' < μ x4 h → K x4' h') → fX12_wrongIn_8 a0 x1 x2 x3 Q K x4 h) : ∀ (x4 : Int32) (h : Hp), I x4 h → eX12_wrongIn_8 a0 x1 x2 x3 Q x4 h := fun x4 h hI => lp_ind (fun s => I s.1 s.2) (fun s => μ s.1 s.2) (fun s hs' K hK => hs s.1 s.2 hs' _ (fun x4' h' h1 h2 => hK (x4', h') h1 h2)) (x4, h) hI
set_option maxRecDepth 20000 in
theorem tX12_wrongIn_8 {G : GG} {X : XX} {a0 : Nat} {x1 : Int32} {x2 : Int32} {x3 : Int32} {x4 : Int32} {h : Hp}  {Q : Int32 → Hp → Prop} (C : Cx G RX12 cX12_wrongIn 7 (some .int) 2 0 0 X) (k0 : kd a0 = 12) (hw : eX12_wrongIn_8 a0 x1 x2 x3 Q x4 h) : R0 G X 0 0 (ZM G (fun r h' => ∃ v, r = some (.int v) ∧ Q v h') X) 8 [some (.ref (G.1 a0)), some (.int x1), some (.int x2), some (.int x3), some (.int x4), none, none] [] h := by
  obtain ⟨N, hw⟩ := hw
  induction N generalizing x4 h with
  | zero => exact hw.elim
  | succ N ih =>
    obtain ⟨K8, eK⟩ : ∃ K : Int32 → Hp → Prop, K = (fun x4 h => lpN (fun (K : Int32 × Hp → Prop) (s : Int32 × Hp) => fX12_wrongIn_8 a0 x1 x2 x3 Q (fun x4 h => K (x4, h)) s.1 s.2) N (x4, h)) := ⟨_, rfl⟩
    have hw : fX12_wrongIn_8 a0 x1 x2 x3 Q (fun x4 h => lpN (fun (K : Int32 × Hp → Prop) (s : Int32 × Hp) => fX12_wrongIn_8 a0 x1 x2 x3 Q (fun x4 h => K (x4, h)) s.1 s.2) N (x4, h)) x4 h := hw
    have hK8 : ∀ (x4 : Int32) (h : Hp), K8 x4 h → R0 G X 0 0 (ZM G (fun r h' => ∃ v, r = some (.int v) ∧ Q v h') X) 8 [some (.ref (G.1 a0)), some (.int x1), some (.int x2), some (.int x3), some (.int x4), none, none] [] h := fun x4 h q => ih (by rw [eK] at q; exact q)
    rw [← eK] at hw
    clear eK ih
    unfold fX12_wrongIn_8 at hw
    refine r_iconst (2) C dX12_wrongIn_8 (by decide) ?_
    refine r_iload C dX12_wrongIn_9 rfl ?_
    refine r_imul C dX12_wrongIn_11 ?_
    refine r_aload_n C dX12_wrongIn_12 rfl ?_
    refine gX12_97 C (k0) dX12_wrongIn_13 ?_
    refine r_iload_n C dX12_wrongIn_16 rfl ?_
    obtain ⟨hi1, hw⟩ := hw
    refine r_iald C (kr12_53 (k0)) hi1 dX12_wrongIn_17 ?_
    refine r_icmp_ge 155 C dX12_wrongIn_18 (by decide) (fun hc => ?_) (fun hc => ?_)
    · replace hw := it_t hc hw
      refine r_iconst (-1) C dX12_wrongIn_155 (by decide) ?_
      exact r_iret C dX12_wrongIn_156 ⟨_, rfl, hw⟩
    · replace hw := it_f hc hw
      refine r_iconst (2) C dX12_wrongIn_21 (by decide) ?_
      refine r_iload C dX12_wrongIn_22 rfl ?_
      refine r_imul C dX12_wrongIn_24 ?_
      refine r_iconst (1) C dX12_wrongIn_25 (by decide) ?_
      refine r_iadd C dX12_wrongIn_26 ?_
      refine r_aload_n C dX12_wrongIn_27 rfl ?_
      refine gX12_97 C (k0) dX12_wrongIn_28 ?_
      refine r_iload_n C dX12_wrongIn_31 rfl ?_
      obtain ⟨hi2, hw⟩ := hw
      refine r_iald C (kr12_53 (k0)) hi2 dX12_wrongIn_32 ?_
      refine r_icmp_lt 39 C dX12_wrongIn_33 (by decide) (fun hc => ?_) (fun hc => ?_)
      · replace hw := it_t hc hw
        refine r_aload_n C dX12_wrongIn_39 rfl ?_
        refine gX12_100 C (k0) dX12_wrongIn_40 ?_
        refine r_bipush (60) C dX12_wrongIn_43 (by decide) ?_
        refine r_iload_n C dX12_wrongIn_45 rfl ?_
        refine r_imul C dX12_wrongIn_46 ?_
        refine r_iconst (2) C dX12_wrongIn_47 (by decide) ?_
        refine r_iload C dX12_wrongIn_48 rfl ?_
        refine r_imul C dX12_wrongIn_50 ?_
        refine r_iadd C dX12_wrongIn_51 ?_
        obtain ⟨hi3, hw⟩ := hw
        refine r_lald C (kr12_54 (k0)) hi3 dX12_wrongIn_52 ?_
        refine r_l2i C dX12_wrongIn_53 ?_
        refine r_topi (fun v4 ev4 => ?_)
        replace hw := hw v4 ev4
        refine r_istore [some (.ref (G.1 a0)), some (.int x1), some (.int x2), some (.int x3), some (.int x4), some (.int v4), none] C dX12_wrongIn_54 (Nat.le_of_ble_eq_true rfl) rfl rfl ?_
        refine r_aload_n C dX12_wrongIn_56 rfl ?_
        refine gX12_100 C (k0) dX12_wrongIn_57 ?_
        refine r_bipush (60) C dX12_wrongIn_60 (by decide) ?_
        refine r_iload_n C dX12_wrongIn_62 rfl ?_
        refine r_imul C dX12_wrongIn_63 ?_
        refine r_iconst (2) C dX12_wrongIn_64 (by decide) ?_
        refine r_iload C dX12_wrongIn_65 rfl ?_
        refine r_imul C dX12_wrongIn_67 ?_
        refine r_iadd C dX12_wrongIn_68 ?_
        refine r_iconst (1) C dX12_wrongIn_69 (by decide) ?_
        refine r_iadd C dX12_wrongIn_70 ?_
        obtain ⟨hi5, hw⟩ := hw
        refine r_lald C (kr12_54 (k0)) hi5 dX12_wrongIn_71 ?_
        refine r_l2i C dX12_wrongIn_72 ?_
        refine r_topi (fun v6 ev6 => ?_)
        replace hw := hw v6 ev6
        refine r_istore [some (.ref (G.1 a0)), some (.int x1), some (.int x2), some (.int x3), some (.int x4), some (.int v4), some (.int v6)] C dX12_wrongIn_73 (Nat.le_of_ble_eq_true rfl) rfl rfl ?_
        refine r_iload C dX12_wrongIn_75 rfl ?_
        refine r_iload_n C dX12_wrongIn_77 rfl ?_
        refine r_icmp_ne 86 C dX12_wrongIn_78 (by decide) (fun hc => ?_) (fun hc => ?_)
        · replace hw := it_f hc hw
          exact tX12_wrongIn_86 C (k0) hK8 hw
        · replace hw := it_t hc hw
          refine r_iload C dX12_wrongIn_81 rfl ?_
          refine r_ineg C dX12_wrongIn_83 ?_
          refine r_topi (fun v7 ev7 => ?_)
          replace hw := hw v7 ev7
          refine r_istore [some (.ref (G.1 a0)), some (.int x1), some (.int x2), some (.int x3), some (.int x4), some (.int v4), some (.int v7)] C dX12_wrongIn_84 (Nat.le_of_ble_eq_true rfl) rfl rfl ?_
          exact tX12_wrongIn_86 C (k0) hK8 hw
      · replace hw := it_f hc hw
        refine r_iload C dX12_wrongIn_36 rfl ?_
        exact r_iret C dX12_wrongIn_38 ⟨_, rfl, hw⟩
def wX12_wrongIn (a0 : Nat) (x1 : Int32) (x2 : Int32) (x3 : Int32) (h : Hp) (Q : Int32 → Hp → Prop) : Prop :=
  ∀ h1 : Hp, h1 = sI h a0 41 x2 → (eX12_wrongIn_8 a0 x1 x2 x3 Q (0 : Int32) h1)
set_option maxRecDepth 20000 in
theorem sX12_wrongIn {G : GG} {a0 : Nat} {x1 : Int32} {x2 : Int32} {x3 : Int32} {h : Hp} {Q : Int32 → Hp → Prop} (k0 : kd a0 = 12) (hw : wX12_wrongIn a0 x1 x2 x3 h Q) : CI G 2 yX12_wrongIn cX12_wrongIn 7 (some .int) [.ref (G.1 a0), .int x1, .int x2, .int x3] h Q := by
  refine CO_of [some (.ref (G.1 a0)), some (.int x1), some (.int x2), some (.int x3), none, none, none] (by decide) (Nat.le_of_ble_eq_true rfl) rfl (fun X C => ?_)
  unfold wX12_wrongIn at hw
  refine r_aload_n C dX12_wrongIn_0 rfl ?_
  refine r_iload_n C dX12_wrongIn_1 rfl ?_
  refine pX12_340 C (k0) dX12_wrongIn_2 ?_
  refine r_toph (fun h1 eh1 => ?_)
  replace hw := hw h1 eh1
  refine r_iconst (0) C dX12_wrongIn_5 (by decide) ?_
  refine r_istore [some (.ref (G.1 a0)), some (.int x1), some (.int x2), some (.int x3), some (.int (0 : Int32)), none, none] C dX12_wrongIn_6 (Nat.le_of_ble_eq_true rfl) rfl rfl ?_
  exact tX12_wrongIn_8 C (k0) hw
def wX12_bookFault (a0 : Nat) (x1 : Int32) (h : Hp) (Q : Int32 → Prop) : Prop :=
  vp_in x1 (ln (rf a0 52)) ∧ (if (gI h (rf a0 52) x1.toNatClampNeg) = (-1 : Int32) then (Q (-11 : Int32)) else (vp_in x1 (ln (rf a0 52)) ∧ (if (gI h (rf a0 52) x1.toNatClampNeg) = (-2 : Int32) then (Q (0 : Int32)) else (Q (-12 : Int32)))))
set_option maxRecDepth 20000 in
theorem sX12_bookFault {G : GG} {a0 : Nat} {x1 : Int32} {h : Hp} {Q : Int32 → Prop} (k0 : kd a0 = 12) (hw : wX12_bookFault a0 x1 h Q) : PI G 0 yX12_bookFault cX12_bookFault 2 (some .int) [.ref (G.1 a0), .int x1] h Q := by
  refine CO_of [some (.ref (G.1 a0)), some (.int x1)] (by decide) (Nat.le_of_ble_eq_true rfl) rfl (fun X C => ?_)
  unfold wX12_bookFault at hw
  refine r_aload_n C dX12_bookFault_0 rfl ?_
  refine gX12_94 C (k0) dX12_bookFault_1 ?_
  refine r_iload_n C dX12_bookFault_4 rfl ?_
  obtain ⟨hi1, hw⟩ := hw
  refine r_iald C (kr12_52 (k0)) hi1 dX12_bookFault_5 ?_
  refine r_iconst (-1) C dX12_bookFault_6 (by decide) ?_
  refine r_icmp_ne 15 C dX12_bookFault_7 (by decide) (fun hc => ?_) (fun hc => ?_)
  · replace hw := it_f hc hw
    refine r_aload_n C dX12_bookFault_15 rfl ?_
    refine gX12_94 C (k0) dX12_bookFault_16 ?_
    refine r_iload_n C dX12_bookFault_19 rfl ?_
    obtain ⟨hi2, hw⟩ := hw
    refine r_iald C (kr12_52 (k0)) hi2 dX12_bookFault_20 ?_
    refine r_bipush (-2) C dX12_bookFault_21 (by decide) ?_
    refine r_icmp_ne 30 C dX12_bookFault_23 (by decide) (fun hc => ?_) (fun hc => ?_)
    · replace hw := it_f hc hw
      refine r_bipush (-12) C dX12_bookFault_30 (by decide) ?_
      exact r_iret C dX12_bookFault_32 ⟨_, rfl, rfl, hw⟩
    · replace hw := it_t hc hw
      refine r_iconst (0) C dX12_bookFault_26 (by decide) ?_
      refine r_goto 32 C dX12_bookFault_27 (by decide) ?_
      exact r_iret C dX12_bookFault_32 ⟨_, rfl, rfl, hw⟩
  · replace hw := it_t hc hw
    refine r_bipush (-11) C dX12_bookFault_10 (by decide) ?_
    refine r_goto 32 C dX12_bookFault_12 (by decide) ?_
    exact r_iret C dX12_bookFault_32 ⟨_, rfl, rfl, hw⟩
def wX12_judge (a0 : Nat) (x1 : Int32) (x2 : Int32) (h : Hp) (Q : Int32 → Hp → Prop) : Prop :=
  wX12_isShelf x1 h (fun v1 => if v1 = 0 then (Q (-1 : Int32) h) else (wX12_in x2 (0 : Int32) (40 : Int32) h (fun v2 => if v2 = 0 then (Q (-1 : Int32) h) else (wX12_bookFault a0 x1 h (fun v3 => if 0 ≤ v3 then (wX12_wrongIn a0 x1 x2 (-1 : Int32) h (fun v4 h5 => if 0 ≤ v4 then (Q v4 h5) else (Q (-2 : Int32) h5))) else (wX12_bookFault a0 x1 h (fun v6 => Q v6 h)))))))
set_option maxRecDepth 20000 in
theorem sX12_judge {G : GG} {a0 : Nat} {x1 : Int32} {x2 : Int32} {h : Hp} {Q : Int32 → Hp → Prop} (k0 : kd a0 = 12) (hw : wX12_judge a0 x1 x2 h Q) : CI G 3 yX12_judge cX12_judge 4 (some .int) [.ref (G.1 a0), .int x1, .int x2] h Q := by
  refine CO_of [some (.ref (G.1 a0)), some (.int x1), some (.int x2), none] (by decide) (Nat.le_of_ble_eq_true rfl) rfl (fun X C => ?_)
  unfold wX12_judge at hw
  refine r_iload_n C dX12_judge_0 rfl ?_
  refine kX12_132 C (sX12_isShelf hw) dX12_judge_1 (Nat.le_of_ble_eq_true rfl) rfl (Nat.le_of_ble_eq_true rfl) (fun v1 hw => ?_)
  refine r_if_eq 17 C dX12_judge_4 (by decide) (fun hc => ?_) (fun hc => ?_)
  · replace hw := it_t hc hw
    refine r_iconst (-1) C dX12_judge_17 (by decide) ?_
    exact r_iret C dX12_judge_18 ⟨_, rfl, hw⟩
  · replace hw := it_f hc hw
    refine r_iload_n C dX12_judge_7 rfl ?_
    refine r_iconst (0) C dX12_judge_8 (by decide) ?_
    refine r_bipush (40) C dX12_judge_9 (by decide) ?_
    refine kX12_114 C (sX12_in hw) dX12_judge_11 (Nat.le_of_ble_eq_true rfl) rfl (Nat.le_of_ble_eq_true rfl) (fun v2 hw => ?_)
    refine r_if_ne 19 C dX12_judge_14 (by decide) (fun hc => ?_) (fun hc => ?_)
    · replace hw := it_f hc hw
      refine r_aload_n C dX12_judge_19 rfl ?_
      refine r_iload_n C dX12_judge_20 rfl ?_
      refine kX12_343 C (k0) (sX12_bookFault (k0) hw) dX12_judge_21 (Nat.le_of_ble_eq_true rfl) rfl (Nat.le_of_ble_eq_true rfl) (fun v3 hw => ?_)
      refine r_if_ge 33 C dX12_judge_24 (by decide) (fun hc => ?_) (fun hc => ?_)
      · replace hw := it_t hc hw
        refine r_aload_n C dX12_judge_33 rfl ?_
        refine r_iload_n C dX12_judge_34 rfl ?_
        refine r_iload_n C dX12_judge_35 rfl ?_
        refine r_iconst (-1) C dX12_judge_36 (by decide) ?_
        refine kX12_346 C (k0) (sX12_wrongIn (k0) hw) dX12_judge_37 (Nat.le_of_ble_eq_true rfl) rfl (Nat.le_of_ble_eq_true rfl) (fun v4 h5 hw => ?_)
        refine r_istore_n [some (.ref (G.1 a0)), some (.int x1), some (.int x2), some (.int v4)] C dX12_judge_40 (Nat.le_of_ble_eq_true rfl) rfl rfl ?_
        refine r_iload_n C dX12_judge_41 rfl ?_
        refine r_if_ge 50 C dX12_judge_42 (by decide) (fun hc => ?_) (fun hc => ?_)
        · replace hw := it_t hc hw
          refine r_iload_n C dX12_judge_50 rfl ?_
          exact r_iret C dX12_judge_51 ⟨_, rfl, hw⟩
        · replace hw := it_f hc hw
          refine r_bipush (-2) C dX12_judge_45 (by decide) ?_
          refine r_goto 51 C dX12_judge_47 (by decide) ?_
          exact r_iret C dX12_judge_51 ⟨_, rfl, hw⟩
      · replace hw := it_f hc hw
        refine r_aload_n C dX12_judge_27 rfl ?_
        refine r_iload_n C dX12_judge_28 rfl ?_
        refine kX12_343 C (k0) (sX12_bookFault (k0) hw) dX12_judge_29 (Nat.le_of_ble_eq_true rfl) rfl (Nat.le_of_ble_eq_true rfl) (fun v6 hw => ?_)
        exact r_iret C dX12_judge_32 ⟨_, rfl, hw⟩
    · replace hw := it_t hc hw
      refine r_iconst (-1) C dX12_judge_17 (by decide) ?_
      exact r_iret C dX12_judge_18 ⟨_, rfl, hw⟩
def wX12_within (a0 : Nat) (x1 : Int32) (x2 : Int32) (h : Hp) (Q : Int32 → Hp → Prop) : Prop :=
  wX12_isShelf x1 h (fun v1 => if v1 = 0 then (Q (-1 : Int32) h) else (wX12_in x2 (0 : Int32) (40 : Int32) h (fun v2 => if v2 = 0 then (Q (-1 : Int32) h) else (wX12_bookFault a0 x1 h (fun v3 => if 0 ≤ v3 then (wX12_wrongIn a0 x1 x2 (-1 : Int32) h (fun v4 h5 => if 0 ≤ v4 then (Q (-5 : Int32) h5) else (Q (gI h5 a0 41) h5))) else (wX12_bookFault a0 x1 h (fun v6 => Q v6 h)))))))
set_option maxRecDepth 20000 in
theorem sX12_within {G : GG} {a0 : Nat} {x1 : Int32} {x2 : Int32} {h : Hp} {Q : Int32 → Hp → Prop} (k0 : kd a0 = 12) (hw : wX12_within a0 x1 x2 h Q) : CI G 3 yX12_within cX12_within 3 (some .int) [.ref (G.1 a0), .int x1, .int x2] h Q := by
  refine CO_of [some (.ref (G.1 a0)), some (.int x1), some (.int x2)] (by decide) (Nat.le_of_ble_eq_true rfl) rfl (fun X C => ?_)
  unfold wX12_within at hw
  refine r_iload_n C dX12_within_0 rfl ?_
  refine kX12_132 C (sX12_isShelf hw) dX12_within_1 (Nat.le_of_ble_eq_true rfl) rfl (Nat.le_of_ble_eq_true rfl) (fun v1 hw => ?_)
  refine r_if_eq 17 C dX12_within_4 (by decide) (fun hc => ?_) (fun hc => ?_)
  · replace hw := it_t hc hw
    refine r_iconst (-1) C dX12_within_17 (by decide) ?_
    exact r_iret C dX12_within_18 ⟨_, rfl, hw⟩
  · replace hw := it_f hc hw
    refine r_iload_n C dX12_within_7 rfl ?_
    refine r_iconst (0) C dX12_within_8 (by decide) ?_
    refine r_bipush (40) C dX12_within_9 (by decide) ?_
    refine kX12_114 C (sX12_in hw) dX12_within_11 (Nat.le_of_ble_eq_true rfl) rfl (Nat.le_of_ble_eq_true rfl) (fun v2 hw => ?_)
    refine r_if_ne 19 C dX12_within_14 (by decide) (fun hc => ?_) (fun hc => ?_)
    · replace hw := it_f hc hw
      refine r_aload_n C dX12_within_19 rfl ?_
      refine r_iload_n C dX12_within_20 rfl ?_
      refine kX12_343 C (k0) (sX12_bookFault (k0) hw) dX12_within_21 (Nat.le_of_ble_eq_true rfl) rfl (Nat.le_of_ble_eq_true rfl) (fun v3 hw => ?_)
      refine r_if_ge 33 C dX12_within_24 (by decide) (fun hc => ?_) (fun hc => ?_)
      · replace hw := it_t hc hw
        refine r_aload_n C dX12_within_33 rfl ?_
        refine r_iload_n C dX12_within_34 rfl ?_
        refine r_iload_n C dX12_within_35 rfl ?_
        refine r_iconst (-1) C dX12_within_36 (by decide) ?_
        refine kX12_346 C (k0) (sX12_wrongIn (k0) hw) dX12_within_37 (Nat.le_of_ble_eq_true rfl) rfl (Nat.le_of_ble_eq_true rfl) (fun v4 h5 hw => ?_)
        refine r_if_ge 50 C dX12_within_40 (by decide) (fun hc => ?_) (fun hc => ?_)
        · replace hw := it_t hc hw
          refine r_bipush (-5) C dX12_within_50 (by decide) ?_
          exact r_iret C dX12_within_52 ⟨_, rfl, hw⟩
        · replace hw := it_f hc hw
          refine r_aload_n C dX12_within_43 rfl ?_
          refine gX12_340 C (k0) dX12_within_44 ?_
          refine r_goto 52 C dX12_within_47 (by decide) ?_
          exact r_iret C dX12_within_52 ⟨_, rfl, hw⟩
      · replace hw := it_f hc hw
        refine r_aload_n C dX12_within_27 rfl ?_
        refine r_iload_n C dX12_within_28 rfl ?_
        refine kX12_343 C (k0) (sX12_bookFault (k0) hw) dX12_within_29 (Nat.le_of_ble_eq_true rfl) rfl (Nat.le_of_ble_eq_true rfl) (fun v6 hw => ?_)
        exact r_iret C dX12_within_32 ⟨_, rfl, hw⟩
    · replace hw := it_t hc hw
      refine r_iconst (-1) C dX12_within_17 (by decide) ?_
      exact r_iret C dX12_within_18 ⟨_, rfl, hw⟩
def fX12_turned_59 (a0 : Nat) (x1 : Int32) (x2 : Int32) (x3 : Int32) (Q : Int32 → Hp → Prop) (K59 : Int32 → Int32 → Int32 → Hp → Prop) (x4 : Int32) (x5 : Int32) (x6 : Int32) (h : Hp) : Prop :=
  if x6 < 0 then (if x3 = 0 then (Q x4 h) else (Q x5 h)) else (wX12_wrongIn a0 x1 (rm x2 (100 : Int32)) x6 h (fun v1 h2 => if 0 ≤ v1 then (∀ v3 : Int32, v3 = x6 + (-1 : Int32) → (K59 x4 x5 v3 h2)) else (if (gI h2 a0 41) = (x2 / (100 : Int32)) then (∀ v4 : Int32, v4 = x4 + (1 : Int32) → (∀ v5 : Int32, v5 = x6 + (-1 : Int32) → (K59 v4 x6 v5 h2))) else (∀ v6 : Int32, v6 = x6 + (-1 : Int32) → (K59 x4 x5 v6 h2)))))
def eX12_turned_59 (a0 : Nat) (x1 : Int32) (x2 : Int32) (x3 : Int32) (Q : Int32 → Hp → Prop) (x4 : Int32) (x5 : Int32) (x6 : Int32) (h : Hp) : Prop := ∃ N, lpN (fun (K : Int32 × Int32 × Int32 × Hp → Prop) (s : Int32 × Int32 × Int32 × Hp) => fX12_turned_59 a0 x1 x2 x3 Q (fun x4 x5 x6 h => K (x4, x5, x6, h)) s.1 s.2.1 s.2.2.1 s.2.2.2) N (x4, x5, x6, h)
theorem iX12_turned_59 {a0 : Nat} {x1 : Int32} {x2 : Int32} {x3 : Int32} {Q : Int32 → Hp → Prop} (I : Int32 → Int32 → Int32 → Hp → Prop) (μ : Int32 → Int32 → Int32 → Hp → Nat) (hs : ∀ (x4 : Int32) (x5 : Int32) (x6 : Int32) (h : Hp), I x4 x5 x6 h → ∀ K : Int32 → Int32 → Int32 → Hp → Prop, (∀ (x4' : Int32) (x5' : Int32) (x6' : Int32) (h' : Hp), I x4' x5' x6' h' → μ x4' x5' x6' h' < μ x4 x5 x6 h → K x4' x5' x6' h') → fX12_turned_59 a0 x1 x2 x3 Q K x4 x5 x6 h) : ∀ (x4 : Int32) (x5 : Int32) (x6 : Int32) (h : Hp), I x4 x5 x6 h → eX12_turned_59 a0 x1 x2 x3 Q x4 x5 x6 h := fun x4 x5 x6 h hI => lp_ind (fun s => I s.1 s.2.1 s.2.2.1 s.2.2.2) (fun s => μ s.1 s.2.1 s.2.2.1 s.2.2.2) (fun s hs' K hK => hs s.1 s.2.1 s.2.2.1 s.2.2.2 hs' _ (fun x4' x5' x6' h' h1 h2 => hK (x4', x5', x6', h') h1 h2)) (x4, x5, x6, h) hI
set_option maxRecDepth 20000 in
theorem tX12_turned_59 {G : GG} {X : XX} {a0 : Nat} {x1 : Int32} {x2 : Int32} {x3 : Int32} {x4 : Int32} {x5 : Int32} {x6 : Int32} {h : Hp}  {Q : Int32 → Hp → Prop} (C : Cx G RX12 cX12_turned 7 (some .int) 3 0 0 X) (k0 : kd a0 = 12) (hw : eX12_turned_59 a0 x1 x2 x3 Q x4 x5 x6 h) : R0 G X 0 0 (ZM G (fun r h' => ∃ v, r = some (.int v) ∧ Q v h') X) 59 [some (.ref (G.1 a0)), some (.int x1), some (.int x2), some (.int x3), some (.int x4), some (.int x5), some (.int x6)] [] h := by
  obtain ⟨N, hw⟩ := hw
  induction N generalizing x4 x5 x6 h with
  | zero => exact hw.elim
  | succ N ih =>
    obtain ⟨K59, eK⟩ : ∃ K : Int32 → Int32 → Int32 → Hp → Prop, K = (fun x4 x5 x6 h => lpN (fun (K : Int32 × Int32 × Int32 × Hp → Prop) (s : Int32 × Int32 × Int32 × Hp) => fX12_turned_59 a0 x1 x2 x3 Q (fun x4 x5 x6 h => K (x4, x5, x6, h)) s.1 s.2.1 s.2.2.1 s.2.2.2) N (x4, x5, x6, h)) := ⟨_, rfl⟩
    have hw : fX12_turned_59 a0 x1 x2 x3 Q (fun x4 x5 x6 h => lpN (fun (K : Int32 × Int32 × Int32 × Hp → Prop) (s : Int32 × Int32 × Int32 × Hp) => fX12_turned_59 a0 x1 x2 x3 Q (fun x4 x5 x6 h => K (x4, x5, x6, h)) s.1 s.2.1 s.2.2.1 s.2.2.2) N (x4, x5, x6, h)) x4 x5 x6 h := hw
    have hK59 : ∀ (x4 : Int32) (x5 : Int32) (x6 : Int32) (h : Hp), K59 x4 x5 x6 h → R0 G X 0 0 (ZM G (fun r h' => ∃ v, r = some (.int v) ∧ Q v h') X) 59 [some (.ref (G.1 a0)), some (.int x1), some (.int x2), some (.int x3), some (.int x4), some (.int x5), some (.int x6)] [] h := fun x4 x5 x6 h q => ih (by rw [eK] at q; exact q)
    rw [← eK] at hw
    clear eK ih
    unfold fX12_turned_59 at hw
    refine r_iload C dX12_turned_59 rfl ?_
    refine r_if_lt 105 C dX12_turned_61 (by decide) (fun hc => ?_) (fun hc => ?_)
    · replace hw := it_t hc hw
      refine r_iload_n C dX12_turned_105 rfl ?_
      refine r_if_ne 114 C dX12_turned_106 (by decide) (fun hc => ?_) (fun hc => ?_)
      · replace hw := it_f hc hw
        refine r_iload C dX12_turned_114 rfl ?_
        exact r_iret C dX12_turned_116 ⟨_, rfl, hw⟩
      · replace hw := it_t hc hw
        refine r_iload C dX12_turned_109 rfl ?_
        refine r_goto 116 C dX12_turned_111 (by decide) ?_
        exact r_iret C dX12_turned_116 ⟨_, rfl, hw⟩
    · replace hw := it_f hc hw
      refine r_aload_n C dX12_turned_64 rfl ?_
      refine r_iload_n C dX12_turned_65 rfl ?_
      refine r_iload_n C dX12_turned_66 rfl ?_
      refine r_bipush (100) C dX12_turned_67 (by decide) ?_
      refine r_irem C dX12_turned_69 (by decide) ?_
      refine r_iload C dX12_turned_70 rfl ?_
      refine kX12_346 C (k0) (sX12_wrongIn (k0) hw) dX12_turned_72 (Nat.le_of_ble_eq_true rfl) rfl (Nat.le_of_ble_eq_true rfl) (fun v1 h2 hw => ?_)
      refine r_if_ge 99 C dX12_turned_75 (by decide) (fun hc => ?_) (fun hc => ?_)
      · replace hw := it_t hc hw
        obtain ⟨v3, ev3⟩ : ∃ v : Int32, v = x6 + (-1 : Int32) := ⟨_, rfl⟩
        replace hw := hw v3 ev3
        refine r_iinc v3 [some (.ref (G.1 a0)), some (.int x1), some (.int x2), some (.int x3), some (.int x4), some (.int x5), some (.int v3)] C dX12_turned_99 rfl (by rw [ev3]; rfl) rfl rfl ?_
        refine r_goto 59 C dX12_turned_102 (by decide) ?_
        exact hK59 _ _ _ _ hw
      · replace hw := it_f hc hw
        refine r_aload_n C dX12_turned_78 rfl ?_
        refine gX12_340 C (k0) dX12_turned_79 ?_
        refine r_iload_n C dX12_turned_82 rfl ?_
        refine r_bipush (100) C dX12_turned_83 (by decide) ?_
        refine r_idiv C dX12_turned_85 (by decide) ?_
        refine r_icmp_eq 92 C dX12_turned_86 (by decide) (fun hc => ?_) (fun hc => ?_)
        · replace hw := it_t hc hw
          obtain ⟨v4, ev4⟩ : ∃ v : Int32, v = x4 + (1 : Int32) := ⟨_, rfl⟩
          replace hw := hw v4 ev4
          refine r_iinc v4 [some (.ref (G.1 a0)), some (.int x1), some (.int x2), some (.int x3), some (.int v4), some (.int x5), some (.int x6)] C dX12_turned_92 rfl (by rw [ev4]; rfl) rfl rfl ?_
          refine r_iload C dX12_turned_95 rfl ?_
          refine r_istore [some (.ref (G.1 a0)), some (.int x1), some (.int x2), some (.int x3), some (.int v4), some (.int x6), some (.int x6)] C dX12_turned_97 (Nat.le_of_ble_eq_true rfl) rfl rfl ?_
          obtain ⟨v5, ev5⟩ : ∃ v : Int32, v = x6 + (-1 : Int32) := ⟨_, rfl⟩
          replace hw := hw v5 ev5
          refine r_iinc v5 [some (.ref (G.1 a0)), some (.int x1), some (.int x2), some (.int x3), some (.int v4), some (.int x6), some (.int v5)] C dX12_turned_99 rfl (by rw [ev5]; rfl) rfl rfl ?_
          refine r_goto 59 C dX12_turned_102 (by decide) ?_
          exact hK59 _ _ _ _ hw
        · replace hw := it_f hc hw
          refine r_goto 99 C dX12_turned_89 (by decide) ?_
          obtain ⟨v6, ev6⟩ : ∃ v : Int32, v = x6 + (-1 : Int32) := ⟨_, rfl⟩
          replace hw := hw v6 ev6
          refine r_iinc v6 [some (.ref (G.1 a0)), some (.int x1), some (.int x2), some (.int x3), some (.int x4), some (.int x5), some (.int v6)] C dX12_turned_99 rfl (by rw [ev6]; rfl) rfl rfl ?_
          refine r_goto 59 C dX12_turned_102 (by decide) ?_
          exact hK59 _ _ _ _ hw
def wX12_turned (a0 : Nat) (x1 : Int32) (x2 : Int32) (x3 : Int32) (h : Hp) (Q : Int32 → Hp → Prop) : Prop :=
  wX12_isShelf x1 h (fun v1 => if v1 = 0 then (Q (-1 : Int32) h) else (wX12_isCounts a0 x2 h (fun v2 => if v2 = 0 then (Q (-1 : Int32) h) else (wX12_in x3 (0 : Int32) (1 : Int32) h (fun v3 => if v3 = 0 then (Q (-1 : Int32) h) else (wX12_bookFault a0 x1 h (fun v4 => if 0 ≤ v4 then (vp_in x1 (ln (rf a0 53)) ∧ (∀ v6 : Int32, v6 = (((gI h (rf a0 53) x1.toNatClampNeg) / (2 : Int32)) - (1 : Int32)) → (eX12_turned_59 a0 x1 x2 x3 Q (0 : Int32) (-2 : Int32) v6 h))) else (wX12_bookFault a0 x1 h (fun v7 => Q v7 h)))))))))
set_option maxRecDepth 20000 in
theorem sX12_turned {G : GG} {a0 : Nat} {x1 : Int32} {x2 : Int32} {x3 : Int32} {h : Hp} {Q : Int32 → Hp → Prop} (k0 : kd a0 = 12) (hw : wX12_turned a0 x1 x2 x3 h Q) : CI G 3 yX12_turned cX12_turned 7 (some .int) [.ref (G.1 a0), .int x1, .int x2, .int x3] h Q := by
  refine CO_of [some (.ref (G.1 a0)), some (.int x1), some (.int x2), some (.int x3), none, none, none] (by decide) (Nat.le_of_ble_eq_true rfl) rfl (fun X C => ?_)
  unfold wX12_turned at hw
  refine r_iload_n C dX12_turned_0 rfl ?_
  refine kX12_132 C (sX12_isShelf hw) dX12_turned_1 (Nat.le_of_ble_eq_true rfl) rfl (Nat.le_of_ble_eq_true rfl) (fun v1 hw => ?_)
  refine r_if_eq 24 C dX12_turned_4 (by decide) (fun hc => ?_) (fun hc => ?_)
  · replace hw := it_t hc hw
    refine r_iconst (-1) C dX12_turned_24 (by decide) ?_
    exact r_iret C dX12_turned_25 ⟨_, rfl, hw⟩
  · replace hw := it_f hc hw
    refine r_aload_n C dX12_turned_7 rfl ?_
    refine r_iload_n C dX12_turned_8 rfl ?_
    refine kX12_304 C (k0) (sX12_isCounts (k0) hw) dX12_turned_9 (Nat.le_of_ble_eq_true rfl) rfl (Nat.le_of_ble_eq_true rfl) (fun v2 hw => ?_)
    refine r_if_eq 24 C dX12_turned_12 (by decide) (fun hc => ?_) (fun hc => ?_)
    · replace hw := it_t hc hw
      refine r_iconst (-1) C dX12_turned_24 (by decide) ?_
      exact r_iret C dX12_turned_25 ⟨_, rfl, hw⟩
    · replace hw := it_f hc hw
      refine r_iload_n C dX12_turned_15 rfl ?_
      refine r_iconst (0) C dX12_turned_16 (by decide) ?_
      refine r_iconst (1) C dX12_turned_17 (by decide) ?_
      refine kX12_114 C (sX12_in hw) dX12_turned_18 (Nat.le_of_ble_eq_true rfl) rfl (Nat.le_of_ble_eq_true rfl) (fun v3 hw => ?_)
      refine r_if_ne 26 C dX12_turned_21 (by decide) (fun hc => ?_) (fun hc => ?_)
      · replace hw := it_f hc hw
        refine r_aload_n C dX12_turned_26 rfl ?_
        refine r_iload_n C dX12_turned_27 rfl ?_
        refine kX12_343 C (k0) (sX12_bookFault (k0) hw) dX12_turned_28 (Nat.le_of_ble_eq_true rfl) rfl (Nat.le_of_ble_eq_true rfl) (fun v4 hw => ?_)
        refine r_if_ge 40 C dX12_turned_31 (by decide) (fun hc => ?_) (fun hc => ?_)
        · replace hw := it_t hc hw
          refine r_iconst (0) C dX12_turned_40 (by decide) ?_
          refine r_istore [some (.ref (G.1 a0)), some (.int x1), some (.int x2), some (.int x3), some (.int (0 : Int32)), none, none] C dX12_turned_41 (Nat.le_of_ble_eq_true rfl) rfl rfl ?_
          refine r_bipush (-2) C dX12_turned_43 (by decide) ?_
          refine r_istore [some (.ref (G.1 a0)), some (.int x1), some (.int x2), some (.int x3), some (.int (0 : Int32)), some (.int (-2 : Int32)), none] C dX12_turned_45 (Nat.le_of_ble_eq_true rfl) rfl rfl ?_
          refine r_aload_n C dX12_turned_47 rfl ?_
          refine gX12_97 C (k0) dX12_turned_48 ?_
          refine r_iload_n C dX12_turned_51 rfl ?_
          obtain ⟨hi5, hw⟩ := hw
          refine r_iald C (kr12_53 (k0)) hi5 dX12_turned_52 ?_
          refine r_iconst (2) C dX12_turned_53 (by decide) ?_
          refine r_idiv C dX12_turned_54 (by decide) ?_
          refine r_iconst (1) C dX12_turned_55 (by decide) ?_
          refine r_isub C dX12_turned_56 ?_
          refine r_topi (fun v6 ev6 => ?_)
          replace hw := hw v6 ev6
          refine r_istore [some (.ref (G.1 a0)), some (.int x1), some (.int x2), some (.int x3), some (.int (0 : Int32)), some (.int (-2 : Int32)), some (.int v6)] C dX12_turned_57 (Nat.le_of_ble_eq_true rfl) rfl rfl ?_
          exact tX12_turned_59 C (k0) hw
        · replace hw := it_f hc hw
          refine r_aload_n C dX12_turned_34 rfl ?_
          refine r_iload_n C dX12_turned_35 rfl ?_
          refine kX12_343 C (k0) (sX12_bookFault (k0) hw) dX12_turned_36 (Nat.le_of_ble_eq_true rfl) rfl (Nat.le_of_ble_eq_true rfl) (fun v7 hw => ?_)
          exact r_iret C dX12_turned_39 ⟨_, rfl, hw⟩
      · replace hw := it_t hc hw
        refine r_iconst (-1) C dX12_turned_24 (by decide) ?_
        exact r_iret C dX12_turned_25 ⟨_, rfl, hw⟩
def fX12_image_39 (a0 : Nat) (Q : Int32 → Hp → Prop) (K39 : Int32 → Hp → Prop) (x1 : Int32) (h : Hp) : Prop :=
  if (gI h a0 3) ≤ x1 then (Q (gI h a0 7) h) else (vp_in x1 (ln (rf a0 10)) ∧ (vp_in x1 (ln (rf a0 47)) ∧ (∀ h3 : Hp, h3 = sI h (rf a0 47) x1.toNatClampNeg (gI h (rf a0 10) x1.toNatClampNeg) → (∀ v4 : Int32, v4 = x1 + (1 : Int32) → (K39 v4 h3)))))
def eX12_image_39 (a0 : Nat) (Q : Int32 → Hp → Prop) (x1 : Int32) (h : Hp) : Prop := ∃ N, lpN (fun (K : Int32 × Hp → Prop) (s : Int32 × Hp) => fX12_image_39 a0 Q (fun x1 h => K (x1, h)) s.1 s.2) N (x1, h)
theorem iX12_image_39 {a0 : Nat} {Q : Int32 → Hp → Prop} (I : Int32 → Hp → Prop) (μ : Int32 → Hp → Nat) (hs : ∀ (x1 : Int32) (h : Hp), I x1 h → ∀ K : Int32 → Hp → Prop, (∀ (x1' : Int32) (h' : Hp), I x1' h' → μ x1' h' < μ x1 h → K x1' h') → fX12_image_39 a0 Q K x1 h) : ∀ (x1 : Int32) (h : Hp), I x1 h → eX12_image_39 a0 Q x1 h := fun x1 h hI => lp_ind (fun s => I s.1 s.2) (fun s => μ s.1 s.2) (fun s hs' K hK => hs s.1 s.2 hs' _ (fun x1' h' h1 h2 => hK (x1', h') h1 h2)) (x1, h) hI
set_option maxRecDepth 20000 in
theorem tX12_image_39 {G : GG} {X : XX} {a0 : Nat} {x1 : Int32} {h : Hp}  {Q : Int32 → Hp → Prop} (C : Cx G RX12 cX12_image 2 (some .int) 0 0 0 X) (k0 : kd a0 = 12) (hw : eX12_image_39 a0 Q x1 h) : R0 G X 0 0 (ZM G (fun r h' => ∃ v, r = some (.int v) ∧ Q v h') X) 39 [some (.ref (G.1 a0)), some (.int x1)] [] h := by
  obtain ⟨N, hw⟩ := hw
  induction N generalizing x1 h with
  | zero => exact hw.elim
  | succ N ih =>
    obtain ⟨K39, eK⟩ : ∃ K : Int32 → Hp → Prop, K = (fun x1 h => lpN (fun (K : Int32 × Hp → Prop) (s : Int32 × Hp) => fX12_image_39 a0 Q (fun x1 h => K (x1, h)) s.1 s.2) N (x1, h)) := ⟨_, rfl⟩
    have hw : fX12_image_39 a0 Q (fun x1 h => lpN (fun (K : Int32 × Hp → Prop) (s : Int32 × Hp) => fX12_image_39 a0 Q (fun x1 h => K (x1, h)) s.1 s.2) N (x1, h)) x1 h := hw
    have hK39 : ∀ (x1 : Int32) (h : Hp), K39 x1 h → R0 G X 0 0 (ZM G (fun r h' => ∃ v, r = some (.int v) ∧ Q v h') X) 39 [some (.ref (G.1 a0)), some (.int x1)] [] h := fun x1 h q => ih (by rw [eK] at q; exact q)
    rw [← eK] at hw
    clear eK ih
    unfold fX12_image_39 at hw
    refine r_iload_n C dX12_image_39 rfl ?_
    refine r_aload_n C dX12_image_40 rfl ?_
    refine gX12_118 C (k0) dX12_image_41 ?_
    refine r_icmp_ge 65 C dX12_image_44 (by decide) (fun hc => ?_) (fun hc => ?_)
    · replace hw := it_t hc hw
      refine r_aload_n C dX12_image_65 rfl ?_
      refine gX12_246 C (k0) dX12_image_66 ?_
      exact r_iret C dX12_image_69 ⟨_, rfl, hw⟩
    · replace hw := it_f hc hw
      refine r_aload_n C dX12_image_47 rfl ?_
      refine gX12_85 C (k0) dX12_image_48 ?_
      refine r_iload_n C dX12_image_51 rfl ?_
      refine r_aload_n C dX12_image_52 rfl ?_
      refine gX12_22 C (k0) dX12_image_53 ?_
      refine r_iload_n C dX12_image_56 rfl ?_
      obtain ⟨hi1, hw⟩ := hw
      refine r_iald C (kr12_10 (k0)) hi1 dX12_image_57 ?_
      obtain ⟨hi2, hw⟩ := hw
      refine r_iast C (kr12_47 (k0)) hi2 dX12_image_58 ?_
      refine r_toph (fun h3 eh3 => ?_)
      replace hw := hw h3 eh3
      obtain ⟨v4, ev4⟩ : ∃ v : Int32, v = x1 + (1 : Int32) := ⟨_, rfl⟩
      replace hw := hw v4 ev4
      refine r_iinc v4 [some (.ref (G.1 a0)), some (.int v4)] C dX12_image_59 rfl (by rw [ev4]; rfl) rfl rfl ?_
      refine r_goto 39 C dX12_image_62 (by decide) ?_
      exact hK39 _ _ hw
def wX12_image (a0 : Nat) (h : Hp) (Q : Int32 → Hp → Prop) : Prop :=
  ∀ h1 : Hp, h1 = sI h a0 42 (1 : Int32) → (∀ h2 : Hp, h2 = sI h1 a0 43 (gI h1 a0 7) → (∀ h3 : Hp, h3 = sI h2 a0 44 (gI h2 a0 8) → (∀ h4 : Hp, h4 = sI h3 a0 45 (gI h3 a0 9) → (∀ h5 : Hp, h5 = sI h4 a0 46 (gI h4 a0 3) → (eX12_image_39 a0 Q (0 : Int32) h5)))))
set_option maxRecDepth 20000 in
theorem sX12_image {G : GG} {a0 : Nat} {h : Hp} {Q : Int32 → Hp → Prop} (k0 : kd a0 = 12) (hw : wX12_image a0 h Q) : CI G 0 yX12_image cX12_image 2 (some .int) [.ref (G.1 a0)] h Q := by
  refine CO_of [some (.ref (G.1 a0)), none] (by decide) (Nat.le_of_ble_eq_true rfl) rfl (fun X C => ?_)
  unfold wX12_image at hw
  refine r_aload_n C dX12_image_0 rfl ?_
  refine r_iconst (1) C dX12_image_1 (by decide) ?_
  refine pX12_349 C (k0) ⟨rfl, rfl⟩ dX12_image_2 ?_
  refine r_toph (fun h1 eh1 => ?_)
  replace hw := hw h1 eh1
  refine r_aload_n C dX12_image_5 rfl ?_
  refine r_aload_n C dX12_image_6 rfl ?_
  refine gX12_246 C (k0) dX12_image_7 ?_
  refine pX12_353 C (k0) dX12_image_10 ?_
  refine r_toph (fun h2 eh2 => ?_)
  replace hw := hw h2 eh2
  refine r_aload_n C dX12_image_13 rfl ?_
  refine r_aload_n C dX12_image_14 rfl ?_
  refine gX12_240 C (k0) dX12_image_15 ?_
  refine pX12_356 C (k0) dX12_image_18 ?_
  refine r_toph (fun h3 eh3 => ?_)
  replace hw := hw h3 eh3
  refine r_aload_n C dX12_image_21 rfl ?_
  refine r_aload_n C dX12_image_22 rfl ?_
  refine gX12_243 C (k0) dX12_image_23 ?_
  refine pX12_359 C (k0) dX12_image_26 ?_
  refine r_toph (fun h4 eh4 => ?_)
  replace hw := hw h4 eh4
  refine r_aload_n C dX12_image_29 rfl ?_
  refine r_aload_n C dX12_image_30 rfl ?_
  refine gX12_118 C (k0) dX12_image_31 ?_
  refine pX12_362 C (k0) dX12_image_34 ?_
  refine r_toph (fun h5 eh5 => ?_)
  replace hw := hw h5 eh5
  refine r_iconst (0) C dX12_image_37 (by decide) ?_
  refine r_istore_n [some (.ref (G.1 a0)), some (.int (0 : Int32))] C dX12_image_38 (Nat.le_of_ble_eq_true rfl) rfl rfl ?_
  exact tX12_image_39 C (k0) hw
def fX12_back_36 (a0 : Nat) (Q : Int32 → Hp → Prop) (K36 : Int32 → Hp → Prop) (x1 : Int32) (h : Hp) : Prop :=
  if (gI h a0 3) ≤ x1 then (Q (gI h a0 7) h) else (if (gI h a0 46) ≤ x1 then (vp_in x1 (ln (rf a0 10)) ∧ (∀ h2 : Hp, h2 = sI h (rf a0 10) x1.toNatClampNeg (0 : Int32) → (∀ v3 : Int32, v3 = x1 + (1 : Int32) → (K36 v3 h2)))) else (vp_in x1 (ln (rf a0 47)) ∧ (vp_in x1 (ln (rf a0 10)) ∧ (∀ h6 : Hp, h6 = sI h (rf a0 10) x1.toNatClampNeg (gI h (rf a0 47) x1.toNatClampNeg) → (∀ v7 : Int32, v7 = x1 + (1 : Int32) → (K36 v7 h6))))))
def eX12_back_36 (a0 : Nat) (Q : Int32 → Hp → Prop) (x1 : Int32) (h : Hp) : Prop := ∃ N, lpN (fun (K : Int32 × Hp → Prop) (s : Int32 × Hp) => fX12_back_36 a0 Q (fun x1 h => K (x1, h)) s.1 s.2) N (x1, h)
theorem iX12_back_36 {a0 : Nat} {Q : Int32 → Hp → Prop} (I : Int32 → Hp → Prop) (μ : Int32 → Hp → Nat) (hs : ∀ (x1 : Int32) (h : Hp), I x1 h → ∀ K : Int32 → Hp → Prop, (∀ (x1' : Int32) (h' : Hp), I x1' h' → μ x1' h' < μ x1 h → K x1' h') → fX12_back_36 a0 Q K x1 h) : ∀ (x1 : Int32) (h : Hp), I x1 h → eX12_back_36 a0 Q x1 h := fun x1 h hI => lp_ind (fun s => I s.1 s.2) (fun s => μ s.1 s.2) (fun s hs' K hK => hs s.1 s.2 hs' _ (fun x1' h' h1 h2 => hK (x1', h') h1 h2)) (x1, h) hI
set_option maxRecDepth 20000 in
theorem tX12_back_36 {G : GG} {X : XX} {a0 : Nat} {x1 : Int32} {h : Hp}  {Q : Int32 → Hp → Prop} (C : Cx G RX12 cX12_back 2 (some .int) 0 0 0 X) (k0 : kd a0 = 12) (hw : eX12_back_36 a0 Q x1 h) : R0 G X 0 0 (ZM G (fun r h' => ∃ v, r = some (.int v) ∧ Q v h') X) 36 [some (.ref (G.1 a0)), some (.int x1)] [] h := by
  obtain ⟨N, hw⟩ := hw
  induction N generalizing x1 h with
  | zero => exact hw.elim
  | succ N ih =>
    obtain ⟨K36, eK⟩ : ∃ K : Int32 → Hp → Prop, K = (fun x1 h => lpN (fun (K : Int32 × Hp → Prop) (s : Int32 × Hp) => fX12_back_36 a0 Q (fun x1 h => K (x1, h)) s.1 s.2) N (x1, h)) := ⟨_, rfl⟩
    have hw : fX12_back_36 a0 Q (fun x1 h => lpN (fun (K : Int32 × Hp → Prop) (s : Int32 × Hp) => fX12_back_36 a0 Q (fun x1 h => K (x1, h)) s.1 s.2) N (x1, h)) x1 h := hw
    have hK36 : ∀ (x1 : Int32) (h : Hp), K36 x1 h → R0 G X 0 0 (ZM G (fun r h' => ∃ v, r = some (.int v) ∧ Q v h') X) 36 [some (.ref (G.1 a0)), some (.int x1)] [] h := fun x1 h q => ih (by rw [eK] at q; exact q)
    rw [← eK] at hw
    clear eK ih
    unfold fX12_back_36 at hw
    refine r_iload_n C dX12_back_36 rfl ?_
    refine r_aload_n C dX12_back_37 rfl ?_
    refine gX12_118 C (k0) dX12_back_38 ?_
    refine r_icmp_ge 74 C dX12_back_41 (by decide) (fun hc => ?_) (fun hc => ?_)
    · replace hw := it_t hc hw
      refine r_aload_n C dX12_back_74 rfl ?_
      refine gX12_246 C (k0) dX12_back_75 ?_
      exact r_iret C dX12_back_78 ⟨_, rfl, hw⟩
    · replace hw := it_f hc hw
      refine r_aload_n C dX12_back_44 rfl ?_
      refine gX12_22 C (k0) dX12_back_45 ?_
      refine r_iload_n C dX12_back_48 rfl ?_
      refine r_iload_n C dX12_back_49 rfl ?_
      refine r_aload_n C dX12_back_50 rfl ?_
      refine gX12_362 C (k0) dX12_back_51 ?_
      refine r_icmp_ge 66 C dX12_back_54 (by decide) (fun hc => ?_) (fun hc => ?_)
      · replace hw := it_t hc hw
        refine r_iconst (0) C dX12_back_66 (by decide) ?_
        obtain ⟨hi1, hw⟩ := hw
        refine r_iast C (kr12_10 (k0)) hi1 dX12_back_67 ?_
        refine r_toph (fun h2 eh2 => ?_)
        replace hw := hw h2 eh2
        obtain ⟨v3, ev3⟩ : ∃ v : Int32, v = x1 + (1 : Int32) := ⟨_, rfl⟩
        replace hw := hw v3 ev3
        refine r_iinc v3 [some (.ref (G.1 a0)), some (.int v3)] C dX12_back_68 rfl (by rw [ev3]; rfl) rfl rfl ?_
        refine r_goto 36 C dX12_back_71 (by decide) ?_
        exact hK36 _ _ hw
      · replace hw := it_f hc hw
        refine r_aload_n C dX12_back_57 rfl ?_
        refine gX12_85 C (k0) dX12_back_58 ?_
        refine r_iload_n C dX12_back_61 rfl ?_
        obtain ⟨hi4, hw⟩ := hw
        refine r_iald C (kr12_47 (k0)) hi4 dX12_back_62 ?_
        refine r_goto 67 C dX12_back_63 (by decide) ?_
        obtain ⟨hi5, hw⟩ := hw
        refine r_iast C (kr12_10 (k0)) hi5 dX12_back_67 ?_
        refine r_toph (fun h6 eh6 => ?_)
        replace hw := hw h6 eh6
        obtain ⟨v7, ev7⟩ : ∃ v : Int32, v = x1 + (1 : Int32) := ⟨_, rfl⟩
        replace hw := hw v7 ev7
        refine r_iinc v7 [some (.ref (G.1 a0)), some (.int v7)] C dX12_back_68 rfl (by rw [ev7]; rfl) rfl rfl ?_
        refine r_goto 36 C dX12_back_71 (by decide) ?_
        exact hK36 _ _ hw
def wX12_back (a0 : Nat) (h : Hp) (Q : Int32 → Hp → Prop) : Prop :=
  if (gI h a0 42) = 0 then (Q (-5 : Int32) h) else (∀ h1 : Hp, h1 = sI h a0 7 (gI h a0 43) → (∀ h2 : Hp, h2 = sI h1 a0 8 (gI h1 a0 44) → (∀ h3 : Hp, h3 = sI h2 a0 9 (gI h2 a0 45) → (eX12_back_36 a0 Q (0 : Int32) h3))))
set_option maxRecDepth 20000 in
theorem sX12_back {G : GG} {a0 : Nat} {h : Hp} {Q : Int32 → Hp → Prop} (k0 : kd a0 = 12) (hw : wX12_back a0 h Q) : CI G 0 yX12_back cX12_back 2 (some .int) [.ref (G.1 a0)] h Q := by
  refine CO_of [some (.ref (G.1 a0)), none] (by decide) (Nat.le_of_ble_eq_true rfl) rfl (fun X C => ?_)
  unfold wX12_back at hw
  refine r_aload_n C dX12_back_0 rfl ?_
  refine gX12_349 C (k0) dX12_back_1 ?_
  refine r_if_ne 10 C dX12_back_4 (by decide) (fun hc => ?_) (fun hc => ?_)
  · replace hw := it_f hc hw
    refine r_aload_n C dX12_back_10 rfl ?_
    refine r_aload_n C dX12_back_11 rfl ?_
    refine gX12_353 C (k0) dX12_back_12 ?_
    refine pX12_246 C (k0) dX12_back_15 ?_
    refine r_toph (fun h1 eh1 => ?_)
    replace hw := hw h1 eh1
    refine r_aload_n C dX12_back_18 rfl ?_
    refine r_aload_n C dX12_back_19 rfl ?_
    refine gX12_356 C (k0) dX12_back_20 ?_
    refine pX12_240 C (k0) dX12_back_23 ?_
    refine r_toph (fun h2 eh2 => ?_)
    replace hw := hw h2 eh2
    refine r_aload_n C dX12_back_26 rfl ?_
    refine r_aload_n C dX12_back_27 rfl ?_
    refine gX12_359 C (k0) dX12_back_28 ?_
    refine pX12_243 C (k0) dX12_back_31 ?_
    refine r_toph (fun h3 eh3 => ?_)
    replace hw := hw h3 eh3
    refine r_iconst (0) C dX12_back_34 (by decide) ?_
    refine r_istore_n [some (.ref (G.1 a0)), some (.int (0 : Int32))] C dX12_back_35 (Nat.le_of_ble_eq_true rfl) rfl rfl ?_
    exact tX12_back_36 C (k0) hw
  · replace hw := it_t hc hw
    refine r_bipush (-5) C dX12_back_7 (by decide) ?_
    exact r_iret C dX12_back_9 ⟨_, rfl, hw⟩
def wX12_isBody (a0 : Nat) (x1 : Int32) (h : Hp) (Q : Int32 → Prop) : Prop :=
  wX12_in x1 (0 : Int32) ((gI h a0 48) - (1 : Int32)) h (fun v1 => bOK v1 ∧ Q v1)
set_option maxRecDepth 20000 in
theorem sX12_isBody {G : GG} {a0 : Nat} {x1 : Int32} {h : Hp} {Q : Int32 → Prop} (k0 : kd a0 = 12) (hw : wX12_isBody a0 x1 h Q) : PI G 1 yX12_isBody cX12_isBody 2 (some .boolean) [.ref (G.1 a0), .int x1] h Q := by
  refine CO_of [some (.ref (G.1 a0)), some (.int x1)] (by decide) (Nat.le_of_ble_eq_true rfl) rfl (fun X C => ?_)
  unfold wX12_isBody at hw
  refine r_iload_n C dX12_isBody_0 rfl ?_
  refine r_iconst (0) C dX12_isBody_1 (by decide) ?_
  refine r_aload_n C dX12_isBody_2 rfl ?_
  refine gX12_365 C (k0) dX12_isBody_3 ?_
  refine r_iconst (1) C dX12_isBody_6 (by decide) ?_
  refine r_isub C dX12_isBody_7 ?_
  refine kX12_114 C (sX12_in hw) dX12_isBody_8 (Nat.le_of_ble_eq_true rfl) rfl (Nat.le_of_ble_eq_true rfl) (fun v1 hw => ?_)
  exact r_zret C dX12_isBody_11 hw.1 ⟨_, rfl, rfl, hw.2⟩
def jX12_ran_19 (a0 : Nat) (h : Hp) (Q : Hp → Prop) : Prop :=
  ∀ h1 : Hp, h1 = sI h a0 50 ((gI h a0 50) + (1 : Int32)) → (Q h1)
set_option maxRecDepth 20000 in
theorem tX12_ran_19 {G : GG} {X : XX} {a0 : Nat} {h : Hp}  {Q : Hp → Prop} (C : Cx G RX12 cX12_ran 2 none 0 0 0 X) (k0 : kd a0 = 12) (hw : jX12_ran_19 a0 h Q) : R0 G X 0 0 (ZM G (fun r h' => r = none ∧ Q h') X) 19 [some (.ref (G.1 a0)), none] [] h := by
  unfold jX12_ran_19 at hw
  refine r_aload_n C dX12_ran_19 rfl ?_
  refine r_dup C dX12_ran_20 rfl ?_
  refine gX12_368 C (k0) dX12_ran_21 ?_
  refine r_iconst (1) C dX12_ran_24 (by decide) ?_
  refine r_iadd C dX12_ran_25 ?_
  refine pX12_368 C (k0) dX12_ran_26 ?_
  refine r_toph (fun h1 eh1 => ?_)
  replace hw := hw h1 eh1
  exact r_vret C dX12_ran_29 ⟨rfl, hw⟩
def wX12_ran (a0 : Nat) (x1 : Int32) (h : Hp) (Q : Hp → Prop) : Prop :=
  if (24 : Int32) ≤ (gI h a0 50) then (jX12_ran_19 a0 h Q) else (vp_in (gI h a0 50) (ln (rf a0 51)) ∧ (∀ h2 : Hp, h2 = sI h (rf a0 51) (gI h a0 50).toNatClampNeg x1 → (jX12_ran_19 a0 h2 Q)))
set_option maxRecDepth 20000 in
theorem sX12_ran {G : GG} {a0 : Nat} {x1 : Int32} {h : Hp} {Q : Hp → Prop} (k0 : kd a0 = 12) (hw : wX12_ran a0 x1 h Q) : CV G 0 yX12_ran cX12_ran 2 none [.ref (G.1 a0), .int x1] h Q := by
  refine CO_of [some (.ref (G.1 a0)), some (.int x1)] (by decide) (Nat.le_of_ble_eq_true rfl) rfl (fun X C => ?_)
  unfold wX12_ran at hw
  refine r_aload_n C dX12_ran_0 rfl ?_
  refine gX12_368 C (k0) dX12_ran_1 ?_
  refine r_bipush (24) C dX12_ran_4 (by decide) ?_
  refine r_icmp_ge 19 C dX12_ran_6 (by decide) (fun hc => ?_) (fun hc => ?_)
  · replace hw := it_t hc hw
    refine r_weak [some (.ref (G.1 a0)), none] (lw_k (lw_d (lw_n))) ?_
    exact tX12_ran_19 C (k0) hw
  · replace hw := it_f hc hw
    refine r_aload_n C dX12_ran_9 rfl ?_
    refine gX12_91 C (k0) dX12_ran_10 ?_
    refine r_aload_n C dX12_ran_13 rfl ?_
    refine gX12_368 C (k0) dX12_ran_14 ?_
    refine r_iload_n C dX12_ran_17 rfl ?_
    obtain ⟨hi1, hw⟩ := hw
    refine r_iast C (kr12_51 (k0)) hi1 dX12_ran_18 ?_
    refine r_toph (fun h2 eh2 => ?_)
    replace hw := hw h2 eh2
    refine r_weak [some (.ref (G.1 a0)), none] (lw_k (lw_d (lw_n))) ?_
    exact tX12_ran_19 C (k0) hw
def wX12_trace (a0 : Nat) (x1 : Int32) (h : Hp) (Q : Int32 → Prop) : Prop :=
  if x1 < 0 then (Q (-1 : Int32)) else (if (gI h a0 50) ≤ x1 then (Q (-1 : Int32)) else (if (24 : Int32) ≤ x1 then (Q (-1 : Int32)) else (vp_in x1 (ln (rf a0 51)) ∧ (Q (gI h (rf a0 51) x1.toNatClampNeg)))))
set_option maxRecDepth 20000 in
theorem sX12_trace {G : GG} {a0 : Nat} {x1 : Int32} {h : Hp} {Q : Int32 → Prop} (k0 : kd a0 = 12) (hw : wX12_trace a0 x1 h Q) : PI G 0 yX12_trace cX12_trace 2 (some .int) [.ref (G.1 a0), .int x1] h Q := by
  refine CO_of [some (.ref (G.1 a0)), some (.int x1)] (by decide) (Nat.le_of_ble_eq_true rfl) rfl (fun X C => ?_)
  unfold wX12_trace at hw
  refine r_iload_n C dX12_trace_0 rfl ?_
  refine r_if_lt 27 C dX12_trace_1 (by decide) (fun hc => ?_) (fun hc => ?_)
  · replace hw := it_t hc hw
    refine r_iconst (-1) C dX12_trace_27 (by decide) ?_
    exact r_iret C dX12_trace_28 ⟨_, rfl, rfl, hw⟩
  · replace hw := it_f hc hw
    refine r_iload_n C dX12_trace_4 rfl ?_
    refine r_aload_n C dX12_trace_5 rfl ?_
    refine gX12_368 C (k0) dX12_trace_6 ?_
    refine r_icmp_ge 27 C dX12_trace_9 (by decide) (fun hc => ?_) (fun hc => ?_)
    · replace hw := it_t hc hw
      refine r_iconst (-1) C dX12_trace_27 (by decide) ?_
      exact r_iret C dX12_trace_28 ⟨_, rfl, rfl, hw⟩
    · replace hw := it_f hc hw
      refine r_iload_n C dX12_trace_12 rfl ?_
      refine r_bipush (24) C dX12_trace_13 (by decide) ?_
      refine r_icmp_ge 27 C dX12_trace_15 (by decide) (fun hc => ?_) (fun hc => ?_)
      · replace hw := it_t hc hw
        refine r_iconst (-1) C dX12_trace_27 (by decide) ?_
        exact r_iret C dX12_trace_28 ⟨_, rfl, rfl, hw⟩
      · replace hw := it_f hc hw
        refine r_aload_n C dX12_trace_18 rfl ?_
        refine gX12_91 C (k0) dX12_trace_19 ?_
        refine r_iload_n C dX12_trace_22 rfl ?_
        obtain ⟨hi1, hw⟩ := hw
        refine r_iald C (kr12_51 (k0)) hi1 dX12_trace_23 ?_
        refine r_goto 28 C dX12_trace_24 (by decide) ?_
        exact r_iret C dX12_trace_28 ⟨_, rfl, rfl, hw⟩
def wX12_body (a0 : Nat) (x1 : Int32) (h : Hp) (Q : Int32 → Hp → Prop) : Prop :=
  wX12_in x1 (0 : Int32) (7 : Int32) h (fun v1 => if v1 = 0 then (Q (-1 : Int32) h) else (if (gI h a0 48) = (50 : Int32) then (Q (-3 : Int32) h) else (vp_in (gI h a0 48) (ln (rf a0 49)) ∧ (∀ h3 : Hp, h3 = sI h (rf a0 49) (gI h a0 48).toNatClampNeg x1 → (∀ h4 : Hp, h4 = sI h3 a0 48 ((gI h3 a0 48) + (1 : Int32)) → (Q ((gI h4 a0 48) - (1 : Int32)) h4))))))
set_option maxRecDepth 20000 in
theorem sX12_body {G : GG} {a0 : Nat} {x1 : Int32} {h : Hp} {Q : Int32 → Hp → Prop} (k0 : kd a0 = 12) (hw : wX12_body a0 x1 h Q) : CI G 1 yX12_body cX12_body 2 (some .int) [.ref (G.1 a0), .int x1] h Q := by
  refine CO_of [some (.ref (G.1 a0)), some (.int x1)] (by decide) (Nat.le_of_ble_eq_true rfl) rfl (fun X C => ?_)
  unfold wX12_body at hw
  refine r_iload_n C dX12_body_0 rfl ?_
  refine r_iconst (0) C dX12_body_1 (by decide) ?_
  refine r_bipush (7) C dX12_body_2 (by decide) ?_
  refine kX12_114 C (sX12_in hw) dX12_body_4 (Nat.le_of_ble_eq_true rfl) rfl (Nat.le_of_ble_eq_true rfl) (fun v1 hw => ?_)
  refine r_if_ne 12 C dX12_body_7 (by decide) (fun hc => ?_) (fun hc => ?_)
  · replace hw := it_f hc hw
    refine r_aload_n C dX12_body_12 rfl ?_
    refine gX12_365 C (k0) dX12_body_13 ?_
    refine r_bipush (50) C dX12_body_16 (by decide) ?_
    refine r_icmp_ne 24 C dX12_body_18 (by decide) (fun hc => ?_) (fun hc => ?_)
    · replace hw := it_f hc hw
      refine r_aload_n C dX12_body_24 rfl ?_
      refine gX12_88 C (k0) dX12_body_25 ?_
      refine r_aload_n C dX12_body_28 rfl ?_
      refine gX12_365 C (k0) dX12_body_29 ?_
      refine r_iload_n C dX12_body_32 rfl ?_
      obtain ⟨hi2, hw⟩ := hw
      refine r_iast C (kr12_49 (k0)) hi2 dX12_body_33 ?_
      refine r_toph (fun h3 eh3 => ?_)
      replace hw := hw h3 eh3
      refine r_aload_n C dX12_body_34 rfl ?_
      refine r_dup C dX12_body_35 rfl ?_
      refine gX12_365 C (k0) dX12_body_36 ?_
      refine r_iconst (1) C dX12_body_39 (by decide) ?_
      refine r_iadd C dX12_body_40 ?_
      refine pX12_365 C (k0) dX12_body_41 ?_
      refine r_toph (fun h4 eh4 => ?_)
      replace hw := hw h4 eh4
      refine r_aload_n C dX12_body_44 rfl ?_
      refine gX12_365 C (k0) dX12_body_45 ?_
      refine r_iconst (1) C dX12_body_48 (by decide) ?_
      refine r_isub C dX12_body_49 ?_
      exact r_iret C dX12_body_50 ⟨_, rfl, hw⟩
    · replace hw := it_t hc hw
      refine r_bipush (-3) C dX12_body_21 (by decide) ?_
      exact r_iret C dX12_body_23 ⟨_, rfl, hw⟩
  · replace hw := it_t hc hw
    refine r_iconst (-1) C dX12_body_10 (by decide) ?_
    exact r_iret C dX12_body_11 ⟨_, rfl, hw⟩
def jX12_isUnder_44 (x0 : Int32) (x1 : Int32) (h : Hp) (Q : Int32 → Prop) : Prop :=
  if x1 = (6 : Int32) then (if x0 = (7 : Int32) then (Q (1 : Int32)) else (Q (0 : Int32))) else (Q (0 : Int32))
set_option maxRecDepth 20000 in
theorem tX12_isUnder_44 {G : GG} {X : XX} {x0 : Int32} {x1 : Int32} {h : Hp}  {Q : Int32 → Prop} (C : Cx G RX12 cX12_isUnder 2 (some .boolean) 0 0 0 X) (hw : jX12_isUnder_44 x0 x1 h Q) : R0 G X 0 0 (ZM G (fun r h' => ∃ v, r = some (.int v) ∧ h' = h ∧ Q v) X) 44 [some (.int x0), some (.int x1)] [] h := by
  unfold jX12_isUnder_44 at hw
  refine r_iload_n C dX12_isUnder_44 rfl ?_
  refine r_bipush (6) C dX12_isUnder_45 (by decide) ?_
  refine r_icmp_ne 60 C dX12_isUnder_47 (by decide) (fun hc => ?_) (fun hc => ?_)
  · replace hw := it_f hc hw
    refine r_iconst (0) C dX12_isUnder_60 (by decide) ?_
    exact r_zret C dX12_isUnder_61 rfl ⟨_, rfl, rfl, hw⟩
  · replace hw := it_t hc hw
    refine r_iload_n C dX12_isUnder_50 rfl ?_
    refine r_bipush (7) C dX12_isUnder_51 (by decide) ?_
    refine r_icmp_ne 60 C dX12_isUnder_53 (by decide) (fun hc => ?_) (fun hc => ?_)
    · replace hw := it_f hc hw
      refine r_iconst (0) C dX12_isUnder_60 (by decide) ?_
      exact r_zret C dX12_isUnder_61 rfl ⟨_, rfl, rfl, hw⟩
    · replace hw := it_t hc hw
      refine r_iconst (1) C dX12_isUnder_56 (by decide) ?_
      refine r_goto 61 C dX12_isUnder_57 (by decide) ?_
      exact r_zret C dX12_isUnder_61 rfl ⟨_, rfl, rfl, hw⟩
def jX12_isUnder_34 (x0 : Int32) (x1 : Int32) (h : Hp) (Q : Int32 → Prop) : Prop :=
  if x1 = (3 : Int32) then (if x0 = (5 : Int32) then (Q (1 : Int32)) else (jX12_isUnder_44 x0 x1 h Q)) else (jX12_isUnder_44 x0 x1 h Q)
set_option maxRecDepth 20000 in
theorem tX12_isUnder_34 {G : GG} {X : XX} {x0 : Int32} {x1 : Int32} {h : Hp}  {Q : Int32 → Prop} (C : Cx G RX12 cX12_isUnder 2 (some .boolean) 0 0 0 X) (hw : jX12_isUnder_34 x0 x1 h Q) : R0 G X 0 0 (ZM G (fun r h' => ∃ v, r = some (.int v) ∧ h' = h ∧ Q v) X) 34 [some (.int x0), some (.int x1)] [] h := by
  unfold jX12_isUnder_34 at hw
  refine r_iload_n C dX12_isUnder_34 rfl ?_
  refine r_iconst (3) C dX12_isUnder_35 (by decide) ?_
  refine r_icmp_ne 44 C dX12_isUnder_36 (by decide) (fun hc => ?_) (fun hc => ?_)
  · replace hw := it_f hc hw
    exact tX12_isUnder_44 C  hw
  · replace hw := it_t hc hw
    refine r_iload_n C dX12_isUnder_39 rfl ?_
    refine r_iconst (5) C dX12_isUnder_40 (by decide) ?_
    refine r_icmp_eq 56 C dX12_isUnder_41 (by decide) (fun hc => ?_) (fun hc => ?_)
    · replace hw := it_t hc hw
      refine r_iconst (1) C dX12_isUnder_56 (by decide) ?_
      refine r_goto 61 C dX12_isUnder_57 (by decide) ?_
      exact r_zret C dX12_isUnder_61 rfl ⟨_, rfl, rfl, hw⟩
    · replace hw := it_f hc hw
      exact tX12_isUnder_44 C  hw
def jX12_isUnder_19 (x0 : Int32) (x1 : Int32) (h : Hp) (Q : Int32 → Prop) : Prop :=
  if x1 = (2 : Int32) then (if x0 = (3 : Int32) then (Q (1 : Int32)) else (if x0 = (5 : Int32) then (Q (1 : Int32)) else (jX12_isUnder_34 x0 x1 h Q))) else (jX12_isUnder_34 x0 x1 h Q)
set_option maxRecDepth 20000 in
theorem tX12_isUnder_19 {G : GG} {X : XX} {x0 : Int32} {x1 : Int32} {h : Hp}  {Q : Int32 → Prop} (C : Cx G RX12 cX12_isUnder 2 (some .boolean) 0 0 0 X) (hw : jX12_isUnder_19 x0 x1 h Q) : R0 G X 0 0 (ZM G (fun r h' => ∃ v, r = some (.int v) ∧ h' = h ∧ Q v) X) 19 [some (.int x0), some (.int x1)] [] h := by
  unfold jX12_isUnder_19 at hw
  refine r_iload_n C dX12_isUnder_19 rfl ?_
  refine r_iconst (2) C dX12_isUnder_20 (by decide) ?_
  refine r_icmp_ne 34 C dX12_isUnder_21 (by decide) (fun hc => ?_) (fun hc => ?_)
  · replace hw := it_f hc hw
    exact tX12_isUnder_34 C  hw
  · replace hw := it_t hc hw
    refine r_iload_n C dX12_isUnder_24 rfl ?_
    refine r_iconst (3) C dX12_isUnder_25 (by decide) ?_
    refine r_icmp_eq 56 C dX12_isUnder_26 (by decide) (fun hc => ?_) (fun hc => ?_)
    · replace hw := it_t hc hw
      refine r_iconst (1) C dX12_isUnder_56 (by decide) ?_
      refine r_goto 61 C dX12_isUnder_57 (by decide) ?_
      exact r_zret C dX12_isUnder_61 rfl ⟨_, rfl, rfl, hw⟩
    · replace hw := it_f hc hw
      refine r_iload_n C dX12_isUnder_29 rfl ?_
      refine r_iconst (5) C dX12_isUnder_30 (by decide) ?_
      refine r_icmp_eq 56 C dX12_isUnder_31 (by decide) (fun hc => ?_) (fun hc => ?_)
      · replace hw := it_t hc hw
        refine r_iconst (1) C dX12_isUnder_56 (by decide) ?_
        refine r_goto 61 C dX12_isUnder_57 (by decide) ?_
        exact r_zret C dX12_isUnder_61 rfl ⟨_, rfl, rfl, hw⟩
      · replace hw := it_f hc hw
        exact tX12_isUnder_34 C  hw
def wX12_isUnder (x0 : Int32) (x1 : Int32) (h : Hp) (Q : Int32 → Prop) : Prop :=
  if x1 = 0 then (Q (1 : Int32)) else (if x0 = x1 then (Q (1 : Int32)) else (if x1 = (1 : Int32) then (if x0 = (4 : Int32) then (Q (1 : Int32)) else (jX12_isUnder_19 x0 x1 h Q)) else (jX12_isUnder_19 x0 x1 h Q)))
set_option maxRecDepth 20000 in
theorem sX12_isUnder {G : GG} {x0 : Int32} {x1 : Int32} {h : Hp} {Q : Int32 → Prop} (hw : wX12_isUnder x0 x1 h Q) : PI G 0 yX12_isUnder cX12_isUnder 2 (some .boolean) [.int x0, .int x1] h Q := by
  refine CO_of [some (.int x0), some (.int x1)] (by decide) (Nat.le_of_ble_eq_true rfl) rfl (fun X C => ?_)
  unfold wX12_isUnder at hw
  refine r_iload_n C dX12_isUnder_0 rfl ?_
  refine r_if_eq 56 C dX12_isUnder_1 (by decide) (fun hc => ?_) (fun hc => ?_)
  · replace hw := it_t hc hw
    refine r_iconst (1) C dX12_isUnder_56 (by decide) ?_
    refine r_goto 61 C dX12_isUnder_57 (by decide) ?_
    exact r_zret C dX12_isUnder_61 rfl ⟨_, rfl, rfl, hw⟩
  · replace hw := it_f hc hw
    refine r_iload_n C dX12_isUnder_4 rfl ?_
    refine r_iload_n C dX12_isUnder_5 rfl ?_
    refine r_icmp_eq 56 C dX12_isUnder_6 (by decide) (fun hc => ?_) (fun hc => ?_)
    · replace hw := it_t hc hw
      refine r_iconst (1) C dX12_isUnder_56 (by decide) ?_
      refine r_goto 61 C dX12_isUnder_57 (by decide) ?_
      exact r_zret C dX12_isUnder_61 rfl ⟨_, rfl, rfl, hw⟩
    · replace hw := it_f hc hw
      refine r_iload_n C dX12_isUnder_9 rfl ?_
      refine r_iconst (1) C dX12_isUnder_10 (by decide) ?_
      refine r_icmp_ne 19 C dX12_isUnder_11 (by decide) (fun hc => ?_) (fun hc => ?_)
      · replace hw := it_f hc hw
        exact tX12_isUnder_19 C  hw
      · replace hw := it_t hc hw
        refine r_iload_n C dX12_isUnder_14 rfl ?_
        refine r_iconst (4) C dX12_isUnder_15 (by decide) ?_
        refine r_icmp_eq 56 C dX12_isUnder_16 (by decide) (fun hc => ?_) (fun hc => ?_)
        · replace hw := it_t hc hw
          refine r_iconst (1) C dX12_isUnder_56 (by decide) ?_
          refine r_goto 61 C dX12_isUnder_57 (by decide) ?_
          exact r_zret C dX12_isUnder_61 rfl ⟨_, rfl, rfl, hw⟩
        · replace hw := it_f hc hw
          exact tX12_isUnder_19 C  hw
def wX12_plainOpens (a0 : Nat) (x1 : Int32) (x2 : Int32) (h : Hp) (Q : Int32 → Hp → Prop) : Prop :=
  wX12_ran a0 (1 : Int32) h (fun h2 => Q (x2 + x1) h2)
set_option maxRecDepth 20000 in
theorem sX12_plainOpens {G : GG} {a0 : Nat} {x1 : Int32} {x2 : Int32} {h : Hp} {Q : Int32 → Hp → Prop} (k0 : kd a0 = 12) (hw : wX12_plainOpens a0 x1 x2 h Q) : CI G 1 yX12_plainOpens cX12_plainOpens 3 (some .int) [.ref (G.1 a0), .int x1, .int x2] h Q := by
  refine CO_of [some (.ref (G.1 a0)), some (.int x1), some (.int x2)] (by decide) (Nat.le_of_ble_eq_true rfl) rfl (fun X C => ?_)
  unfold wX12_plainOpens at hw
  refine r_aload_n C dX12_plainOpens_0 rfl ?_
  refine r_iconst (1) C dX12_plainOpens_1 (by decide) ?_
  refine kX12_371 C (k0) (sX12_ran (k0) hw) dX12_plainOpens_2 (Nat.le_of_ble_eq_true rfl) rfl (Nat.le_of_ble_eq_true rfl) (fun h2 hw => ?_)
  refine r_iload_n C dX12_plainOpens_5 rfl ?_
  refine r_iload_n C dX12_plainOpens_6 rfl ?_
  refine r_iadd C dX12_plainOpens_7 ?_
  exact r_iret C dX12_plainOpens_8 ⟨_, rfl, hw⟩
def wX12_toldOpens (a0 : Nat) (x1 : Int32) (x2 : Int32) (h : Hp) (Q : Int32 → Hp → Prop) : Prop :=
  wX12_ran a0 (70 : Int32) h (fun h2 => wX12_plainOpens a0 x1 x2 h2 (fun v3 h4 => Q (v3 * (2 : Int32)) h4))
set_option maxRecDepth 20000 in
theorem sX12_toldOpens {G : GG} {a0 : Nat} {x1 : Int32} {x2 : Int32} {h : Hp} {Q : Int32 → Hp → Prop} (k0 : kd a0 = 12) (hw : wX12_toldOpens a0 x1 x2 h Q) : CI G 2 yX12_toldOpens cX12_toldOpens 3 (some .int) [.ref (G.1 a0), .int x1, .int x2] h Q := by
  refine CO_of [some (.ref (G.1 a0)), some (.int x1), some (.int x2)] (by decide) (Nat.le_of_ble_eq_true rfl) rfl (fun X C => ?_)
  unfold wX12_toldOpens at hw
  refine r_aload_n C dX12_toldOpens_0 rfl ?_
  refine r_bipush (70) C dX12_toldOpens_1 (by decide) ?_
  refine kX12_371 C (k0) (sX12_ran (k0) hw) dX12_toldOpens_3 (Nat.le_of_ble_eq_true rfl) rfl (Nat.le_of_ble_eq_true rfl) (fun h2 hw => ?_)
  refine r_aload_n C dX12_toldOpens_6 rfl ?_
  refine r_iload_n C dX12_toldOpens_7 rfl ?_
  refine r_iload_n C dX12_toldOpens_8 rfl ?_
  refine kX12_374 C (k0) (sX12_plainOpens (k0) hw) dX12_toldOpens_9 (Nat.le_of_ble_eq_true rfl) rfl (Nat.le_of_ble_eq_true rfl) (fun v3 h4 hw => ?_)
  refine r_iconst (2) C dX12_toldOpens_12 (by decide) ?_
  refine r_imul C dX12_toldOpens_13 ?_
  exact r_iret C dX12_toldOpens_14 ⟨_, rfl, hw⟩
def wX12_opening (a0 : Nat) (x1 : Int32) (x2 : Int32) (h : Hp) (Q : Int32 → Hp → Prop) : Prop :=
  vp_in x1 (ln (rf a0 49)) ∧ (wX12_isUnder (gI h (rf a0 49) x1.toNatClampNeg) (1 : Int32) h (fun v2 => if v2 = 0 then (vp_in x1 (ln (rf a0 49)) ∧ (if (gI h (rf a0 49) x1.toNatClampNeg) = (7 : Int32) then (wX12_ran a0 (81 : Int32) h (fun h10 => wX12_toldOpens a0 x1 x2 h10 (fun v11 h12 => Q (v11 - (1 : Int32)) h12))) else (vp_in x1 (ln (rf a0 49)) ∧ (if (gI h (rf a0 49) x1.toNatClampNeg) = (6 : Int32) then (wX12_toldOpens a0 x1 x2 h (fun v7 h8 => Q v7 h8)) else (wX12_plainOpens a0 x1 x2 h (fun v5 h6 => Q v5 h6)))))) else (wX12_ran a0 (20 : Int32) h (fun h14 => wX12_plainOpens a0 x1 x2 h14 (fun v15 h16 => Q (v15 + (3 : Int32)) h16)))))
set_option maxRecDepth 20000 in
theorem sX12_opening {G : GG} {a0 : Nat} {x1 : Int32} {x2 : Int32} {h : Hp} {Q : Int32 → Hp → Prop} (k0 : kd a0 = 12) (hw : wX12_opening a0 x1 x2 h Q) : CI G 3 yX12_opening cX12_opening 3 (some .int) [.ref (G.1 a0), .int x1, .int x2] h Q := by
  refine CO_of [some (.ref (G.1 a0)), some (.int x1), some (.int x2)] (by decide) (Nat.le_of_ble_eq_true rfl) rfl (fun X C => ?_)
  unfold wX12_opening at hw
  refine r_aload_n C dX12_opening_0 rfl ?_
  refine gX12_88 C (k0) dX12_opening_1 ?_
  refine r_iload_n C dX12_opening_4 rfl ?_
  obtain ⟨hi1, hw⟩ := hw
  refine r_iald C (kr12_49 (k0)) hi1 dX12_opening_5 ?_
  refine r_iconst (1) C dX12_opening_6 (by decide) ?_
  refine kX12_377 C (sX12_isUnder hw) dX12_opening_7 (Nat.le_of_ble_eq_true rfl) rfl (Nat.le_of_ble_eq_true rfl) (fun v2 hw => ?_)
  refine r_if_eq 28 C dX12_opening_10 (by decide) (fun hc => ?_) (fun hc => ?_)
  · replace hw := it_t hc hw
    refine r_aload_n C dX12_opening_28 rfl ?_
    refine gX12_88 C (k0) dX12_opening_29 ?_
    refine r_iload_n C dX12_opening_32 rfl ?_
    obtain ⟨hi3, hw⟩ := hw
    refine r_iald C (kr12_49 (k0)) hi3 dX12_opening_33 ?_
    refine r_bipush (7) C dX12_opening_34 (by decide) ?_
    refine r_icmp_ne 54 C dX12_opening_36 (by decide) (fun hc => ?_) (fun hc => ?_)
    · replace hw := it_f hc hw
      refine r_aload_n C dX12_opening_54 rfl ?_
      refine gX12_88 C (k0) dX12_opening_55 ?_
      refine r_iload_n C dX12_opening_58 rfl ?_
      obtain ⟨hi4, hw⟩ := hw
      refine r_iald C (kr12_49 (k0)) hi4 dX12_opening_59 ?_
      refine r_bipush (6) C dX12_opening_60 (by decide) ?_
      refine r_icmp_ne 74 C dX12_opening_62 (by decide) (fun hc => ?_) (fun hc => ?_)
      · replace hw := it_f hc hw
        refine r_aload_n C dX12_opening_74 rfl ?_
        refine r_iload_n C dX12_opening_75 rfl ?_
        refine r_iload_n C dX12_opening_76 rfl ?_
        refine kX12_374 C (k0) (sX12_plainOpens (k0) hw) dX12_opening_77 (Nat.le_of_ble_eq_true rfl) rfl (Nat.le_of_ble_eq_true rfl) (fun v5 h6 hw => ?_)
        exact r_iret C dX12_opening_80 ⟨_, rfl, hw⟩
      · replace hw := it_t hc hw
        refine r_aload_n C dX12_opening_65 rfl ?_
        refine r_iload_n C dX12_opening_66 rfl ?_
        refine r_iload_n C dX12_opening_67 rfl ?_
        refine kX12_381 C (k0) (sX12_toldOpens (k0) hw) dX12_opening_68 (Nat.le_of_ble_eq_true rfl) rfl (Nat.le_of_ble_eq_true rfl) (fun v7 h8 hw => ?_)
        refine r_goto 80 C dX12_opening_71 (by decide) ?_
        exact r_iret C dX12_opening_80 ⟨_, rfl, hw⟩
    · replace hw := it_t hc hw
      refine r_aload_n C dX12_opening_39 rfl ?_
      refine r_bipush (81) C dX12_opening_40 (by decide) ?_
      refine kX12_371 C (k0) (sX12_ran (k0) hw) dX12_opening_42 (Nat.le_of_ble_eq_true rfl) rfl (Nat.le_of_ble_eq_true rfl) (fun h10 hw => ?_)
      refine r_aload_n C dX12_opening_45 rfl ?_
      refine r_iload_n C dX12_opening_46 rfl ?_
      refine r_iload_n C dX12_opening_47 rfl ?_
      refine kX12_381 C (k0) (sX12_toldOpens (k0) hw) dX12_opening_48 (Nat.le_of_ble_eq_true rfl) rfl (Nat.le_of_ble_eq_true rfl) (fun v11 h12 hw => ?_)
      refine r_iconst (1) C dX12_opening_51 (by decide) ?_
      refine r_isub C dX12_opening_52 ?_
      exact r_iret C dX12_opening_53 ⟨_, rfl, hw⟩
  · replace hw := it_f hc hw
    refine r_aload_n C dX12_opening_13 rfl ?_
    refine r_bipush (20) C dX12_opening_14 (by decide) ?_
    refine kX12_371 C (k0) (sX12_ran (k0) hw) dX12_opening_16 (Nat.le_of_ble_eq_true rfl) rfl (Nat.le_of_ble_eq_true rfl) (fun h14 hw => ?_)
    refine r_aload_n C dX12_opening_19 rfl ?_
    refine r_iload_n C dX12_opening_20 rfl ?_
    refine r_iload_n C dX12_opening_21 rfl ?_
    refine kX12_374 C (k0) (sX12_plainOpens (k0) hw) dX12_opening_22 (Nat.le_of_ble_eq_true rfl) rfl (Nat.le_of_ble_eq_true rfl) (fun v15 h16 hw => ?_)
    refine r_iconst (3) C dX12_opening_25 (by decide) ?_
    refine r_iadd C dX12_opening_26 ?_
    exact r_iret C dX12_opening_27 ⟨_, rfl, hw⟩
def wX12_plainCounts (a0 : Nat) (x1 : Int32) (x2 : Int32) (h : Hp) (Q : Int32 → Hp → Prop) : Prop :=
  wX12_ran a0 (10 : Int32) h (fun h2 => wX12_opening a0 x1 x2 h2 (fun v3 h4 => Q (v3 * (2 : Int32)) h4))
set_option maxRecDepth 20000 in
theorem sX12_plainCounts {G : GG} {a0 : Nat} {x1 : Int32} {x2 : Int32} {h : Hp} {Q : Int32 → Hp → Prop} (k0 : kd a0 = 12) (hw : wX12_plainCounts a0 x1 x2 h Q) : CI G 4 yX12_plainCounts cX12_plainCounts 3 (some .int) [.ref (G.1 a0), .int x1, .int x2] h Q := by
  refine CO_of [some (.ref (G.1 a0)), some (.int x1), some (.int x2)] (by decide) (Nat.le_of_ble_eq_true rfl) rfl (fun X C => ?_)
  unfold wX12_plainCounts at hw
  refine r_aload_n C dX12_plainCounts_0 rfl ?_
  refine r_bipush (10) C dX12_plainCounts_1 (by decide) ?_
  refine kX12_371 C (k0) (sX12_ran (k0) hw) dX12_plainCounts_3 (Nat.le_of_ble_eq_true rfl) rfl (Nat.le_of_ble_eq_true rfl) (fun h2 hw => ?_)
  refine r_aload_n C dX12_plainCounts_6 rfl ?_
  refine r_iload_n C dX12_plainCounts_7 rfl ?_
  refine r_iload_n C dX12_plainCounts_8 rfl ?_
  refine kX12_384 C (k0) (sX12_opening (k0) hw) dX12_plainCounts_9 (Nat.le_of_ble_eq_true rfl) rfl (Nat.le_of_ble_eq_true rfl) (fun v3 h4 hw => ?_)
  refine r_iconst (2) C dX12_plainCounts_12 (by decide) ?_
  refine r_imul C dX12_plainCounts_13 ?_
  exact r_iret C dX12_plainCounts_14 ⟨_, rfl, hw⟩
def wX12_lookCounts (a0 : Nat) (x1 : Int32) (x2 : Int32) (h : Hp) (Q : Int32 → Hp → Prop) : Prop :=
  wX12_ran a0 (30 : Int32) h (fun h2 => wX12_plainCounts a0 x1 x2 h2 (fun v3 h4 => Q (-v3) h4))
set_option maxRecDepth 20000 in
theorem sX12_lookCounts {G : GG} {a0 : Nat} {x1 : Int32} {x2 : Int32} {h : Hp} {Q : Int32 → Hp → Prop} (k0 : kd a0 = 12) (hw : wX12_lookCounts a0 x1 x2 h Q) : CI G 5 yX12_lookCounts cX12_lookCounts 3 (some .int) [.ref (G.1 a0), .int x1, .int x2] h Q := by
  refine CO_of [some (.ref (G.1 a0)), some (.int x1), some (.int x2)] (by decide) (Nat.le_of_ble_eq_true rfl) rfl (fun X C => ?_)
  unfold wX12_lookCounts at hw
  refine r_aload_n C dX12_lookCounts_0 rfl ?_
  refine r_bipush (30) C dX12_lookCounts_1 (by decide) ?_
  refine kX12_371 C (k0) (sX12_ran (k0) hw) dX12_lookCounts_3 (Nat.le_of_ble_eq_true rfl) rfl (Nat.le_of_ble_eq_true rfl) (fun h2 hw => ?_)
  refine r_aload_n C dX12_lookCounts_6 rfl ?_
  refine r_iload_n C dX12_lookCounts_7 rfl ?_
  refine r_iload_n C dX12_lookCounts_8 rfl ?_
  refine kX12_387 C (k0) (sX12_plainCounts (k0) hw) dX12_lookCounts_9 (Nat.le_of_ble_eq_true rfl) rfl (Nat.le_of_ble_eq_true rfl) (fun v3 h4 hw => ?_)
  refine r_ineg C dX12_lookCounts_12 ?_
  exact r_iret C dX12_lookCounts_13 ⟨_, rfl, hw⟩
def wX12_plainWaits (a0 : Nat) (x1 : Int32) (x2 : Int32) (h : Hp) (Q : Int32 → Hp → Prop) : Prop :=
  wX12_ran a0 (11 : Int32) h (fun h2 => Q (x2 ^^^ x1) h2)
set_option maxRecDepth 20000 in
theorem sX12_plainWaits {G : GG} {a0 : Nat} {x1 : Int32} {x2 : Int32} {h : Hp} {Q : Int32 → Hp → Prop} (k0 : kd a0 = 12) (hw : wX12_plainWaits a0 x1 x2 h Q) : CI G 1 yX12_plainWaits cX12_plainWaits 3 (some .int) [.ref (G.1 a0), .int x1, .int x2] h Q := by
  refine CO_of [some (.ref (G.1 a0)), some (.int x1), some (.int x2)] (by decide) (Nat.le_of_ble_eq_true rfl) rfl (fun X C => ?_)
  unfold wX12_plainWaits at hw
  refine r_aload_n C dX12_plainWaits_0 rfl ?_
  refine r_bipush (11) C dX12_plainWaits_1 (by decide) ?_
  refine kX12_371 C (k0) (sX12_ran (k0) hw) dX12_plainWaits_3 (Nat.le_of_ble_eq_true rfl) rfl (Nat.le_of_ble_eq_true rfl) (fun h2 hw => ?_)
  refine r_iload_n C dX12_plainWaits_6 rfl ?_
  refine r_iload_n C dX12_plainWaits_7 rfl ?_
  refine r_ixor C dX12_plainWaits_8 ?_
  exact r_iret C dX12_plainWaits_9 ⟨_, rfl, hw⟩
def wX12_walkWaits (a0 : Nat) (x1 : Int32) (x2 : Int32) (h : Hp) (Q : Int32 → Hp → Prop) : Prop :=
  wX12_ran a0 (40 : Int32) h (fun h2 => wX12_plainWaits a0 x1 x2 h2 (fun v3 h4 => Q (v3 * (3 : Int32)) h4))
set_option maxRecDepth 20000 in
theorem sX12_walkWaits {G : GG} {a0 : Nat} {x1 : Int32} {x2 : Int32} {h : Hp} {Q : Int32 → Hp → Prop} (k0 : kd a0 = 12) (hw : wX12_walkWaits a0 x1 x2 h Q) : CI G 2 yX12_walkWaits cX12_walkWaits 3 (some .int) [.ref (G.1 a0), .int x1, .int x2] h Q := by
  refine CO_of [some (.ref (G.1 a0)), some (.int x1), some (.int x2)] (by decide) (Nat.le_of_ble_eq_true rfl) rfl (fun X C => ?_)
  unfold wX12_walkWaits at hw
  refine r_aload_n C dX12_walkWaits_0 rfl ?_
  refine r_bipush (40) C dX12_walkWaits_1 (by decide) ?_
  refine kX12_371 C (k0) (sX12_ran (k0) hw) dX12_walkWaits_3 (Nat.le_of_ble_eq_true rfl) rfl (Nat.le_of_ble_eq_true rfl) (fun h2 hw => ?_)
  refine r_aload_n C dX12_walkWaits_6 rfl ?_
  refine r_iload_n C dX12_walkWaits_7 rfl ?_
  refine r_iload_n C dX12_walkWaits_8 rfl ?_
  refine kX12_396 C (k0) (sX12_plainWaits (k0) hw) dX12_walkWaits_9 (Nat.le_of_ble_eq_true rfl) rfl (Nat.le_of_ble_eq_true rfl) (fun v3 h4 hw => ?_)
  refine r_iconst (3) C dX12_walkWaits_12 (by decide) ?_
  refine r_imul C dX12_walkWaits_13 ?_
  exact r_iret C dX12_walkWaits_14 ⟨_, rfl, hw⟩
def wX12_waitingAct (a0 : Nat) (x1 : Int32) (x2 : Int32) (h : Hp) (Q : Int32 → Hp → Prop) : Prop :=
  vp_in x1 (ln (rf a0 49)) ∧ (if (gI h (rf a0 49) x1.toNatClampNeg) = (5 : Int32) then (wX12_ran a0 (60 : Int32) h (fun h8 => wX12_walkWaits a0 x1 x2 h8 (fun v9 h10 => wX12_opening a0 x1 (2 : Int32) h10 (fun v11 h12 => Q (v9 - v11) h12)))) else (vp_in x1 (ln (rf a0 49)) ∧ (if (gI h (rf a0 49) x1.toNatClampNeg) = (3 : Int32) then (wX12_walkWaits a0 x1 x2 h (fun v5 h6 => Q v5 h6)) else (wX12_plainWaits a0 x1 x2 h (fun v3 h4 => Q v3 h4)))))
set_option maxRecDepth 20000 in
theorem sX12_waitingAct {G : GG} {a0 : Nat} {x1 : Int32} {x2 : Int32} {h : Hp} {Q : Int32 → Hp → Prop} (k0 : kd a0 = 12) (hw : wX12_waitingAct a0 x1 x2 h Q) : CI G 4 yX12_waitingAct cX12_waitingAct 4 (some .int) [.ref (G.1 a0), .int x1, .int x2] h Q := by
  refine CO_of [some (.ref (G.1 a0)), some (.int x1), some (.int x2), none] (by decide) (Nat.le_of_ble_eq_true rfl) rfl (fun X C => ?_)
  unfold wX12_waitingAct at hw
  refine r_aload_n C dX12_waitingAct_0 rfl ?_
  refine gX12_88 C (k0) dX12_waitingAct_1 ?_
  refine r_iload_n C dX12_waitingAct_4 rfl ?_
  obtain ⟨hi1, hw⟩ := hw
  refine r_iald C (kr12_49 (k0)) hi1 dX12_waitingAct_5 ?_
  refine r_iconst (5) C dX12_waitingAct_6 (by decide) ?_
  refine r_icmp_ne 32 C dX12_waitingAct_7 (by decide) (fun hc => ?_) (fun hc => ?_)
  · replace hw := it_f hc hw
    refine r_aload_n C dX12_waitingAct_32 rfl ?_
    refine gX12_88 C (k0) dX12_waitingAct_33 ?_
    refine r_iload_n C dX12_waitingAct_36 rfl ?_
    obtain ⟨hi2, hw⟩ := hw
    refine r_iald C (kr12_49 (k0)) hi2 dX12_waitingAct_37 ?_
    refine r_iconst (3) C dX12_waitingAct_38 (by decide) ?_
    refine r_icmp_ne 51 C dX12_waitingAct_39 (by decide) (fun hc => ?_) (fun hc => ?_)
    · replace hw := it_f hc hw
      refine r_aload_n C dX12_waitingAct_51 rfl ?_
      refine r_iload_n C dX12_waitingAct_52 rfl ?_
      refine r_iload_n C dX12_waitingAct_53 rfl ?_
      refine kX12_396 C (k0) (sX12_plainWaits (k0) hw) dX12_waitingAct_54 (Nat.le_of_ble_eq_true rfl) rfl (Nat.le_of_ble_eq_true rfl) (fun v3 h4 hw => ?_)
      exact r_iret C dX12_waitingAct_57 ⟨_, rfl, hw⟩
    · replace hw := it_t hc hw
      refine r_aload_n C dX12_waitingAct_42 rfl ?_
      refine r_iload_n C dX12_waitingAct_43 rfl ?_
      refine r_iload_n C dX12_waitingAct_44 rfl ?_
      refine kX12_399 C (k0) (sX12_walkWaits (k0) hw) dX12_waitingAct_45 (Nat.le_of_ble_eq_true rfl) rfl (Nat.le_of_ble_eq_true rfl) (fun v5 h6 hw => ?_)
      refine r_goto 57 C dX12_waitingAct_48 (by decide) ?_
      exact r_iret C dX12_waitingAct_57 ⟨_, rfl, hw⟩
  · replace hw := it_t hc hw
    refine r_aload_n C dX12_waitingAct_10 rfl ?_
    refine r_bipush (60) C dX12_waitingAct_11 (by decide) ?_
    refine kX12_371 C (k0) (sX12_ran (k0) hw) dX12_waitingAct_13 (Nat.le_of_ble_eq_true rfl) rfl (Nat.le_of_ble_eq_true rfl) (fun h8 hw => ?_)
    refine r_aload_n C dX12_waitingAct_16 rfl ?_
    refine r_iload_n C dX12_waitingAct_17 rfl ?_
    refine r_iload_n C dX12_waitingAct_18 rfl ?_
    refine kX12_399 C (k0) (sX12_walkWaits (k0) hw) dX12_waitingAct_19 (Nat.le_of_ble_eq_true rfl) rfl (Nat.le_of_ble_eq_true rfl) (fun v9 h10 hw => ?_)
    refine r_istore_n [some (.ref (G.1 a0)), some (.int x1), some (.int x2), some (.int v9)] C dX12_waitingAct_22 (Nat.le_of_ble_eq_true rfl) rfl rfl ?_
    refine r_iload_n C dX12_waitingAct_23 rfl ?_
    refine r_aload_n C dX12_waitingAct_24 rfl ?_
    refine r_iload_n C dX12_waitingAct_25 rfl ?_
    refine r_iconst (2) C dX12_waitingAct_26 (by decide) ?_
    refine kX12_384 C (k0) (sX12_opening (k0) hw) dX12_waitingAct_27 (Nat.le_of_ble_eq_true rfl) rfl (Nat.le_of_ble_eq_true rfl) (fun v11 h12 hw => ?_)
    refine r_isub C dX12_waitingAct_30 ?_
    exact r_iret C dX12_waitingAct_31 ⟨_, rfl, hw⟩
def wX12_counting (a0 : Nat) (x1 : Int32) (x2 : Int32) (h : Hp) (Q : Int32 → Hp → Prop) : Prop :=
  vp_in x1 (ln (rf a0 49)) ∧ (wX12_isUnder (gI h (rf a0 49) x1.toNatClampNeg) (3 : Int32) h (fun v2 => if v2 = 0 then (vp_in x1 (ln (rf a0 49)) ∧ (if (gI h (rf a0 49) x1.toNatClampNeg) = (7 : Int32) then (wX12_ran a0 (80 : Int32) h (fun h10 => wX12_plainCounts a0 x1 x2 h10 (fun v11 h12 => wX12_waitingAct a0 x1 (2 : Int32) h12 (fun v13 h14 => Q (v11 + v13) h14)))) else (vp_in x1 (ln (rf a0 49)) ∧ (if (gI h (rf a0 49) x1.toNatClampNeg) = (2 : Int32) then (wX12_lookCounts a0 x1 x2 h (fun v7 h8 => Q v7 h8)) else (wX12_plainCounts a0 x1 x2 h (fun v5 h6 => Q v5 h6)))))) else (wX12_ran a0 (41 : Int32) h (fun h16 => wX12_lookCounts a0 x1 (x2 + (1 : Int32)) h16 (fun v17 h18 => Q v17 h18)))))
set_option maxRecDepth 20000 in
theorem sX12_counting {G : GG} {a0 : Nat} {x1 : Int32} {x2 : Int32} {h : Hp} {Q : Int32 → Hp → Prop} (k0 : kd a0 = 12) (hw : wX12_counting a0 x1 x2 h Q) : CI G 6 yX12_counting cX12_counting 4 (some .int) [.ref (G.1 a0), .int x1, .int x2] h Q := by
  refine CO_of [some (.ref (G.1 a0)), some (.int x1), some (.int x2), none] (by decide) (Nat.le_of_ble_eq_true rfl) rfl (fun X C => ?_)
  unfold wX12_counting at hw
  refine r_aload_n C dX12_counting_0 rfl ?_
  refine gX12_88 C (k0) dX12_counting_1 ?_
  refine r_iload_n C dX12_counting_4 rfl ?_
  obtain ⟨hi1, hw⟩ := hw
  refine r_iald C (kr12_49 (k0)) hi1 dX12_counting_5 ?_
  refine r_iconst (3) C dX12_counting_6 (by decide) ?_
  refine kX12_377 C (sX12_isUnder hw) dX12_counting_7 (Nat.le_of_ble_eq_true rfl) rfl (Nat.le_of_ble_eq_true rfl) (fun v2 hw => ?_)
  refine r_if_eq 28 C dX12_counting_10 (by decide) (fun hc => ?_) (fun hc => ?_)
  · replace hw := it_t hc hw
    refine r_aload_n C dX12_counting_28 rfl ?_
    refine gX12_88 C (k0) dX12_counting_29 ?_
    refine r_iload_n C dX12_counting_32 rfl ?_
    obtain ⟨hi3, hw⟩ := hw
    refine r_iald C (kr12_49 (k0)) hi3 dX12_counting_33 ?_
    refine r_bipush (7) C dX12_counting_34 (by decide) ?_
    refine r_icmp_ne 61 C dX12_counting_36 (by decide) (fun hc => ?_) (fun hc => ?_)
    · replace hw := it_f hc hw
      refine r_aload_n C dX12_counting_61 rfl ?_
      refine gX12_88 C (k0) dX12_counting_62 ?_
      refine r_iload_n C dX12_counting_65 rfl ?_
      obtain ⟨hi4, hw⟩ := hw
      refine r_iald C (kr12_49 (k0)) hi4 dX12_counting_66 ?_
      refine r_iconst (2) C dX12_counting_67 (by decide) ?_
      refine r_icmp_ne 80 C dX12_counting_68 (by decide) (fun hc => ?_) (fun hc => ?_)
      · replace hw := it_f hc hw
        refine r_aload_n C dX12_counting_80 rfl ?_
        refine r_iload_n C dX12_counting_81 rfl ?_
        refine r_iload_n C dX12_counting_82 rfl ?_
        refine kX12_387 C (k0) (sX12_plainCounts (k0) hw) dX12_counting_83 (Nat.le_of_ble_eq_true rfl) rfl (Nat.le_of_ble_eq_true rfl) (fun v5 h6 hw => ?_)
        exact r_iret C dX12_counting_86 ⟨_, rfl, hw⟩
      · replace hw := it_t hc hw
        refine r_aload_n C dX12_counting_71 rfl ?_
        refine r_iload_n C dX12_counting_72 rfl ?_
        refine r_iload_n C dX12_counting_73 rfl ?_
        refine kX12_390 C (k0) (sX12_lookCounts (k0) hw) dX12_counting_74 (Nat.le_of_ble_eq_true rfl) rfl (Nat.le_of_ble_eq_true rfl) (fun v7 h8 hw => ?_)
        refine r_goto 86 C dX12_counting_77 (by decide) ?_
        exact r_iret C dX12_counting_86 ⟨_, rfl, hw⟩
    · replace hw := it_t hc hw
      refine r_aload_n C dX12_counting_39 rfl ?_
      refine r_bipush (80) C dX12_counting_40 (by decide) ?_
      refine kX12_371 C (k0) (sX12_ran (k0) hw) dX12_counting_42 (Nat.le_of_ble_eq_true rfl) rfl (Nat.le_of_ble_eq_true rfl) (fun h10 hw => ?_)
      refine r_aload_n C dX12_counting_45 rfl ?_
      refine r_iload_n C dX12_counting_46 rfl ?_
      refine r_iload_n C dX12_counting_47 rfl ?_
      refine kX12_387 C (k0) (sX12_plainCounts (k0) hw) dX12_counting_48 (Nat.le_of_ble_eq_true rfl) rfl (Nat.le_of_ble_eq_true rfl) (fun v11 h12 hw => ?_)
      refine r_istore_n [some (.ref (G.1 a0)), some (.int x1), some (.int x2), some (.int v11)] C dX12_counting_51 (Nat.le_of_ble_eq_true rfl) rfl rfl ?_
      refine r_iload_n C dX12_counting_52 rfl ?_
      refine r_aload_n C dX12_counting_53 rfl ?_
      refine r_iload_n C dX12_counting_54 rfl ?_
      refine r_iconst (2) C dX12_counting_55 (by decide) ?_
      refine kX12_393 C (k0) (sX12_waitingAct (k0) hw) dX12_counting_56 (Nat.le_of_ble_eq_true rfl) rfl (Nat.le_of_ble_eq_true rfl) (fun v13 h14 hw => ?_)
      refine r_iadd C dX12_counting_59 ?_
      exact r_iret C dX12_counting_60 ⟨_, rfl, hw⟩
  · replace hw := it_f hc hw
    refine r_aload_n C dX12_counting_13 rfl ?_
    refine r_bipush (41) C dX12_counting_14 (by decide) ?_
    refine kX12_371 C (k0) (sX12_ran (k0) hw) dX12_counting_16 (Nat.le_of_ble_eq_true rfl) rfl (Nat.le_of_ble_eq_true rfl) (fun h16 hw => ?_)
    refine r_aload_n C dX12_counting_19 rfl ?_
    refine r_iload_n C dX12_counting_20 rfl ?_
    refine r_iload_n C dX12_counting_21 rfl ?_
    refine r_iconst (1) C dX12_counting_22 (by decide) ?_
    refine r_iadd C dX12_counting_23 ?_
    refine kX12_390 C (k0) (sX12_lookCounts (k0) hw) dX12_counting_24 (Nat.le_of_ble_eq_true rfl) rfl (Nat.le_of_ble_eq_true rfl) (fun v17 h18 hw => ?_)
    exact r_iret C dX12_counting_27 ⟨_, rfl, hw⟩
def wX12_plainTells (a0 : Nat) (x1 : Int32) (x2 : Int32) (h : Hp) (Q : Int32 → Hp → Prop) : Prop :=
  wX12_ran a0 (2 : Int32) h (fun h2 => wX12_counting a0 x1 x2 h2 (fun v3 h4 => wX12_waitingAct a0 x1 (1 : Int32) h4 (fun v5 h6 => Q (v3 - v5) h6)))
set_option maxRecDepth 20000 in
theorem sX12_plainTells {G : GG} {a0 : Nat} {x1 : Int32} {x2 : Int32} {h : Hp} {Q : Int32 → Hp → Prop} (k0 : kd a0 = 12) (hw : wX12_plainTells a0 x1 x2 h Q) : CI G 7 yX12_plainTells cX12_plainTells 4 (some .int) [.ref (G.1 a0), .int x1, .int x2] h Q := by
  refine CO_of [some (.ref (G.1 a0)), some (.int x1), some (.int x2), none] (by decide) (Nat.le_of_ble_eq_true rfl) rfl (fun X C => ?_)
  unfold wX12_plainTells at hw
  refine r_aload_n C dX12_plainTells_0 rfl ?_
  refine r_iconst (2) C dX12_plainTells_1 (by decide) ?_
  refine kX12_371 C (k0) (sX12_ran (k0) hw) dX12_plainTells_2 (Nat.le_of_ble_eq_true rfl) rfl (Nat.le_of_ble_eq_true rfl) (fun h2 hw => ?_)
  refine r_aload_n C dX12_plainTells_5 rfl ?_
  refine r_iload_n C dX12_plainTells_6 rfl ?_
  refine r_iload_n C dX12_plainTells_7 rfl ?_
  refine kX12_402 C (k0) (sX12_counting (k0) hw) dX12_plainTells_8 (Nat.le_of_ble_eq_true rfl) rfl (Nat.le_of_ble_eq_true rfl) (fun v3 h4 hw => ?_)
  refine r_istore_n [some (.ref (G.1 a0)), some (.int x1), some (.int x2), some (.int v3)] C dX12_plainTells_11 (Nat.le_of_ble_eq_true rfl) rfl rfl ?_
  refine r_iload_n C dX12_plainTells_12 rfl ?_
  refine r_aload_n C dX12_plainTells_13 rfl ?_
  refine r_iload_n C dX12_plainTells_14 rfl ?_
  refine r_iconst (1) C dX12_plainTells_15 (by decide) ?_
  refine kX12_393 C (k0) (sX12_waitingAct (k0) hw) dX12_plainTells_16 (Nat.le_of_ble_eq_true rfl) rfl (Nat.le_of_ble_eq_true rfl) (fun v5 h6 hw => ?_)
  refine r_isub C dX12_plainTells_19 ?_
  exact r_iret C dX12_plainTells_20 ⟨_, rfl, hw⟩
def wX12_telling (a0 : Nat) (x1 : Int32) (x2 : Int32) (h : Hp) (Q : Int32 → Hp → Prop) : Prop :=
  vp_in x1 (ln (rf a0 49)) ∧ (if (gI h (rf a0 49) x1.toNatClampNeg) = (4 : Int32) then (wX12_ran a0 (50 : Int32) h (fun h10 => wX12_plainTells a0 x1 x2 h10 (fun v11 h12 => Q (v11 ^^^ (5 : Int32)) h12))) else (vp_in x1 (ln (rf a0 49)) ∧ (if (gI h (rf a0 49) x1.toNatClampNeg) = (5 : Int32) then (wX12_ran a0 (61 : Int32) h (fun h6 => wX12_plainTells a0 x1 x2 h6 (fun v7 h8 => Q (v7 + (1 : Int32)) h8))) else (wX12_plainTells a0 x1 x2 h (fun v3 h4 => Q v3 h4)))))
set_option maxRecDepth 20000 in
theorem sX12_telling {G : GG} {a0 : Nat} {x1 : Int32} {x2 : Int32} {h : Hp} {Q : Int32 → Hp → Prop} (k0 : kd a0 = 12) (hw : wX12_telling a0 x1 x2 h Q) : CI G 8 yX12_telling cX12_telling 3 (some .int) [.ref (G.1 a0), .int x1, .int x2] h Q := by
  refine CO_of [some (.ref (G.1 a0)), some (.int x1), some (.int x2)] (by decide) (Nat.le_of_ble_eq_true rfl) rfl (fun X C => ?_)
  unfold wX12_telling at hw
  refine r_aload_n C dX12_telling_0 rfl ?_
  refine gX12_88 C (k0) dX12_telling_1 ?_
  refine r_iload_n C dX12_telling_4 rfl ?_
  obtain ⟨hi1, hw⟩ := hw
  refine r_iald C (kr12_49 (k0)) hi1 dX12_telling_5 ?_
  refine r_iconst (4) C dX12_telling_6 (by decide) ?_
  refine r_icmp_ne 25 C dX12_telling_7 (by decide) (fun hc => ?_) (fun hc => ?_)
  · replace hw := it_f hc hw
    refine r_aload_n C dX12_telling_25 rfl ?_
    refine gX12_88 C (k0) dX12_telling_26 ?_
    refine r_iload_n C dX12_telling_29 rfl ?_
    obtain ⟨hi2, hw⟩ := hw
    refine r_iald C (kr12_49 (k0)) hi2 dX12_telling_30 ?_
    refine r_iconst (5) C dX12_telling_31 (by decide) ?_
    refine r_icmp_ne 50 C dX12_telling_32 (by decide) (fun hc => ?_) (fun hc => ?_)
    · replace hw := it_f hc hw
      refine r_aload_n C dX12_telling_50 rfl ?_
      refine r_iload_n C dX12_telling_51 rfl ?_
      refine r_iload_n C dX12_telling_52 rfl ?_
      refine kX12_405 C (k0) (sX12_plainTells (k0) hw) dX12_telling_53 (Nat.le_of_ble_eq_true rfl) rfl (Nat.le_of_ble_eq_true rfl) (fun v3 h4 hw => ?_)
      exact r_iret C dX12_telling_56 ⟨_, rfl, hw⟩
    · replace hw := it_t hc hw
      refine r_aload_n C dX12_telling_35 rfl ?_
      refine r_bipush (61) C dX12_telling_36 (by decide) ?_
      refine kX12_371 C (k0) (sX12_ran (k0) hw) dX12_telling_38 (Nat.le_of_ble_eq_true rfl) rfl (Nat.le_of_ble_eq_true rfl) (fun h6 hw => ?_)
      refine r_aload_n C dX12_telling_41 rfl ?_
      refine r_iload_n C dX12_telling_42 rfl ?_
      refine r_iload_n C dX12_telling_43 rfl ?_
      refine kX12_405 C (k0) (sX12_plainTells (k0) hw) dX12_telling_44 (Nat.le_of_ble_eq_true rfl) rfl (Nat.le_of_ble_eq_true rfl) (fun v7 h8 hw => ?_)
      refine r_iconst (1) C dX12_telling_47 (by decide) ?_
      refine r_iadd C dX12_telling_48 ?_
      exact r_iret C dX12_telling_49 ⟨_, rfl, hw⟩
  · replace hw := it_t hc hw
    refine r_aload_n C dX12_telling_10 rfl ?_
    refine r_bipush (50) C dX12_telling_11 (by decide) ?_
    refine kX12_371 C (k0) (sX12_ran (k0) hw) dX12_telling_13 (Nat.le_of_ble_eq_true rfl) rfl (Nat.le_of_ble_eq_true rfl) (fun h10 hw => ?_)
    refine r_aload_n C dX12_telling_16 rfl ?_
    refine r_iload_n C dX12_telling_17 rfl ?_
    refine r_iload_n C dX12_telling_18 rfl ?_
    refine kX12_405 C (k0) (sX12_plainTells (k0) hw) dX12_telling_19 (Nat.le_of_ble_eq_true rfl) rfl (Nat.le_of_ble_eq_true rfl) (fun v11 h12 hw => ?_)
    refine r_iconst (5) C dX12_telling_22 (by decide) ?_
    refine r_ixor C dX12_telling_23 ?_
    exact r_iret C dX12_telling_24 ⟨_, rfl, hw⟩
def wX12_act (a0 : Nat) (x1 : Int32) (x2 : Int32) (x3 : Int32) (h : Hp) (Q : Int32 → Hp → Prop) : Prop :=
  ∀ h1 : Hp, h1 = sI h a0 50 (0 : Int32) → (wX12_isBody a0 x1 h1 (fun v2 => if v2 = 0 then (Q (0 : Int32) h1) else (wX12_in x2 (0 : Int32) (3 : Int32) h1 (fun v3 => if v3 = 0 then (Q (0 : Int32) h1) else (if x2 = 0 then (wX12_opening a0 x1 x3 h1 (fun v10 h11 => Q v10 h11)) else (if x2 = (1 : Int32) then (wX12_counting a0 x1 x3 h1 (fun v8 h9 => Q v8 h9)) else (if x2 = (2 : Int32) then (wX12_waitingAct a0 x1 x3 h1 (fun v6 h7 => Q v6 h7)) else (wX12_telling a0 x1 x3 h1 (fun v4 h5 => Q v4 h5)))))))))
set_option maxRecDepth 20000 in
theorem sX12_act {G : GG} {a0 : Nat} {x1 : Int32} {x2 : Int32} {x3 : Int32} {h : Hp} {Q : Int32 → Hp → Prop} (k0 : kd a0 = 12) (hw : wX12_act a0 x1 x2 x3 h Q) : CI G 9 yX12_act cX12_act 4 (some .int) [.ref (G.1 a0), .int x1, .int x2, .int x3] h Q := by
  refine CO_of [some (.ref (G.1 a0)), some (.int x1), some (.int x2), some (.int x3)] (by decide) (Nat.le_of_ble_eq_true rfl) rfl (fun X C => ?_)
  unfold wX12_act at hw
  refine r_aload_n C dX12_act_0 rfl ?_
  refine r_iconst (0) C dX12_act_1 (by decide) ?_
  refine pX12_368 C (k0) dX12_act_2 ?_
  refine r_toph (fun h1 eh1 => ?_)
  replace hw := hw h1 eh1
  refine r_aload_n C dX12_act_5 rfl ?_
  refine r_iload_n C dX12_act_6 rfl ?_
  refine kX12_408 C (k0) (sX12_isBody (k0) hw) dX12_act_7 (Nat.le_of_ble_eq_true rfl) rfl (Nat.le_of_ble_eq_true rfl) (fun v2 hw => ?_)
  refine r_if_eq 22 C dX12_act_10 (by decide) (fun hc => ?_) (fun hc => ?_)
  · replace hw := it_t hc hw
    refine r_iconst (0) C dX12_act_22 (by decide) ?_
    exact r_iret C dX12_act_23 ⟨_, rfl, hw⟩
  · replace hw := it_f hc hw
    refine r_iload_n C dX12_act_13 rfl ?_
    refine r_iconst (0) C dX12_act_14 (by decide) ?_
    refine r_iconst (3) C dX12_act_15 (by decide) ?_
    refine kX12_114 C (sX12_in hw) dX12_act_16 (Nat.le_of_ble_eq_true rfl) rfl (Nat.le_of_ble_eq_true rfl) (fun v3 hw => ?_)
    refine r_if_ne 24 C dX12_act_19 (by decide) (fun hc => ?_) (fun hc => ?_)
    · replace hw := it_f hc hw
      refine r_iload_n C dX12_act_24 rfl ?_
      refine r_if_ne 37 C dX12_act_25 (by decide) (fun hc => ?_) (fun hc => ?_)
      · replace hw := it_f hc hw
        refine r_iload_n C dX12_act_37 rfl ?_
        refine r_iconst (1) C dX12_act_38 (by decide) ?_
        refine r_icmp_ne 51 C dX12_act_39 (by decide) (fun hc => ?_) (fun hc => ?_)
        · replace hw := it_f hc hw
          refine r_iload_n C dX12_act_51 rfl ?_
          refine r_iconst (2) C dX12_act_52 (by decide) ?_
          refine r_icmp_ne 65 C dX12_act_53 (by decide) (fun hc => ?_) (fun hc => ?_)
          · replace hw := it_f hc hw
            refine r_aload_n C dX12_act_65 rfl ?_
            refine r_iload_n C dX12_act_66 rfl ?_
            refine r_iload_n C dX12_act_67 rfl ?_
            refine kX12_411 C (k0) (sX12_telling (k0) hw) dX12_act_68 (Nat.le_of_ble_eq_true rfl) rfl (Nat.le_of_ble_eq_true rfl) (fun v4 h5 hw => ?_)
            exact r_iret C dX12_act_71 ⟨_, rfl, hw⟩
          · replace hw := it_t hc hw
            refine r_aload_n C dX12_act_56 rfl ?_
            refine r_iload_n C dX12_act_57 rfl ?_
            refine r_iload_n C dX12_act_58 rfl ?_
            refine kX12_393 C (k0) (sX12_waitingAct (k0) hw) dX12_act_59 (Nat.le_of_ble_eq_true rfl) rfl (Nat.le_of_ble_eq_true rfl) (fun v6 h7 hw => ?_)
            refine r_goto 71 C dX12_act_62 (by decide) ?_
            exact r_iret C dX12_act_71 ⟨_, rfl, hw⟩
        · replace hw := it_t hc hw
          refine r_aload_n C dX12_act_42 rfl ?_
          refine r_iload_n C dX12_act_43 rfl ?_
          refine r_iload_n C dX12_act_44 rfl ?_
          refine kX12_402 C (k0) (sX12_counting (k0) hw) dX12_act_45 (Nat.le_of_ble_eq_true rfl) rfl (Nat.le_of_ble_eq_true rfl) (fun v8 h9 hw => ?_)
          refine r_goto 71 C dX12_act_48 (by decide) ?_
          exact r_iret C dX12_act_71 ⟨_, rfl, hw⟩
      · replace hw := it_t hc hw
        refine r_aload_n C dX12_act_28 rfl ?_
        refine r_iload_n C dX12_act_29 rfl ?_
        refine r_iload_n C dX12_act_30 rfl ?_
        refine kX12_384 C (k0) (sX12_opening (k0) hw) dX12_act_31 (Nat.le_of_ble_eq_true rfl) rfl (Nat.le_of_ble_eq_true rfl) (fun v10 h11 hw => ?_)
        refine r_goto 71 C dX12_act_34 (by decide) ?_
        exact r_iret C dX12_act_71 ⟨_, rfl, hw⟩
    · replace hw := it_t hc hw
      refine r_iconst (0) C dX12_act_22 (by decide) ?_
      exact r_iret C dX12_act_23 ⟨_, rfl, hw⟩
