abbrev TG2 : Type := (Nat → Hp → (Hp → Prop) → Prop) × (Nat → Hp → (Hp → Prop) → Prop) × (Nat → Hp → (Hp → Prop) → Prop) × (Nat → Hp → (Hp → Prop) → Prop) × (Nat → Hp → (Hp → Prop) → Prop) × (Nat → Hp → (Hp → Prop) → Prop)
def HG2 (G : GG) (r : TG2) (n : Nat) : Prop := (∀ (a0 : Nat) (h : Hp) (Q : (Hp → Prop)), kd a0 = 12 → r.1 a0 h Q → CV G (2 + n) yX12_operand cX12_operand 2 none [.ref (G.1 a0)] h Q) ∧ (∀ (a0 : Nat) (h : Hp) (Q : (Hp → Prop)), kd a0 = 12 → r.2.1 a0 h Q → CV G (2 + n) yX12_product cX12_product 2 none [.ref (G.1 a0)] h Q) ∧ (∀ (a0 : Nat) (h : Hp) (Q : (Hp → Prop)), kd a0 = 12 → r.2.2.1 a0 h Q → CV G (2 + n) yX12_oneSum cX12_oneSum 2 none [.ref (G.1 a0)] h Q) ∧ (∀ (a0 : Nat) (h : Hp) (Q : (Hp → Prop)), kd a0 = 12 → r.2.2.2.1 a0 h Q → CV G (2 + n) yX12_compared cX12_compared 2 none [.ref (G.1 a0)] h Q) ∧ (∀ (a0 : Nat) (h : Hp) (Q : (Hp → Prop)), kd a0 = 12 → r.2.2.2.2.1 a0 h Q → CV G (2 + n) yX12_both cX12_both 1 none [.ref (G.1 a0)] h Q) ∧ (∀ (a0 : Nat) (h : Hp) (Q : (Hp → Prop)), kd a0 = 12 → r.2.2.2.2.2 a0 h Q → CV G (2 + n) yX12_either cX12_either 1 none [.ref (G.1 a0)] h Q)
def jX12_operand_80 (b0 : Nat) (s1 : Int32) (h : Hp) (r : TG2) (Q : Hp → Prop) : Prop :=
  wX12_addStep b0 s1 (0 : Int32) h (fun h2 => Q h2)
set_option maxRecDepth 20000 in
theorem tX12_operand_80 {G : GG} {X : XX} {n : Nat} {r : TG2} {b0 : Nat} {s1 : Int32} {h : Hp}  {Q : Hp → Prop} (C : Cx G RX12 cX12_operand 2 none (2 + n + 1) 0 0 X) (hr : HG2 G r n) (kb0 : kd b0 = 12) (hw : jX12_operand_80 b0 s1 h r Q) : R0 G X 0 0 (ZM G (fun r h' => r = none ∧ Q h') X) 80 [none, none] [.int s1, .ref (G.1 b0)] h := by
  unfold jX12_operand_80 at hw
  refine r_iconst (0) C dX12_operand_80 (by decide) ?_
  refine kX12_182 C (kb0) (sX12_addStep (kb0) hw) dX12_operand_81 (by omega) rfl (Nat.le_of_ble_eq_true rfl) (fun h2 hw => ?_)
  refine r_goto 154 C dX12_operand_84 (by decide) ?_
  exact r_vret C dX12_operand_154 ⟨rfl, hw⟩
def jX12_operand_46 (a0 : Nat) (x1 : Int32) (h : Hp) (r : TG2) (Q : Hp → Prop) : Prop :=
  wX12_opens a0 h (fun v1 h2 => if v1 = 0 then (Q h2) else (r.1 a0 h2 (fun h4 => ∀ h5 : Hp, h5 = sI h4 a0 21 ((gI h4 a0 21) - (1 : Int32)) → (if x1 = (33 : Int32) then (jX12_operand_80 a0 (3 : Int32) h5 r Q) else (jX12_operand_80 a0 (4 : Int32) h5 r Q)))))
set_option maxRecDepth 20000 in
theorem tX12_operand_46 {G : GG} {X : XX} {n : Nat} {r : TG2} {a0 : Nat} {x1 : Int32} {h : Hp}  {Q : Hp → Prop} (C : Cx G RX12 cX12_operand 2 none (2 + n + 1) 0 0 X) (hr : HG2 G r n) (k0 : kd a0 = 12) (hw : jX12_operand_46 a0 x1 h r Q) : R0 G X 0 0 (ZM G (fun r h' => r = none ∧ Q h') X) 46 [some (.ref (G.1 a0)), some (.int x1)] [] h := by
  unfold jX12_operand_46 at hw
  refine r_aload_n C dX12_operand_46 rfl ?_
  refine kX12_190 C (k0) (sX12_opens (k0) hw) dX12_operand_47 (by omega) rfl (Nat.le_of_ble_eq_true rfl) (fun v1 h2 hw => ?_)
  refine r_if_ne 54 C dX12_operand_50 (by decide) (fun hc => ?_) (fun hc => ?_)
  · replace hw := it_f hc hw
    refine r_aload_n C dX12_operand_54 rfl ?_
    refine kX12_194 C (k0) (hr.1 _ _ _ (k0) hw) dX12_operand_55 (by omega) rfl (Nat.le_of_ble_eq_true rfl) (fun h4 hw => ?_)
    refine r_aload_n C dX12_operand_58 rfl ?_
    refine r_dup C dX12_operand_59 rfl ?_
    refine gX12_172 C (k0) dX12_operand_60 ?_
    refine r_iconst (1) C dX12_operand_63 (by decide) ?_
    refine r_isub C dX12_operand_64 ?_
    refine pX12_172 C (k0) dX12_operand_65 ?_
    refine r_toph (fun h5 eh5 => ?_)
    replace hw := hw h5 eh5
    refine r_aload_n C dX12_operand_68 rfl ?_
    refine r_iload_n C dX12_operand_69 rfl ?_
    refine r_bipush (33) C dX12_operand_70 (by decide) ?_
    refine r_icmp_ne 79 C dX12_operand_72 (by decide) (fun hc => ?_) (fun hc => ?_)
    · replace hw := it_f hc hw
      refine r_iconst (4) C dX12_operand_79 (by decide) ?_
      refine r_weak [none, none] (lw_d (lw_d (lw_n))) ?_
      exact tX12_operand_80 C hr (k0) hw
    · replace hw := it_t hc hw
      refine r_iconst (3) C dX12_operand_75 (by decide) ?_
      refine r_goto 80 C dX12_operand_76 (by decide) ?_
      refine r_weak [none, none] (lw_d (lw_d (lw_n))) ?_
      exact tX12_operand_80 C hr (k0) hw
  · replace hw := it_t hc hw
    exact r_vret C dX12_operand_53 ⟨rfl, hw⟩
def bX12_operand (r : TG2) (a0 : Nat) (h : Hp) (Q : Hp → Prop) : Prop :=
  wX12_look a0 h (fun v1 => wX12_nameOf v1 h (fun v2 => if v2 < 0 then (if v1 = (33 : Int32) then (jX12_operand_46 a0 v1 h r Q) else (if v1 = (45 : Int32) then (jX12_operand_46 a0 v1 h r Q) else (if v1 = (40 : Int32) then (wX12_opens a0 h (fun v5 h6 => if v5 = 0 then (Q h6) else (r.2.2.2.2.2 a0 h6 (fun h8 => if (gI h8 a0 20) < 0 then (wX12_look a0 h8 (fun v9 => if v9 = (41 : Int32) then (∀ h10 : Hp, h10 = sI h8 a0 19 ((gI h8 a0 19) + (1 : Int32)) → (∀ h11 : Hp, h11 = sI h10 a0 21 ((gI h10 a0 21) - (1 : Int32)) → (Q h11))) else (wX12_faulty a0 h8 (fun h13 => Q h13)))) else (Q h8))))) else (wX12_figure a0 h (fun h4 => Q h4))))) else (wX12_nameOf v1 h (fun v14 => wX12_addStep a0 (2 : Int32) v14 h (fun h16 => ∀ h17 : Hp, h17 = sI h16 a0 19 ((gI h16 a0 19) + (1 : Int32)) → (Q h17))))))
set_option maxRecDepth 20000 in
theorem uX12_operand {G : GG} {n : Nat} {r : TG2} {a0 : Nat} {h : Hp} {Q : Hp → Prop} (hr : HG2 G r n) (k0 : kd a0 = 12) (hw : bX12_operand r a0 h Q) : CV G (2 + n + 1) yX12_operand cX12_operand 2 none [.ref (G.1 a0)] h Q := by
  refine CO_of [some (.ref (G.1 a0)), none] (by decide) (Nat.le_of_ble_eq_true rfl) rfl (fun X C => ?_)
  unfold bX12_operand at hw
  refine r_aload_n C dX12_operand_0 rfl ?_
  refine kX12_178 C (k0) (sX12_look (k0) hw) dX12_operand_1 (by omega) rfl (Nat.le_of_ble_eq_true rfl) (fun v1 hw => ?_)
  refine r_istore_n [some (.ref (G.1 a0)), some (.int v1)] C dX12_operand_4 (Nat.le_of_ble_eq_true rfl) rfl rfl ?_
  refine r_iload_n C dX12_operand_5 rfl ?_
  refine kX12_186 C (sX12_nameOf hw) dX12_operand_6 (by omega) rfl (Nat.le_of_ble_eq_true rfl) (fun v2 hw => ?_)
  refine r_if_lt 34 C dX12_operand_9 (by decide) (fun hc => ?_) (fun hc => ?_)
  · replace hw := it_t hc hw
    refine r_iload_n C dX12_operand_34 rfl ?_
    refine r_bipush (33) C dX12_operand_35 (by decide) ?_
    refine r_icmp_eq 46 C dX12_operand_37 (by decide) (fun hc => ?_) (fun hc => ?_)
    · replace hw := it_t hc hw
      exact tX12_operand_46 C hr (k0) hw
    · replace hw := it_f hc hw
      refine r_iload_n C dX12_operand_40 rfl ?_
      refine r_bipush (45) C dX12_operand_41 (by decide) ?_
      refine r_icmp_ne 87 C dX12_operand_43 (by decide) (fun hc => ?_) (fun hc => ?_)
      · replace hw := it_f hc hw
        refine r_iload_n C dX12_operand_87 rfl ?_
        refine r_bipush (40) C dX12_operand_88 (by decide) ?_
        refine r_icmp_ne 150 C dX12_operand_90 (by decide) (fun hc => ?_) (fun hc => ?_)
        · replace hw := it_f hc hw
          refine r_aload_n C dX12_operand_150 rfl ?_
          refine kX12_200 C (k0) (sX12_figure (k0) hw) dX12_operand_151 (by omega) rfl (Nat.le_of_ble_eq_true rfl) (fun h4 hw => ?_)
          exact r_vret C dX12_operand_154 ⟨rfl, hw⟩
        · replace hw := it_t hc hw
          refine r_aload_n C dX12_operand_93 rfl ?_
          refine kX12_190 C (k0) (sX12_opens (k0) hw) dX12_operand_94 (by omega) rfl (Nat.le_of_ble_eq_true rfl) (fun v5 h6 hw => ?_)
          refine r_if_ne 101 C dX12_operand_97 (by decide) (fun hc => ?_) (fun hc => ?_)
          · replace hw := it_f hc hw
            refine r_aload_n C dX12_operand_101 rfl ?_
            refine kX12_197 C (k0) (hr.2.2.2.2.2 _ _ _ (k0) hw) dX12_operand_102 (by omega) rfl (Nat.le_of_ble_eq_true rfl) (fun h8 hw => ?_)
            refine r_aload_n C dX12_operand_105 rfl ?_
            refine gX12_166 C (k0) dX12_operand_106 ?_
            refine r_if_lt 113 C dX12_operand_109 (by decide) (fun hc => ?_) (fun hc => ?_)
            · replace hw := it_t hc hw
              refine r_aload_n C dX12_operand_113 rfl ?_
              refine kX12_178 C (k0) (sX12_look (k0) hw) dX12_operand_114 (by omega) rfl (Nat.le_of_ble_eq_true rfl) (fun v9 hw => ?_)
              refine r_bipush (41) C dX12_operand_117 (by decide) ?_
              refine r_icmp_eq 127 C dX12_operand_119 (by decide) (fun hc => ?_) (fun hc => ?_)
              · replace hw := it_t hc hw
                refine r_aload_n C dX12_operand_127 rfl ?_
                refine r_dup C dX12_operand_128 rfl ?_
                refine gX12_163 C (k0) dX12_operand_129 ?_
                refine r_iconst (1) C dX12_operand_132 (by decide) ?_
                refine r_iadd C dX12_operand_133 ?_
                refine pX12_163 C (k0) dX12_operand_134 ?_
                refine r_toph (fun h10 eh10 => ?_)
                replace hw := hw h10 eh10
                refine r_aload_n C dX12_operand_137 rfl ?_
                refine r_dup C dX12_operand_138 rfl ?_
                refine gX12_172 C (k0) dX12_operand_139 ?_
                refine r_iconst (1) C dX12_operand_142 (by decide) ?_
                refine r_isub C dX12_operand_143 ?_
                refine pX12_172 C (k0) dX12_operand_144 ?_
                refine r_toph (fun h11 eh11 => ?_)
                replace hw := hw h11 eh11
                refine r_goto 154 C dX12_operand_147 (by decide) ?_
                exact r_vret C dX12_operand_154 ⟨rfl, hw⟩
              · replace hw := it_f hc hw
                refine r_aload_n C dX12_operand_122 rfl ?_
                refine kX12_175 C (k0) (sX12_faulty (k0) hw) dX12_operand_123 (by omega) rfl (Nat.le_of_ble_eq_true rfl) (fun h13 hw => ?_)
                exact r_vret C dX12_operand_126 ⟨rfl, hw⟩
            · replace hw := it_f hc hw
              exact r_vret C dX12_operand_112 ⟨rfl, hw⟩
          · replace hw := it_t hc hw
            exact r_vret C dX12_operand_100 ⟨rfl, hw⟩
      · replace hw := it_t hc hw
        exact tX12_operand_46 C hr (k0) hw
  · replace hw := it_f hc hw
    refine r_aload_n C dX12_operand_12 rfl ?_
    refine r_iconst (2) C dX12_operand_13 (by decide) ?_
    refine r_iload_n C dX12_operand_14 rfl ?_
    refine kX12_186 C (sX12_nameOf hw) dX12_operand_15 (by omega) rfl (Nat.le_of_ble_eq_true rfl) (fun v14 hw => ?_)
    refine kX12_182 C (k0) (sX12_addStep (k0) hw) dX12_operand_18 (by omega) rfl (Nat.le_of_ble_eq_true rfl) (fun h16 hw => ?_)
    refine r_aload_n C dX12_operand_21 rfl ?_
    refine r_dup C dX12_operand_22 rfl ?_
    refine gX12_163 C (k0) dX12_operand_23 ?_
    refine r_iconst (1) C dX12_operand_26 (by decide) ?_
    refine r_iadd C dX12_operand_27 ?_
    refine pX12_163 C (k0) dX12_operand_28 ?_
    refine r_toph (fun h17 eh17 => ?_)
    replace hw := hw h17 eh17
    refine r_goto 154 C dX12_operand_31 (by decide) ?_
    exact r_vret C dX12_operand_154 ⟨rfl, hw⟩
def jX12_product_38 (a0 : Nat) (h : Hp) (r : TG2) (K4 : Hp → Prop) (Q : Hp → Prop) : Prop :=
  wX12_look a0 h (fun v1 => ∀ h2 : Hp, h2 = sI h a0 19 ((gI h a0 19) + (1 : Int32)) → (r.1 a0 h2 (fun h4 => wX12_addStep a0 v1 (0 : Int32) h4 (fun h6 => K4 h6))))
set_option maxRecDepth 20000 in
theorem tX12_product_38 {G : GG} {X : XX} {n : Nat} {r : TG2} {a0 : Nat} {h : Hp}  {K4 : Hp → Prop} {Q : Hp → Prop} (C : Cx G RX12 cX12_product 2 none (2 + n + 1) 0 0 X) (hr : HG2 G r n) (k0 : kd a0 = 12) (hK4 : ∀ (h' : Hp), K4 h' → R0 G X 0 0 (ZM G (fun r h' => r = none ∧ Q h') X) 4 [some (.ref (G.1 a0)), none] [] h') (hw : jX12_product_38 a0 h r K4 Q) : R0 G X 0 0 (ZM G (fun r h' => r = none ∧ Q h') X) 38 [some (.ref (G.1 a0)), none] [] h := by
  unfold jX12_product_38 at hw
  refine r_aload_n C dX12_product_38 rfl ?_
  refine kX12_178 C (k0) (sX12_look (k0) hw) dX12_product_39 (by omega) rfl (Nat.le_of_ble_eq_true rfl) (fun v1 hw => ?_)
  refine r_istore_n [some (.ref (G.1 a0)), some (.int v1)] C dX12_product_42 (Nat.le_of_ble_eq_true rfl) rfl rfl ?_
  refine r_aload_n C dX12_product_43 rfl ?_
  refine r_dup C dX12_product_44 rfl ?_
  refine gX12_163 C (k0) dX12_product_45 ?_
  refine r_iconst (1) C dX12_product_48 (by decide) ?_
  refine r_iadd C dX12_product_49 ?_
  refine pX12_163 C (k0) dX12_product_50 ?_
  refine r_toph (fun h2 eh2 => ?_)
  replace hw := hw h2 eh2
  refine r_aload_n C dX12_product_53 rfl ?_
  refine kX12_194 C (k0) (hr.1 _ _ _ (k0) hw) dX12_product_54 (by omega) rfl (Nat.le_of_ble_eq_true rfl) (fun h4 hw => ?_)
  refine r_aload_n C dX12_product_57 rfl ?_
  refine r_iload_n C dX12_product_58 rfl ?_
  refine r_iconst (0) C dX12_product_59 (by decide) ?_
  refine kX12_182 C (k0) (sX12_addStep (k0) hw) dX12_product_60 (by omega) rfl (Nat.le_of_ble_eq_true rfl) (fun h6 hw => ?_)
  refine r_goto 4 C dX12_product_63 (by decide) ?_
  refine r_weak [some (.ref (G.1 a0)), none] (lw_k (lw_d (lw_n))) ?_
  exact hK4 _ hw
def fX12_product_4 (a0 : Nat) (r : TG2) (Q : Hp → Prop) (K4 : Hp → Prop) (h : Hp) : Prop :=
  if 0 ≤ (gI h a0 20) then (Q h) else (wX12_look a0 h (fun v1 => if v1 = (42 : Int32) then (jX12_product_38 a0 h r K4 Q) else (wX12_look a0 h (fun v2 => if v2 = (47 : Int32) then (jX12_product_38 a0 h r K4 Q) else (wX12_look a0 h (fun v3 => if v3 = (37 : Int32) then (jX12_product_38 a0 h r K4 Q) else (Q h)))))))
def eX12_product_4 (a0 : Nat) (r : TG2) (Q : Hp → Prop) (h : Hp) : Prop := ∃ N, lpN (fun (K : Hp → Prop) (s : Hp) => fX12_product_4 a0 r Q (fun h => K h) s) N h
theorem iX12_product_4 {a0 : Nat} {r : TG2} {Q : Hp → Prop} (I : Hp → Prop) (μ : Hp → Nat) (hs : ∀ (h : Hp), I h → ∀ K : Hp → Prop, (∀ (h' : Hp), I h' → μ h' < μ h → K h') → fX12_product_4 a0 r Q K h) : ∀ (h : Hp), I h → eX12_product_4 a0 r Q h := fun h hI => lp_ind (fun s => I s) (fun s => μ s) (fun s hs' K hK => hs s hs' _ (fun h' h1 h2 => hK h' h1 h2)) h hI
set_option maxRecDepth 20000 in
theorem tX12_product_4 {G : GG} {X : XX} {n : Nat} {r : TG2} {a0 : Nat} {h : Hp}  {Q : Hp → Prop} (C : Cx G RX12 cX12_product 2 none (2 + n + 1) 0 0 X) (hr : HG2 G r n) (k0 : kd a0 = 12) (hw : eX12_product_4 a0 r Q h) : R0 G X 0 0 (ZM G (fun r h' => r = none ∧ Q h') X) 4 [some (.ref (G.1 a0)), none] [] h := by
  obtain ⟨N, hw⟩ := hw
  induction N generalizing h with
  | zero => exact hw.elim
  | succ N ih =>
    obtain ⟨K4, eK⟩ : ∃ K : Hp → Prop, K = (fun h => lpN (fun (K : Hp → Prop) (s : Hp) => fX12_product_4 a0 r Q (fun h => K h) s) N h) := ⟨_, rfl⟩
    have hw : fX12_product_4 a0 r Q (fun h => lpN (fun (K : Hp → Prop) (s : Hp) => fX12_product_4 a0 r Q (fun h => K h) s) N h) h := hw
    have hK4 : ∀ (h : Hp), K4 h → R0 G X 0 0 (ZM G (fun r h' => r = none ∧ Q h') X) 4 [some (.ref (G.1 a0)), none] [] h := fun h q => ih (by rw [eK] at q; exact q)
    rw [← eK] at hw
    clear eK ih
    unfold fX12_product_4 at hw
    refine r_aload_n C dX12_product_4 rfl ?_
    refine gX12_166 C (k0) dX12_product_5 ?_
    refine r_if_ge 66 C dX12_product_8 (by decide) (fun hc => ?_) (fun hc => ?_)
    · replace hw := it_t hc hw
      exact r_vret C dX12_product_66 ⟨rfl, hw⟩
    · replace hw := it_f hc hw
      refine r_aload_n C dX12_product_11 rfl ?_
      refine kX12_178 C (k0) (sX12_look (k0) hw) dX12_product_12 (by omega) rfl (Nat.le_of_ble_eq_true rfl) (fun v1 hw => ?_)
      refine r_bipush (42) C dX12_product_15 (by decide) ?_
      refine r_icmp_eq 38 C dX12_product_17 (by decide) (fun hc => ?_) (fun hc => ?_)
      · replace hw := it_t hc hw
        exact tX12_product_38 C hr (k0) hK4 hw
      · replace hw := it_f hc hw
        refine r_aload_n C dX12_product_20 rfl ?_
        refine kX12_178 C (k0) (sX12_look (k0) hw) dX12_product_21 (by omega) rfl (Nat.le_of_ble_eq_true rfl) (fun v2 hw => ?_)
        refine r_bipush (47) C dX12_product_24 (by decide) ?_
        refine r_icmp_eq 38 C dX12_product_26 (by decide) (fun hc => ?_) (fun hc => ?_)
        · replace hw := it_t hc hw
          exact tX12_product_38 C hr (k0) hK4 hw
        · replace hw := it_f hc hw
          refine r_aload_n C dX12_product_29 rfl ?_
          refine kX12_178 C (k0) (sX12_look (k0) hw) dX12_product_30 (by omega) rfl (Nat.le_of_ble_eq_true rfl) (fun v3 hw => ?_)
          refine r_bipush (37) C dX12_product_33 (by decide) ?_
          refine r_icmp_ne 66 C dX12_product_35 (by decide) (fun hc => ?_) (fun hc => ?_)
          · replace hw := it_f hc hw
            exact r_vret C dX12_product_66 ⟨rfl, hw⟩
          · replace hw := it_t hc hw
            exact tX12_product_38 C hr (k0) hK4 hw
def bX12_product (r : TG2) (a0 : Nat) (h : Hp) (Q : Hp → Prop) : Prop :=
  r.1 a0 h (fun h2 => eX12_product_4 a0 r Q h2)
set_option maxRecDepth 20000 in
theorem uX12_product {G : GG} {n : Nat} {r : TG2} {a0 : Nat} {h : Hp} {Q : Hp → Prop} (hr : HG2 G r n) (k0 : kd a0 = 12) (hw : bX12_product r a0 h Q) : CV G (2 + n + 1) yX12_product cX12_product 2 none [.ref (G.1 a0)] h Q := by
  refine CO_of [some (.ref (G.1 a0)), none] (by decide) (Nat.le_of_ble_eq_true rfl) rfl (fun X C => ?_)
  unfold bX12_product at hw
  refine r_aload_n C dX12_product_0 rfl ?_
  refine kX12_194 C (k0) (hr.1 _ _ _ (k0) hw) dX12_product_1 (by omega) rfl (Nat.le_of_ble_eq_true rfl) (fun h2 hw => ?_)
  exact tX12_product_4 C hr (k0) hw
def jX12_oneSum_29 (a0 : Nat) (h : Hp) (r : TG2) (K4 : Hp → Prop) (Q : Hp → Prop) : Prop :=
  wX12_look a0 h (fun v1 => ∀ h2 : Hp, h2 = sI h a0 19 ((gI h a0 19) + (1 : Int32)) → (r.2.1 a0 h2 (fun h4 => wX12_addStep a0 v1 (0 : Int32) h4 (fun h6 => K4 h6))))
set_option maxRecDepth 20000 in
theorem tX12_oneSum_29 {G : GG} {X : XX} {n : Nat} {r : TG2} {a0 : Nat} {h : Hp}  {K4 : Hp → Prop} {Q : Hp → Prop} (C : Cx G RX12 cX12_oneSum 2 none (2 + n + 1) 0 0 X) (hr : HG2 G r n) (k0 : kd a0 = 12) (hK4 : ∀ (h' : Hp), K4 h' → R0 G X 0 0 (ZM G (fun r h' => r = none ∧ Q h') X) 4 [some (.ref (G.1 a0)), none] [] h') (hw : jX12_oneSum_29 a0 h r K4 Q) : R0 G X 0 0 (ZM G (fun r h' => r = none ∧ Q h') X) 29 [some (.ref (G.1 a0)), none] [] h := by
  unfold jX12_oneSum_29 at hw
  refine r_aload_n C dX12_oneSum_29 rfl ?_
  refine kX12_178 C (k0) (sX12_look (k0) hw) dX12_oneSum_30 (by omega) rfl (Nat.le_of_ble_eq_true rfl) (fun v1 hw => ?_)
  refine r_istore_n [some (.ref (G.1 a0)), some (.int v1)] C dX12_oneSum_33 (Nat.le_of_ble_eq_true rfl) rfl rfl ?_
  refine r_aload_n C dX12_oneSum_34 rfl ?_
  refine r_dup C dX12_oneSum_35 rfl ?_
  refine gX12_163 C (k0) dX12_oneSum_36 ?_
  refine r_iconst (1) C dX12_oneSum_39 (by decide) ?_
  refine r_iadd C dX12_oneSum_40 ?_
  refine pX12_163 C (k0) dX12_oneSum_41 ?_
  refine r_toph (fun h2 eh2 => ?_)
  replace hw := hw h2 eh2
  refine r_aload_n C dX12_oneSum_44 rfl ?_
  refine kX12_203 C (k0) (hr.2.1 _ _ _ (k0) hw) dX12_oneSum_45 (by omega) rfl (Nat.le_of_ble_eq_true rfl) (fun h4 hw => ?_)
  refine r_aload_n C dX12_oneSum_48 rfl ?_
  refine r_iload_n C dX12_oneSum_49 rfl ?_
  refine r_iconst (0) C dX12_oneSum_50 (by decide) ?_
  refine kX12_182 C (k0) (sX12_addStep (k0) hw) dX12_oneSum_51 (by omega) rfl (Nat.le_of_ble_eq_true rfl) (fun h6 hw => ?_)
  refine r_goto 4 C dX12_oneSum_54 (by decide) ?_
  refine r_weak [some (.ref (G.1 a0)), none] (lw_k (lw_d (lw_n))) ?_
  exact hK4 _ hw
def fX12_oneSum_4 (a0 : Nat) (r : TG2) (Q : Hp → Prop) (K4 : Hp → Prop) (h : Hp) : Prop :=
  if 0 ≤ (gI h a0 20) then (Q h) else (wX12_look a0 h (fun v1 => if v1 = (43 : Int32) then (jX12_oneSum_29 a0 h r K4 Q) else (wX12_look a0 h (fun v2 => if v2 = (45 : Int32) then (jX12_oneSum_29 a0 h r K4 Q) else (Q h)))))
def eX12_oneSum_4 (a0 : Nat) (r : TG2) (Q : Hp → Prop) (h : Hp) : Prop := ∃ N, lpN (fun (K : Hp → Prop) (s : Hp) => fX12_oneSum_4 a0 r Q (fun h => K h) s) N h
theorem iX12_oneSum_4 {a0 : Nat} {r : TG2} {Q : Hp → Prop} (I : Hp → Prop) (μ : Hp → Nat) (hs : ∀ (h : Hp), I h → ∀ K : Hp → Prop, (∀ (h' : Hp), I h' → μ h' < μ h → K h') → fX12_oneSum_4 a0 r Q K h) : ∀ (h : Hp), I h → eX12_oneSum_4 a0 r Q h := fun h hI => lp_ind (fun s => I s) (fun s => μ s) (fun s hs' K hK => hs s hs' _ (fun h' h1 h2 => hK h' h1 h2)) h hI
set_option maxRecDepth 20000 in
theorem tX12_oneSum_4 {G : GG} {X : XX} {n : Nat} {r : TG2} {a0 : Nat} {h : Hp}  {Q : Hp → Prop} (C : Cx G RX12 cX12_oneSum 2 none (2 + n + 1) 0 0 X) (hr : HG2 G r n) (k0 : kd a0 = 12) (hw : eX12_oneSum_4 a0 r Q h) : R0 G X 0 0 (ZM G (fun r h' => r = none ∧ Q h') X) 4 [some (.ref (G.1 a0)), none] [] h := by
  obtain ⟨N, hw⟩ := hw
  induction N generalizing h with
  | zero => exact hw.elim
  | succ N ih =>
    obtain ⟨K4, eK⟩ : ∃ K : Hp → Prop, K = (fun h => lpN (fun (K : Hp → Prop) (s : Hp) => fX12_oneSum_4 a0 r Q (fun h => K h) s) N h) := ⟨_, rfl⟩
    have hw : fX12_oneSum_4 a0 r Q (fun h => lpN (fun (K : Hp → Prop) (s : Hp) => fX12_oneSum_4 a0 r Q (fun h => K h) s) N h) h := hw
    have hK4 : ∀ (h : Hp), K4 h → R0 G X 0 0 (ZM G (fun r h' => r = none ∧ Q h') X) 4 [some (.ref (G.1 a0)), none] [] h := fun h q => ih (by rw [eK] at q; exact q)
    rw [← eK] at hw
    clear eK ih
    unfold fX12_oneSum_4 at hw
    refine r_aload_n C dX12_oneSum_4 rfl ?_
    refine gX12_166 C (k0) dX12_oneSum_5 ?_
    refine r_if_ge 57 C dX12_oneSum_8 (by decide) (fun hc => ?_) (fun hc => ?_)
    · replace hw := it_t hc hw
      exact r_vret C dX12_oneSum_57 ⟨rfl, hw⟩
    · replace hw := it_f hc hw
      refine r_aload_n C dX12_oneSum_11 rfl ?_
      refine kX12_178 C (k0) (sX12_look (k0) hw) dX12_oneSum_12 (by omega) rfl (Nat.le_of_ble_eq_true rfl) (fun v1 hw => ?_)
      refine r_bipush (43) C dX12_oneSum_15 (by decide) ?_
      refine r_icmp_eq 29 C dX12_oneSum_17 (by decide) (fun hc => ?_) (fun hc => ?_)
      · replace hw := it_t hc hw
        exact tX12_oneSum_29 C hr (k0) hK4 hw
      · replace hw := it_f hc hw
        refine r_aload_n C dX12_oneSum_20 rfl ?_
        refine kX12_178 C (k0) (sX12_look (k0) hw) dX12_oneSum_21 (by omega) rfl (Nat.le_of_ble_eq_true rfl) (fun v2 hw => ?_)
        refine r_bipush (45) C dX12_oneSum_24 (by decide) ?_
        refine r_icmp_ne 57 C dX12_oneSum_26 (by decide) (fun hc => ?_) (fun hc => ?_)
        · replace hw := it_f hc hw
          exact r_vret C dX12_oneSum_57 ⟨rfl, hw⟩
        · replace hw := it_t hc hw
          exact tX12_oneSum_29 C hr (k0) hK4 hw
def bX12_oneSum (r : TG2) (a0 : Nat) (h : Hp) (Q : Hp → Prop) : Prop :=
  r.2.1 a0 h (fun h2 => eX12_oneSum_4 a0 r Q h2)
set_option maxRecDepth 20000 in
theorem uX12_oneSum {G : GG} {n : Nat} {r : TG2} {a0 : Nat} {h : Hp} {Q : Hp → Prop} (hr : HG2 G r n) (k0 : kd a0 = 12) (hw : bX12_oneSum r a0 h Q) : CV G (2 + n + 1) yX12_oneSum cX12_oneSum 2 none [.ref (G.1 a0)] h Q := by
  refine CO_of [some (.ref (G.1 a0)), none] (by decide) (Nat.le_of_ble_eq_true rfl) rfl (fun X C => ?_)
  unfold bX12_oneSum at hw
  refine r_aload_n C dX12_oneSum_0 rfl ?_
  refine kX12_203 C (k0) (hr.2.1 _ _ _ (k0) hw) dX12_oneSum_1 (by omega) rfl (Nat.le_of_ble_eq_true rfl) (fun h2 hw => ?_)
  exact tX12_oneSum_4 C hr (k0) hw
def jX12_compared_35 (a0 : Nat) (x1 : Int32) (h : Hp) (r : TG2) (Q : Hp → Prop) : Prop :=
  ∀ h1 : Hp, h1 = sI h a0 19 ((gI h a0 19) + (1 : Int32)) → (r.2.2.1 a0 h1 (fun h3 => wX12_addStep a0 x1 (0 : Int32) h3 (fun h5 => Q h5)))
set_option maxRecDepth 20000 in
theorem tX12_compared_35 {G : GG} {X : XX} {n : Nat} {r : TG2} {a0 : Nat} {x1 : Int32} {h : Hp}  {Q : Hp → Prop} (C : Cx G RX12 cX12_compared 2 none (2 + n + 1) 0 0 X) (hr : HG2 G r n) (k0 : kd a0 = 12) (hw : jX12_compared_35 a0 x1 h r Q) : R0 G X 0 0 (ZM G (fun r h' => r = none ∧ Q h') X) 35 [some (.ref (G.1 a0)), some (.int x1)] [] h := by
  unfold jX12_compared_35 at hw
  refine r_aload_n C dX12_compared_35 rfl ?_
  refine r_dup C dX12_compared_36 rfl ?_
  refine gX12_163 C (k0) dX12_compared_37 ?_
  refine r_iconst (1) C dX12_compared_40 (by decide) ?_
  refine r_iadd C dX12_compared_41 ?_
  refine pX12_163 C (k0) dX12_compared_42 ?_
  refine r_toph (fun h1 eh1 => ?_)
  replace hw := hw h1 eh1
  refine r_aload_n C dX12_compared_45 rfl ?_
  refine kX12_206 C (k0) (hr.2.2.1 _ _ _ (k0) hw) dX12_compared_46 (by omega) rfl (Nat.le_of_ble_eq_true rfl) (fun h3 hw => ?_)
  refine r_aload_n C dX12_compared_49 rfl ?_
  refine r_iload_n C dX12_compared_50 rfl ?_
  refine r_iconst (0) C dX12_compared_51 (by decide) ?_
  refine kX12_182 C (k0) (sX12_addStep (k0) hw) dX12_compared_52 (by omega) rfl (Nat.le_of_ble_eq_true rfl) (fun h5 hw => ?_)
  exact r_vret C dX12_compared_55 ⟨rfl, hw⟩
def bX12_compared (r : TG2) (a0 : Nat) (h : Hp) (Q : Hp → Prop) : Prop :=
  r.2.2.1 a0 h (fun h2 => wX12_look a0 h2 (fun v3 => if 0 ≤ (gI h2 a0 20) then (Q h2) else (if v3 = (60 : Int32) then (jX12_compared_35 a0 v3 h2 r Q) else (if v3 = (61 : Int32) then (jX12_compared_35 a0 v3 h2 r Q) else (if v3 = (62 : Int32) then (jX12_compared_35 a0 v3 h2 r Q) else (Q h2))))))
set_option maxRecDepth 20000 in
theorem uX12_compared {G : GG} {n : Nat} {r : TG2} {a0 : Nat} {h : Hp} {Q : Hp → Prop} (hr : HG2 G r n) (k0 : kd a0 = 12) (hw : bX12_compared r a0 h Q) : CV G (2 + n + 1) yX12_compared cX12_compared 2 none [.ref (G.1 a0)] h Q := by
  refine CO_of [some (.ref (G.1 a0)), none] (by decide) (Nat.le_of_ble_eq_true rfl) rfl (fun X C => ?_)
  unfold bX12_compared at hw
  refine r_aload_n C dX12_compared_0 rfl ?_
  refine kX12_206 C (k0) (hr.2.2.1 _ _ _ (k0) hw) dX12_compared_1 (by omega) rfl (Nat.le_of_ble_eq_true rfl) (fun h2 hw => ?_)
  refine r_aload_n C dX12_compared_4 rfl ?_
  refine kX12_178 C (k0) (sX12_look (k0) hw) dX12_compared_5 (by omega) rfl (Nat.le_of_ble_eq_true rfl) (fun v3 hw => ?_)
  refine r_istore_n [some (.ref (G.1 a0)), some (.int v3)] C dX12_compared_8 (Nat.le_of_ble_eq_true rfl) rfl rfl ?_
  refine r_aload_n C dX12_compared_9 rfl ?_
  refine gX12_166 C (k0) dX12_compared_10 ?_
  refine r_if_ge 34 C dX12_compared_13 (by decide) (fun hc => ?_) (fun hc => ?_)
  · replace hw := it_t hc hw
    exact r_vret C dX12_compared_34 ⟨rfl, hw⟩
  · replace hw := it_f hc hw
    refine r_iload_n C dX12_compared_16 rfl ?_
    refine r_bipush (60) C dX12_compared_17 (by decide) ?_
    refine r_icmp_eq 35 C dX12_compared_19 (by decide) (fun hc => ?_) (fun hc => ?_)
    · replace hw := it_t hc hw
      exact tX12_compared_35 C hr (k0) hw
    · replace hw := it_f hc hw
      refine r_iload_n C dX12_compared_22 rfl ?_
      refine r_bipush (61) C dX12_compared_23 (by decide) ?_
      refine r_icmp_eq 35 C dX12_compared_25 (by decide) (fun hc => ?_) (fun hc => ?_)
      · replace hw := it_t hc hw
        exact tX12_compared_35 C hr (k0) hw
      · replace hw := it_f hc hw
        refine r_iload_n C dX12_compared_28 rfl ?_
        refine r_bipush (62) C dX12_compared_29 (by decide) ?_
        refine r_icmp_eq 35 C dX12_compared_31 (by decide) (fun hc => ?_) (fun hc => ?_)
        · replace hw := it_t hc hw
          exact tX12_compared_35 C hr (k0) hw
        · replace hw := it_f hc hw
          exact r_vret C dX12_compared_34 ⟨rfl, hw⟩
def fX12_both_4 (a0 : Nat) (r : TG2) (Q : Hp → Prop) (K4 : Hp → Prop) (h : Hp) : Prop :=
  if 0 ≤ (gI h a0 20) then (Q h) else (wX12_look a0 h (fun v1 => if v1 = (38 : Int32) then (∀ h2 : Hp, h2 = sI h a0 19 ((gI h a0 19) + (1 : Int32)) → (r.2.2.2.1 a0 h2 (fun h4 => wX12_addStep a0 (38 : Int32) (0 : Int32) h4 (fun h6 => K4 h6)))) else (Q h)))
def eX12_both_4 (a0 : Nat) (r : TG2) (Q : Hp → Prop) (h : Hp) : Prop := ∃ N, lpN (fun (K : Hp → Prop) (s : Hp) => fX12_both_4 a0 r Q (fun h => K h) s) N h
theorem iX12_both_4 {a0 : Nat} {r : TG2} {Q : Hp → Prop} (I : Hp → Prop) (μ : Hp → Nat) (hs : ∀ (h : Hp), I h → ∀ K : Hp → Prop, (∀ (h' : Hp), I h' → μ h' < μ h → K h') → fX12_both_4 a0 r Q K h) : ∀ (h : Hp), I h → eX12_both_4 a0 r Q h := fun h hI => lp_ind (fun s => I s) (fun s => μ s) (fun s hs' K hK => hs s hs' _ (fun h' h1 h2 => hK h' h1 h2)) h hI
set_option maxRecDepth 20000 in
theorem tX12_both_4 {G : GG} {X : XX} {n : Nat} {r : TG2} {a0 : Nat} {h : Hp}  {Q : Hp → Prop} (C : Cx G RX12 cX12_both 1 none (2 + n + 1) 0 0 X) (hr : HG2 G r n) (k0 : kd a0 = 12) (hw : eX12_both_4 a0 r Q h) : R0 G X 0 0 (ZM G (fun r h' => r = none ∧ Q h') X) 4 [some (.ref (G.1 a0))] [] h := by
  obtain ⟨N, hw⟩ := hw
  induction N generalizing h with
  | zero => exact hw.elim
  | succ N ih =>
    obtain ⟨K4, eK⟩ : ∃ K : Hp → Prop, K = (fun h => lpN (fun (K : Hp → Prop) (s : Hp) => fX12_both_4 a0 r Q (fun h => K h) s) N h) := ⟨_, rfl⟩
    have hw : fX12_both_4 a0 r Q (fun h => lpN (fun (K : Hp → Prop) (s : Hp) => fX12_both_4 a0 r Q (fun h => K h) s) N h) h := hw
    have hK4 : ∀ (h : Hp), K4 h → R0 G X 0 0 (ZM G (fun r h' => r = none ∧ Q h') X) 4 [some (.ref (G.1 a0))] [] h := fun h q => ih (by rw [eK] at q; exact q)
    rw [← eK] at hw
    clear eK ih
    unfold fX12_both_4 at hw
    refine r_aload_n C dX12_both_4 rfl ?_
    refine gX12_166 C (k0) dX12_both_5 ?_
    refine r_if_ge 44 C dX12_both_8 (by decide) (fun hc => ?_) (fun hc => ?_)
    · replace hw := it_t hc hw
      exact r_vret C dX12_both_44 ⟨rfl, hw⟩
    · replace hw := it_f hc hw
      refine r_aload_n C dX12_both_11 rfl ?_
      refine kX12_178 C (k0) (sX12_look (k0) hw) dX12_both_12 (by omega) rfl (Nat.le_of_ble_eq_true rfl) (fun v1 hw => ?_)
      refine r_bipush (38) C dX12_both_15 (by decide) ?_
      refine r_icmp_ne 44 C dX12_both_17 (by decide) (fun hc => ?_) (fun hc => ?_)
      · replace hw := it_f hc hw
        exact r_vret C dX12_both_44 ⟨rfl, hw⟩
      · replace hw := it_t hc hw
        refine r_aload_n C dX12_both_20 rfl ?_
        refine r_dup C dX12_both_21 rfl ?_
        refine gX12_163 C (k0) dX12_both_22 ?_
        refine r_iconst (1) C dX12_both_25 (by decide) ?_
        refine r_iadd C dX12_both_26 ?_
        refine pX12_163 C (k0) dX12_both_27 ?_
        refine r_toph (fun h2 eh2 => ?_)
        replace hw := hw h2 eh2
        refine r_aload_n C dX12_both_30 rfl ?_
        refine kX12_209 C (k0) (hr.2.2.2.1 _ _ _ (k0) hw) dX12_both_31 (by omega) rfl (Nat.le_of_ble_eq_true rfl) (fun h4 hw => ?_)
        refine r_aload_n C dX12_both_34 rfl ?_
        refine r_bipush (38) C dX12_both_35 (by decide) ?_
        refine r_iconst (0) C dX12_both_37 (by decide) ?_
        refine kX12_182 C (k0) (sX12_addStep (k0) hw) dX12_both_38 (by omega) rfl (Nat.le_of_ble_eq_true rfl) (fun h6 hw => ?_)
        refine r_goto 4 C dX12_both_41 (by decide) ?_
        exact hK4 _ hw
def bX12_both (r : TG2) (a0 : Nat) (h : Hp) (Q : Hp → Prop) : Prop :=
  r.2.2.2.1 a0 h (fun h2 => eX12_both_4 a0 r Q h2)
set_option maxRecDepth 20000 in
theorem uX12_both {G : GG} {n : Nat} {r : TG2} {a0 : Nat} {h : Hp} {Q : Hp → Prop} (hr : HG2 G r n) (k0 : kd a0 = 12) (hw : bX12_both r a0 h Q) : CV G (2 + n + 1) yX12_both cX12_both 1 none [.ref (G.1 a0)] h Q := by
  refine CO_of [some (.ref (G.1 a0))] (by decide) (Nat.le_of_ble_eq_true rfl) rfl (fun X C => ?_)
  unfold bX12_both at hw
  refine r_aload_n C dX12_both_0 rfl ?_
  refine kX12_209 C (k0) (hr.2.2.2.1 _ _ _ (k0) hw) dX12_both_1 (by omega) rfl (Nat.le_of_ble_eq_true rfl) (fun h2 hw => ?_)
  exact tX12_both_4 C hr (k0) hw
def fX12_either_4 (a0 : Nat) (r : TG2) (Q : Hp → Prop) (K4 : Hp → Prop) (h : Hp) : Prop :=
  if 0 ≤ (gI h a0 20) then (Q h) else (wX12_look a0 h (fun v1 => if v1 = (124 : Int32) then (∀ h2 : Hp, h2 = sI h a0 19 ((gI h a0 19) + (1 : Int32)) → (r.2.2.2.2.1 a0 h2 (fun h4 => wX12_addStep a0 (124 : Int32) (0 : Int32) h4 (fun h6 => K4 h6)))) else (Q h)))
def eX12_either_4 (a0 : Nat) (r : TG2) (Q : Hp → Prop) (h : Hp) : Prop := ∃ N, lpN (fun (K : Hp → Prop) (s : Hp) => fX12_either_4 a0 r Q (fun h => K h) s) N h
theorem iX12_either_4 {a0 : Nat} {r : TG2} {Q : Hp → Prop} (I : Hp → Prop) (μ : Hp → Nat) (hs : ∀ (h : Hp), I h → ∀ K : Hp → Prop, (∀ (h' : Hp), I h' → μ h' < μ h → K h') → fX12_either_4 a0 r Q K h) : ∀ (h : Hp), I h → eX12_either_4 a0 r Q h := fun h hI => lp_ind (fun s => I s) (fun s => μ s) (fun s hs' K hK => hs s hs' _ (fun h' h1 h2 => hK h' h1 h2)) h hI
set_option maxRecDepth 20000 in
theorem tX12_either_4 {G : GG} {X : XX} {n : Nat} {r : TG2} {a0 : Nat} {h : Hp}  {Q : Hp → Prop} (C : Cx G RX12 cX12_either 1 none (2 + n + 1) 0 0 X) (hr : HG2 G r n) (k0 : kd a0 = 12) (hw : eX12_either_4 a0 r Q h) : R0 G X 0 0 (ZM G (fun r h' => r = none ∧ Q h') X) 4 [some (.ref (G.1 a0))] [] h := by
  obtain ⟨N, hw⟩ := hw
  induction N generalizing h with
  | zero => exact hw.elim
  | succ N ih =>
    obtain ⟨K4, eK⟩ : ∃ K : Hp → Prop, K = (fun h => lpN (fun (K : Hp → Prop) (s : Hp) => fX12_either_4 a0 r Q (fun h => K h) s) N h) := ⟨_, rfl⟩
    have hw : fX12_either_4 a0 r Q (fun h => lpN (fun (K : Hp → Prop) (s : Hp) => fX12_either_4 a0 r Q (fun h => K h) s) N h) h := hw
    have hK4 : ∀ (h : Hp), K4 h → R0 G X 0 0 (ZM G (fun r h' => r = none ∧ Q h') X) 4 [some (.ref (G.1 a0))] [] h := fun h q => ih (by rw [eK] at q; exact q)
    rw [← eK] at hw
    clear eK ih
    unfold fX12_either_4 at hw
    refine r_aload_n C dX12_either_4 rfl ?_
    refine gX12_166 C (k0) dX12_either_5 ?_
    refine r_if_ge 44 C dX12_either_8 (by decide) (fun hc => ?_) (fun hc => ?_)
    · replace hw := it_t hc hw
      exact r_vret C dX12_either_44 ⟨rfl, hw⟩
    · replace hw := it_f hc hw
      refine r_aload_n C dX12_either_11 rfl ?_
      refine kX12_178 C (k0) (sX12_look (k0) hw) dX12_either_12 (by omega) rfl (Nat.le_of_ble_eq_true rfl) (fun v1 hw => ?_)
      refine r_bipush (124) C dX12_either_15 (by decide) ?_
      refine r_icmp_ne 44 C dX12_either_17 (by decide) (fun hc => ?_) (fun hc => ?_)
      · replace hw := it_f hc hw
        exact r_vret C dX12_either_44 ⟨rfl, hw⟩
      · replace hw := it_t hc hw
        refine r_aload_n C dX12_either_20 rfl ?_
        refine r_dup C dX12_either_21 rfl ?_
        refine gX12_163 C (k0) dX12_either_22 ?_
        refine r_iconst (1) C dX12_either_25 (by decide) ?_
        refine r_iadd C dX12_either_26 ?_
        refine pX12_163 C (k0) dX12_either_27 ?_
        refine r_toph (fun h2 eh2 => ?_)
        replace hw := hw h2 eh2
        refine r_aload_n C dX12_either_30 rfl ?_
        refine kX12_212 C (k0) (hr.2.2.2.2.1 _ _ _ (k0) hw) dX12_either_31 (by omega) rfl (Nat.le_of_ble_eq_true rfl) (fun h4 hw => ?_)
        refine r_aload_n C dX12_either_34 rfl ?_
        refine r_bipush (124) C dX12_either_35 (by decide) ?_
        refine r_iconst (0) C dX12_either_37 (by decide) ?_
        refine kX12_182 C (k0) (sX12_addStep (k0) hw) dX12_either_38 (by omega) rfl (Nat.le_of_ble_eq_true rfl) (fun h6 hw => ?_)
        refine r_goto 4 C dX12_either_41 (by decide) ?_
        exact hK4 _ hw
def bX12_either (r : TG2) (a0 : Nat) (h : Hp) (Q : Hp → Prop) : Prop :=
  r.2.2.2.2.1 a0 h (fun h2 => eX12_either_4 a0 r Q h2)
set_option maxRecDepth 20000 in
theorem uX12_either {G : GG} {n : Nat} {r : TG2} {a0 : Nat} {h : Hp} {Q : Hp → Prop} (hr : HG2 G r n) (k0 : kd a0 = 12) (hw : bX12_either r a0 h Q) : CV G (2 + n + 1) yX12_either cX12_either 1 none [.ref (G.1 a0)] h Q := by
  refine CO_of [some (.ref (G.1 a0))] (by decide) (Nat.le_of_ble_eq_true rfl) rfl (fun X C => ?_)
  unfold bX12_either at hw
  refine r_aload_n C dX12_either_0 rfl ?_
  refine kX12_212 C (k0) (hr.2.2.2.2.1 _ _ _ (k0) hw) dX12_either_1 (by omega) rfl (Nat.le_of_ble_eq_true rfl) (fun h2 hw => ?_)
  exact tX12_either_4 C hr (k0) hw
def wG2 : Nat → TG2
  | 0 => (fun _ _ _ => False, fun _ _ _ => False, fun _ _ _ => False, fun _ _ _ => False, fun _ _ _ => False, fun _ _ _ => False)
  | n + 1 => (bX12_operand (wG2 n), bX12_product (wG2 n), bX12_oneSum (wG2 n), bX12_compared (wG2 n), bX12_both (wG2 n), bX12_either (wG2 n))
theorem sG2 (G : GG) : ∀ n, HG2 G (wG2 n) n := by
  intro n
  induction n with
  | zero => exact ⟨fun _ _ _ k0 hw => False.elim hw, fun _ _ _ k0 hw => False.elim hw, fun _ _ _ k0 hw => False.elim hw, fun _ _ _ k0 hw => False.elim hw, fun _ _ _ k0 hw => False.elim hw, fun _ _ _ k0 hw => False.elim hw⟩
  | succ n ih => exact ⟨fun _ _ _ k0 hw => uX12_operand ih k0 hw, fun _ _ _ k0 hw => uX12_product ih k0 hw, fun _ _ _ k0 hw => uX12_oneSum ih k0 hw, fun _ _ _ k0 hw => uX12_compared ih k0 hw, fun _ _ _ k0 hw => uX12_both ih k0 hw, fun _ _ _ k0 hw => uX12_either ih k0 hw⟩
def jX12_line_66 (a0 : Nat) (x1 : Int32) (h : Hp) (Q : Hp → Prop) : Prop :=
  vp_in x1 (ln (rf a0 27)) ∧ (∀ h2 : Hp, h2 = sI h (rf a0 27) x1.toNatClampNeg (vp_nar .short (s16 (gI h a0 22))) → (vp_in (2 : Int32) (ln (rf a0 25)) ∧ (vp_in (2 : Int32) (ln (rf a0 25)) ∧ (∀ h5 : Hp, h5 = sI h2 (rf a0 25) (2 : Int32).toNatClampNeg ((gI h2 (rf a0 25) (2 : Int32).toNatClampNeg) + (1 : Int32)) → (Q h5)))))
set_option maxRecDepth 20000 in
theorem tX12_line_66 {G : GG} {X : XX} {a0 : Nat} {x1 : Int32} {h : Hp}  {Q : Hp → Prop} (C : Cx G RX12 cX12_line 2 none 123 0 0 X) (k0 : kd a0 = 12) (hw : jX12_line_66 a0 x1 h Q) : R0 G X 0 0 (ZM G (fun r h' => r = none ∧ Q h') X) 66 [some (.ref (G.1 a0)), some (.int x1)] [] h := by
  unfold jX12_line_66 at hw
  refine r_aload_n C dX12_line_66 rfl ?_
  refine gX12_54 C (k0) dX12_line_67 ?_
  refine r_iload_n C dX12_line_70 rfl ?_
  refine r_aload_n C dX12_line_71 rfl ?_
  refine gX12_169 C (k0) dX12_line_72 ?_
  refine r_i2s C dX12_line_75 ?_
  obtain ⟨hi1, hw⟩ := hw
  refine r_sast C (kr12_27 (k0)) hi1 dX12_line_76 ?_
  refine r_toph (fun h2 eh2 => ?_)
  replace hw := hw h2 eh2
  refine r_aload_n C dX12_line_77 rfl ?_
  refine gX12_47 C (k0) dX12_line_78 ?_
  refine r_iconst (2) C dX12_line_81 (by decide) ?_
  refine r_dup2_11 C dX12_line_82 rfl rfl ?_
  obtain ⟨hi3, hw⟩ := hw
  refine r_iald C (kr12_25 (k0)) hi3 dX12_line_83 ?_
  refine r_iconst (1) C dX12_line_84 (by decide) ?_
  refine r_iadd C dX12_line_85 ?_
  obtain ⟨hi4, hw⟩ := hw
  refine r_iast C (kr12_25 (k0)) hi4 dX12_line_86 ?_
  refine r_toph (fun h5 eh5 => ?_)
  replace hw := hw h5 eh5
  exact r_vret C dX12_line_87 ⟨rfl, hw⟩
def wX12_line (a0 : Nat) (h : Hp) (Q : Hp → Prop) : Prop :=
  vp_in (2 : Int32) (ln (rf a0 25)) ∧ (∀ v2 : Int32, v2 = ((122 : Int32) + (gI h (rf a0 25) (2 : Int32).toNatClampNeg)) → (vp_in v2 (ln (rf a0 26)) ∧ (∀ h4 : Hp, h4 = sI h (rf a0 26) v2.toNatClampNeg (vp_nar .short (s16 (gI h a0 22))) → (∃ n5, n5 ≤ 120 ∧ ((wG2 n5).2.2.2.2.2 a0 h4 (fun h7 => if 0 ≤ (gI h7 a0 20) then (jX12_line_66 a0 v2 h7 Q) else (wX12_look a0 h7 (fun v8 => if v8 = (63 : Int32) then (∀ h9 : Hp, h9 = sI h7 a0 19 ((gI h7 a0 19) + (1 : Int32)) → (vp_in v2 (ln (rf a0 26)) ∧ (∀ h11 : Hp, h11 = sI h9 (rf a0 26) v2.toNatClampNeg (vp_nar .short (s16 (gI h9 a0 22))) → (∃ n12, n12 ≤ 120 ∧ ((wG2 n12).2.2.2.2.2 a0 h11 (fun h14 => jX12_line_66 a0 v2 h14 Q)))))) else (jX12_line_66 a0 v2 h7 Q)))))))))
set_option maxRecDepth 20000 in
theorem sX12_line {G : GG} {a0 : Nat} {h : Hp} {Q : Hp → Prop} (k0 : kd a0 = 12) (hw : wX12_line a0 h Q) : CV G 123 yX12_line cX12_line 2 none [.ref (G.1 a0)] h Q := by
  refine CO_of [some (.ref (G.1 a0)), none] (by decide) (Nat.le_of_ble_eq_true rfl) rfl (fun X C => ?_)
  unfold wX12_line at hw
  refine r_bipush (122) C dX12_line_0 (by decide) ?_
  refine r_aload_n C dX12_line_2 rfl ?_
  refine gX12_47 C (k0) dX12_line_3 ?_
  refine r_iconst (2) C dX12_line_6 (by decide) ?_
  obtain ⟨hi1, hw⟩ := hw
  refine r_iald C (kr12_25 (k0)) hi1 dX12_line_7 ?_
  refine r_iadd C dX12_line_8 ?_
  refine r_topi (fun v2 ev2 => ?_)
  replace hw := hw v2 ev2
  refine r_istore_n [some (.ref (G.1 a0)), some (.int v2)] C dX12_line_9 (Nat.le_of_ble_eq_true rfl) rfl rfl ?_
  refine r_aload_n C dX12_line_10 rfl ?_
  refine gX12_50 C (k0) dX12_line_11 ?_
  refine r_iload_n C dX12_line_14 rfl ?_
  refine r_aload_n C dX12_line_15 rfl ?_
  refine gX12_169 C (k0) dX12_line_16 ?_
  refine r_i2s C dX12_line_19 ?_
  obtain ⟨hi3, hw⟩ := hw
  refine r_sast C (kr12_26 (k0)) hi3 dX12_line_20 ?_
  refine r_toph (fun h4 eh4 => ?_)
  replace hw := hw h4 eh4
  refine r_aload_n C dX12_line_21 rfl ?_
  obtain ⟨n5, hnn5, hw⟩ := hw
  refine kX12_197 C (k0) ((sG2 G n5).2.2.2.2.2 _ _ _ (k0) hw) dX12_line_22 (by omega) rfl (Nat.le_of_ble_eq_true rfl) (fun h7 hw => ?_)
  refine r_aload_n C dX12_line_25 rfl ?_
  refine gX12_166 C (k0) dX12_line_26 ?_
  refine r_if_ge 66 C dX12_line_29 (by decide) (fun hc => ?_) (fun hc => ?_)
  · replace hw := it_t hc hw
    exact tX12_line_66 C (k0) hw
  · replace hw := it_f hc hw
    refine r_aload_n C dX12_line_32 rfl ?_
    refine kX12_178 C (k0) (sX12_look (k0) hw) dX12_line_33 (Nat.le_of_ble_eq_true rfl) rfl (Nat.le_of_ble_eq_true rfl) (fun v8 hw => ?_)
    refine r_bipush (63) C dX12_line_36 (by decide) ?_
    refine r_icmp_ne 66 C dX12_line_38 (by decide) (fun hc => ?_) (fun hc => ?_)
    · replace hw := it_f hc hw
      exact tX12_line_66 C (k0) hw
    · replace hw := it_t hc hw
      refine r_aload_n C dX12_line_41 rfl ?_
      refine r_dup C dX12_line_42 rfl ?_
      refine gX12_163 C (k0) dX12_line_43 ?_
      refine r_iconst (1) C dX12_line_46 (by decide) ?_
      refine r_iadd C dX12_line_47 ?_
      refine pX12_163 C (k0) dX12_line_48 ?_
      refine r_toph (fun h9 eh9 => ?_)
      replace hw := hw h9 eh9
      refine r_aload_n C dX12_line_51 rfl ?_
      refine gX12_50 C (k0) dX12_line_52 ?_
      refine r_iload_n C dX12_line_55 rfl ?_
      refine r_aload_n C dX12_line_56 rfl ?_
      refine gX12_169 C (k0) dX12_line_57 ?_
      refine r_i2s C dX12_line_60 ?_
      obtain ⟨hi10, hw⟩ := hw
      refine r_sast C (kr12_26 (k0)) hi10 dX12_line_61 ?_
      refine r_toph (fun h11 eh11 => ?_)
      replace hw := hw h11 eh11
      refine r_aload_n C dX12_line_62 rfl ?_
      obtain ⟨n12, hnn12, hw⟩ := hw
      refine kX12_197 C (k0) ((sG2 G n12).2.2.2.2.2 _ _ _ (k0) hw) dX12_line_63 (by omega) rfl (Nat.le_of_ble_eq_true rfl) (fun h14 hw => ?_)
      exact tX12_line_66 C (k0) hw
def fX12_readText_177 (a0 : Nat) (x1 : Int32) (Q : Int32 → Hp → Prop) (K177 : Int32 → Hp → Prop) (x2 : Int32) (h : Hp) : Prop :=
  vp_in x1 (ln (rf a0 25)) ∧ (if (gI h (rf a0 25) x1.toNatClampNeg) ≤ x2 then (Q (-1 : Int32) h) else (vp_in ((122 : Int32) + x2) (ln (rf a0 26)) ∧ (vp_in (((61 : Int32) * x1) + x2) (ln (rf a0 26)) ∧ (∀ h4 : Hp, h4 = sI h (rf a0 26) (((61 : Int32) * x1) + x2).toNatClampNeg (vp_nar .short (gI h (rf a0 26) ((122 : Int32) + x2).toNatClampNeg)) → (vp_in ((122 : Int32) + x2) (ln (rf a0 27)) ∧ (vp_in (((61 : Int32) * x1) + x2) (ln (rf a0 27)) ∧ (∀ h7 : Hp, h7 = sI h4 (rf a0 27) (((61 : Int32) * x1) + x2).toNatClampNeg (vp_nar .short (gI h4 (rf a0 27) ((122 : Int32) + x2).toNatClampNeg)) → (∀ v8 : Int32, v8 = x2 + (1 : Int32) → (K177 v8 h7)))))))))
def eX12_readText_177 (a0 : Nat) (x1 : Int32) (Q : Int32 → Hp → Prop) (x2 : Int32) (h : Hp) : Prop := ∃ N, lpN (fun (K : Int32 × Hp → Prop) (s : Int32 × Hp) => fX12_readText_177 a0 x1 Q (fun x2 h => K (x2, h)) s.1 s.2) N (x2, h)
theorem iX12_readText_177 {a0 : Nat} {x1 : Int32} {Q : Int32 → Hp → Prop} (I : Int32 → Hp → Prop) (μ : Int32 → Hp → Nat) (hs : ∀ (x2 : Int32) (h : Hp), I x2 h → ∀ K : Int32 → Hp → Prop, (∀ (x2' : Int32) (h' : Hp), I x2' h' → μ x2' h' < μ x2 h → K x2' h') → fX12_readText_177 a0 x1 Q K x2 h) : ∀ (x2 : Int32) (h : Hp), I x2 h → eX12_readText_177 a0 x1 Q x2 h := fun x2 h hI => lp_ind (fun s => I s.1 s.2) (fun s => μ s.1 s.2) (fun s hs' K hK => hs s.1 s.2 hs' _ (fun x2' h' h1 h2 => hK (x2', h') h1 h2)) (x2, h) hI
set_option maxRecDepth 20000 in
theorem tX12_readText_177 {G : GG} {X : XX} {a0 : Nat} {x1 : Int32} {x2 : Int32} {h : Hp}  {Q : Int32 → Hp → Prop} (C : Cx G RX12 cX12_readText 3 (some .int) 124 0 0 X) (k0 : kd a0 = 12) (hw : eX12_readText_177 a0 x1 Q x2 h) : R0 G X 0 0 (ZM G (fun r h' => ∃ v, r = some (.int v) ∧ Q v h') X) 177 [some (.ref (G.1 a0)), some (.int x1), some (.int x2)] [] h := by
  obtain ⟨N, hw⟩ := hw
  induction N generalizing x2 h with
  | zero => exact hw.elim
  | succ N ih =>
    obtain ⟨K177, eK⟩ : ∃ K : Int32 → Hp → Prop, K = (fun x2 h => lpN (fun (K : Int32 × Hp → Prop) (s : Int32 × Hp) => fX12_readText_177 a0 x1 Q (fun x2 h => K (x2, h)) s.1 s.2) N (x2, h)) := ⟨_, rfl⟩
    have hw : fX12_readText_177 a0 x1 Q (fun x2 h => lpN (fun (K : Int32 × Hp → Prop) (s : Int32 × Hp) => fX12_readText_177 a0 x1 Q (fun x2 h => K (x2, h)) s.1 s.2) N (x2, h)) x2 h := hw
    have hK177 : ∀ (x2 : Int32) (h : Hp), K177 x2 h → R0 G X 0 0 (ZM G (fun r h' => ∃ v, r = some (.int v) ∧ Q v h') X) 177 [some (.ref (G.1 a0)), some (.int x1), some (.int x2)] [] h := fun x2 h q => ih (by rw [eK] at q; exact q)
    rw [← eK] at hw
    clear eK ih
    unfold fX12_readText_177 at hw
    refine r_iload_n C dX12_readText_177 rfl ?_
    refine r_aload_n C dX12_readText_178 rfl ?_
    refine gX12_47 C (k0) dX12_readText_179 ?_
    refine r_iload_n C dX12_readText_182 rfl ?_
    obtain ⟨hi1, hw⟩ := hw
    refine r_iald C (kr12_25 (k0)) hi1 dX12_readText_183 ?_
    refine r_icmp_ge 233 C dX12_readText_184 (by decide) (fun hc => ?_) (fun hc => ?_)
    · replace hw := it_t hc hw
      refine r_iconst (-1) C dX12_readText_233 (by decide) ?_
      exact r_iret C dX12_readText_234 ⟨_, rfl, hw⟩
    · replace hw := it_f hc hw
      refine r_aload_n C dX12_readText_187 rfl ?_
      refine gX12_50 C (k0) dX12_readText_188 ?_
      refine r_bipush (61) C dX12_readText_191 (by decide) ?_
      refine r_iload_n C dX12_readText_193 rfl ?_
      refine r_imul C dX12_readText_194 ?_
      refine r_iload_n C dX12_readText_195 rfl ?_
      refine r_iadd C dX12_readText_196 ?_
      refine r_aload_n C dX12_readText_197 rfl ?_
      refine gX12_50 C (k0) dX12_readText_198 ?_
      refine r_bipush (122) C dX12_readText_201 (by decide) ?_
      refine r_iload_n C dX12_readText_203 rfl ?_
      refine r_iadd C dX12_readText_204 ?_
      obtain ⟨hi2, hw⟩ := hw
      refine r_sald C (kr12_26 (k0)) hi2 dX12_readText_205 ?_
      obtain ⟨hi3, hw⟩ := hw
      refine r_sast C (kr12_26 (k0)) hi3 dX12_readText_206 ?_
      refine r_toph (fun h4 eh4 => ?_)
      replace hw := hw h4 eh4
      refine r_aload_n C dX12_readText_207 rfl ?_
      refine gX12_54 C (k0) dX12_readText_208 ?_
      refine r_bipush (61) C dX12_readText_211 (by decide) ?_
      refine r_iload_n C dX12_readText_213 rfl ?_
      refine r_imul C dX12_readText_214 ?_
      refine r_iload_n C dX12_readText_215 rfl ?_
      refine r_iadd C dX12_readText_216 ?_
      refine r_aload_n C dX12_readText_217 rfl ?_
      refine gX12_54 C (k0) dX12_readText_218 ?_
      refine r_bipush (122) C dX12_readText_221 (by decide) ?_
      refine r_iload_n C dX12_readText_223 rfl ?_
      refine r_iadd C dX12_readText_224 ?_
      obtain ⟨hi5, hw⟩ := hw
      refine r_sald C (kr12_27 (k0)) hi5 dX12_readText_225 ?_
      obtain ⟨hi6, hw⟩ := hw
      refine r_sast C (kr12_27 (k0)) hi6 dX12_readText_226 ?_
      refine r_toph (fun h7 eh7 => ?_)
      replace hw := hw h7 eh7
      obtain ⟨v8, ev8⟩ : ∃ v : Int32, v = x2 + (1 : Int32) := ⟨_, rfl⟩
      replace hw := hw v8 ev8
      refine r_iinc v8 [some (.ref (G.1 a0)), some (.int x1), some (.int v8)] C dX12_readText_227 rfl (by rw [ev8]; rfl) rfl rfl ?_
      refine r_goto 177 C dX12_readText_230 (by decide) ?_
      exact hK177 _ _ hw
def fX12_readText_105 (a0 : Nat) (x1 : Int32) (Q : Int32 → Hp → Prop) (K105 : Int32 → Hp → Prop) (x2 : Int32) (h : Hp) : Prop :=
  if (gI h a0 22) ≤ x2 then (vp_in (2 : Int32) (ln (rf a0 25)) ∧ (vp_in x1 (ln (rf a0 25)) ∧ (∀ h3 : Hp, h3 = sI h (rf a0 25) x1.toNatClampNeg (gI h (rf a0 25) (2 : Int32).toNatClampNeg) → (eX12_readText_177 a0 x1 Q (0 : Int32) h3)))) else (vp_in ((260 : Int32) + x2) (ln (rf a0 23)) ∧ (vp_in (((130 : Int32) * x1) + x2) (ln (rf a0 23)) ∧ (∀ h6 : Hp, h6 = sI h (rf a0 23) (((130 : Int32) * x1) + x2).toNatClampNeg (vp_nar .byte (gI h (rf a0 23) ((260 : Int32) + x2).toNatClampNeg)) → (vp_in ((260 : Int32) + x2) (ln (rf a0 24)) ∧ (vp_in (((130 : Int32) * x1) + x2) (ln (rf a0 24)) ∧ (∀ h9 : Hp, h9 = sI h6 (rf a0 24) (((130 : Int32) * x1) + x2).toNatClampNeg (gI h6 (rf a0 24) ((260 : Int32) + x2).toNatClampNeg) → (∀ v10 : Int32, v10 = x2 + (1 : Int32) → (K105 v10 h9))))))))
def eX12_readText_105 (a0 : Nat) (x1 : Int32) (Q : Int32 → Hp → Prop) (x2 : Int32) (h : Hp) : Prop := ∃ N, lpN (fun (K : Int32 × Hp → Prop) (s : Int32 × Hp) => fX12_readText_105 a0 x1 Q (fun x2 h => K (x2, h)) s.1 s.2) N (x2, h)
theorem iX12_readText_105 {a0 : Nat} {x1 : Int32} {Q : Int32 → Hp → Prop} (I : Int32 → Hp → Prop) (μ : Int32 → Hp → Nat) (hs : ∀ (x2 : Int32) (h : Hp), I x2 h → ∀ K : Int32 → Hp → Prop, (∀ (x2' : Int32) (h' : Hp), I x2' h' → μ x2' h' < μ x2 h → K x2' h') → fX12_readText_105 a0 x1 Q K x2 h) : ∀ (x2 : Int32) (h : Hp), I x2 h → eX12_readText_105 a0 x1 Q x2 h := fun x2 h hI => lp_ind (fun s => I s.1 s.2) (fun s => μ s.1 s.2) (fun s hs' K hK => hs s.1 s.2 hs' _ (fun x2' h' h1 h2 => hK (x2', h') h1 h2)) (x2, h) hI
set_option maxRecDepth 20000 in
theorem tX12_readText_105 {G : GG} {X : XX} {a0 : Nat} {x1 : Int32} {x2 : Int32} {h : Hp}  {Q : Int32 → Hp → Prop} (C : Cx G RX12 cX12_readText 3 (some .int) 124 0 0 X) (k0 : kd a0 = 12) (hw : eX12_readText_105 a0 x1 Q x2 h) : R0 G X 0 0 (ZM G (fun r h' => ∃ v, r = some (.int v) ∧ Q v h') X) 105 [some (.ref (G.1 a0)), some (.int x1), some (.int x2)] [] h := by
  obtain ⟨N, hw⟩ := hw
  induction N generalizing x2 h with
  | zero => exact hw.elim
  | succ N ih =>
    obtain ⟨K105, eK⟩ : ∃ K : Int32 → Hp → Prop, K = (fun x2 h => lpN (fun (K : Int32 × Hp → Prop) (s : Int32 × Hp) => fX12_readText_105 a0 x1 Q (fun x2 h => K (x2, h)) s.1 s.2) N (x2, h)) := ⟨_, rfl⟩
    have hw : fX12_readText_105 a0 x1 Q (fun x2 h => lpN (fun (K : Int32 × Hp → Prop) (s : Int32 × Hp) => fX12_readText_105 a0 x1 Q (fun x2 h => K (x2, h)) s.1 s.2) N (x2, h)) x2 h := hw
    have hK105 : ∀ (x2 : Int32) (h : Hp), K105 x2 h → R0 G X 0 0 (ZM G (fun r h' => ∃ v, r = some (.int v) ∧ Q v h') X) 105 [some (.ref (G.1 a0)), some (.int x1), some (.int x2)] [] h := fun x2 h q => ih (by rw [eK] at q; exact q)
    rw [← eK] at hw
    clear eK ih
    unfold fX12_readText_105 at hw
    refine r_iload_n C dX12_readText_105 rfl ?_
    refine r_aload_n C dX12_readText_106 rfl ?_
    refine gX12_169 C (k0) dX12_readText_107 ?_
    refine r_icmp_ge 163 C dX12_readText_110 (by decide) (fun hc => ?_) (fun hc => ?_)
    · replace hw := it_t hc hw
      refine r_aload_n C dX12_readText_163 rfl ?_
      refine gX12_47 C (k0) dX12_readText_164 ?_
      refine r_iload_n C dX12_readText_167 rfl ?_
      refine r_aload_n C dX12_readText_168 rfl ?_
      refine gX12_47 C (k0) dX12_readText_169 ?_
      refine r_iconst (2) C dX12_readText_172 (by decide) ?_
      obtain ⟨hi1, hw⟩ := hw
      refine r_iald C (kr12_25 (k0)) hi1 dX12_readText_173 ?_
      obtain ⟨hi2, hw⟩ := hw
      refine r_iast C (kr12_25 (k0)) hi2 dX12_readText_174 ?_
      refine r_toph (fun h3 eh3 => ?_)
      replace hw := hw h3 eh3
      refine r_iconst (0) C dX12_readText_175 (by decide) ?_
      refine r_istore_n [some (.ref (G.1 a0)), some (.int x1), some (.int (0 : Int32))] C dX12_readText_176 (Nat.le_of_ble_eq_true rfl) rfl rfl ?_
      exact tX12_readText_177 C (k0) hw
    · replace hw := it_f hc hw
      refine r_aload_n C dX12_readText_113 rfl ?_
      refine gX12_41 C (k0) dX12_readText_114 ?_
      refine r_sipush (130) C dX12_readText_117 (by decide) ?_
      refine r_iload_n C dX12_readText_120 rfl ?_
      refine r_imul C dX12_readText_121 ?_
      refine r_iload_n C dX12_readText_122 rfl ?_
      refine r_iadd C dX12_readText_123 ?_
      refine r_aload_n C dX12_readText_124 rfl ?_
      refine gX12_41 C (k0) dX12_readText_125 ?_
      refine r_sipush (260) C dX12_readText_128 (by decide) ?_
      refine r_iload_n C dX12_readText_131 rfl ?_
      refine r_iadd C dX12_readText_132 ?_
      obtain ⟨hi4, hw⟩ := hw
      refine r_bald C (kr12_23 (k0)) hi4 dX12_readText_133 ?_
      obtain ⟨hi5, hw⟩ := hw
      refine r_bast C (kr12_23 (k0)) hi5 dX12_readText_134 ?_
      refine r_toph (fun h6 eh6 => ?_)
      replace hw := hw h6 eh6
      refine r_aload_n C dX12_readText_135 rfl ?_
      refine gX12_44 C (k0) dX12_readText_136 ?_
      refine r_sipush (130) C dX12_readText_139 (by decide) ?_
      refine r_iload_n C dX12_readText_142 rfl ?_
      refine r_imul C dX12_readText_143 ?_
      refine r_iload_n C dX12_readText_144 rfl ?_
      refine r_iadd C dX12_readText_145 ?_
      refine r_aload_n C dX12_readText_146 rfl ?_
      refine gX12_44 C (k0) dX12_readText_147 ?_
      refine r_sipush (260) C dX12_readText_150 (by decide) ?_
      refine r_iload_n C dX12_readText_153 rfl ?_
      refine r_iadd C dX12_readText_154 ?_
      obtain ⟨hi7, hw⟩ := hw
      refine r_iald C (kr12_24 (k0)) hi7 dX12_readText_155 ?_
      obtain ⟨hi8, hw⟩ := hw
      refine r_iast C (kr12_24 (k0)) hi8 dX12_readText_156 ?_
      refine r_toph (fun h9 eh9 => ?_)
      replace hw := hw h9 eh9
      obtain ⟨v10, ev10⟩ : ∃ v : Int32, v = x2 + (1 : Int32) := ⟨_, rfl⟩
      replace hw := hw v10 ev10
      refine r_iinc v10 [some (.ref (G.1 a0)), some (.int x1), some (.int v10)] C dX12_readText_157 rfl (by rw [ev10]; rfl) rfl rfl ?_
      refine r_goto 105 C dX12_readText_160 (by decide) ?_
      exact hK105 _ _ hw
def jX12_readText_86 (a0 : Nat) (x1 : Int32) (h : Hp) (Q : Int32 → Hp → Prop) : Prop :=
  ∀ h1 : Hp, h1 = sI h a0 18 (0 : Int32) → (if (gI h1 a0 20) < 0 then (eX12_readText_105 a0 x1 Q (0 : Int32) h1) else (Q (gI h1 a0 20) h1))
set_option maxRecDepth 20000 in
theorem tX12_readText_86 {G : GG} {X : XX} {a0 : Nat} {x1 : Int32} {h : Hp}  {Q : Int32 → Hp → Prop} (C : Cx G RX12 cX12_readText 3 (some .int) 124 0 0 X) (k0 : kd a0 = 12) (hw : jX12_readText_86 a0 x1 h Q) : R0 G X 0 0 (ZM G (fun r h' => ∃ v, r = some (.int v) ∧ Q v h') X) 86 [some (.ref (G.1 a0)), some (.int x1), none] [] h := by
  unfold jX12_readText_86 at hw
  refine r_aload_n C dX12_readText_86 rfl ?_
  refine r_iconst (0) C dX12_readText_87 (by decide) ?_
  refine pX12_160 C (k0) dX12_readText_88 ?_
  refine r_toph (fun h1 eh1 => ?_)
  replace hw := hw h1 eh1
  refine r_aload_n C dX12_readText_91 rfl ?_
  refine gX12_166 C (k0) dX12_readText_92 ?_
  refine r_if_lt 103 C dX12_readText_95 (by decide) (fun hc => ?_) (fun hc => ?_)
  · replace hw := it_t hc hw
    refine r_iconst (0) C dX12_readText_103 (by decide) ?_
    refine r_istore_n [some (.ref (G.1 a0)), some (.int x1), some (.int (0 : Int32))] C dX12_readText_104 (Nat.le_of_ble_eq_true rfl) rfl rfl ?_
    exact tX12_readText_105 C (k0) hw
  · replace hw := it_f hc hw
    refine r_aload_n C dX12_readText_98 rfl ?_
    refine gX12_166 C (k0) dX12_readText_99 ?_
    exact r_iret C dX12_readText_102 ⟨_, rfl, hw⟩
def jX12_readText_64 (a0 : Nat) (x1 : Int32) (h : Hp) (Q : Int32 → Hp → Prop) : Prop :=
  if 0 ≤ (gI h a0 20) then (jX12_readText_86 a0 x1 h Q) else (if (gI h a0 18) ≤ (gI h a0 19) then (jX12_readText_86 a0 x1 h Q) else (wX12_faulty a0 h (fun h2 => jX12_readText_86 a0 x1 h2 Q)))
set_option maxRecDepth 20000 in
theorem tX12_readText_64 {G : GG} {X : XX} {a0 : Nat} {x1 : Int32} {h : Hp}  {Q : Int32 → Hp → Prop} (C : Cx G RX12 cX12_readText 3 (some .int) 124 0 0 X) (k0 : kd a0 = 12) (hw : jX12_readText_64 a0 x1 h Q) : R0 G X 0 0 (ZM G (fun r h' => ∃ v, r = some (.int v) ∧ Q v h') X) 64 [some (.ref (G.1 a0)), some (.int x1), none] [] h := by
  unfold jX12_readText_64 at hw
  refine r_aload_n C dX12_readText_64 rfl ?_
  refine gX12_166 C (k0) dX12_readText_65 ?_
  refine r_if_ge 86 C dX12_readText_68 (by decide) (fun hc => ?_) (fun hc => ?_)
  · replace hw := it_t hc hw
    exact tX12_readText_86 C (k0) hw
  · replace hw := it_f hc hw
    refine r_aload_n C dX12_readText_71 rfl ?_
    refine gX12_163 C (k0) dX12_readText_72 ?_
    refine r_aload_n C dX12_readText_75 rfl ?_
    refine gX12_160 C (k0) dX12_readText_76 ?_
    refine r_icmp_ge 86 C dX12_readText_79 (by decide) (fun hc => ?_) (fun hc => ?_)
    · replace hw := it_t hc hw
      exact tX12_readText_86 C (k0) hw
    · replace hw := it_f hc hw
      refine r_aload_n C dX12_readText_82 rfl ?_
      refine kX12_175 C (k0) (sX12_faulty (k0) hw) dX12_readText_83 (Nat.le_of_ble_eq_true rfl) rfl (Nat.le_of_ble_eq_true rfl) (fun h2 hw => ?_)
      exact tX12_readText_86 C (k0) hw
def fX12_readText_31 (a0 : Nat) (x1 : Int32) (Q : Int32 → Hp → Prop) (K31 : Hp → Prop) (h : Hp) : Prop :=
  if 0 ≤ (gI h a0 20) then (jX12_readText_64 a0 x1 h Q) else (wX12_look a0 h (fun v1 => if v1 = (59 : Int32) then (∀ h2 : Hp, h2 = sI h a0 19 ((gI h a0 19) + (1 : Int32)) → (wX12_line a0 h2 (fun h4 => K31 h4))) else (jX12_readText_64 a0 x1 h Q)))
def eX12_readText_31 (a0 : Nat) (x1 : Int32) (Q : Int32 → Hp → Prop) (h : Hp) : Prop := ∃ N, lpN (fun (K : Hp → Prop) (s : Hp) => fX12_readText_31 a0 x1 Q (fun h => K h) s) N h
theorem iX12_readText_31 {a0 : Nat} {x1 : Int32} {Q : Int32 → Hp → Prop} (I : Hp → Prop) (μ : Hp → Nat) (hs : ∀ (h : Hp), I h → ∀ K : Hp → Prop, (∀ (h' : Hp), I h' → μ h' < μ h → K h') → fX12_readText_31 a0 x1 Q K h) : ∀ (h : Hp), I h → eX12_readText_31 a0 x1 Q h := fun h hI => lp_ind (fun s => I s) (fun s => μ s) (fun s hs' K hK => hs s hs' _ (fun h' h1 h2 => hK h' h1 h2)) h hI
set_option maxRecDepth 20000 in
theorem tX12_readText_31 {G : GG} {X : XX} {a0 : Nat} {x1 : Int32} {h : Hp}  {Q : Int32 → Hp → Prop} (C : Cx G RX12 cX12_readText 3 (some .int) 124 0 0 X) (k0 : kd a0 = 12) (hw : eX12_readText_31 a0 x1 Q h) : R0 G X 0 0 (ZM G (fun r h' => ∃ v, r = some (.int v) ∧ Q v h') X) 31 [some (.ref (G.1 a0)), some (.int x1), none] [] h := by
  obtain ⟨N, hw⟩ := hw
  induction N generalizing h with
  | zero => exact hw.elim
  | succ N ih =>
    obtain ⟨K31, eK⟩ : ∃ K : Hp → Prop, K = (fun h => lpN (fun (K : Hp → Prop) (s : Hp) => fX12_readText_31 a0 x1 Q (fun h => K h) s) N h) := ⟨_, rfl⟩
    have hw : fX12_readText_31 a0 x1 Q (fun h => lpN (fun (K : Hp → Prop) (s : Hp) => fX12_readText_31 a0 x1 Q (fun h => K h) s) N h) h := hw
    have hK31 : ∀ (h : Hp), K31 h → R0 G X 0 0 (ZM G (fun r h' => ∃ v, r = some (.int v) ∧ Q v h') X) 31 [some (.ref (G.1 a0)), some (.int x1), none] [] h := fun h q => ih (by rw [eK] at q; exact q)
    rw [← eK] at hw
    clear eK ih
    unfold fX12_readText_31 at hw
    refine r_aload_n C dX12_readText_31 rfl ?_
    refine gX12_166 C (k0) dX12_readText_32 ?_
    refine r_if_ge 64 C dX12_readText_35 (by decide) (fun hc => ?_) (fun hc => ?_)
    · replace hw := it_t hc hw
      exact tX12_readText_64 C (k0) hw
    · replace hw := it_f hc hw
      refine r_aload_n C dX12_readText_38 rfl ?_
      refine kX12_178 C (k0) (sX12_look (k0) hw) dX12_readText_39 (Nat.le_of_ble_eq_true rfl) rfl (Nat.le_of_ble_eq_true rfl) (fun v1 hw => ?_)
      refine r_bipush (59) C dX12_readText_42 (by decide) ?_
      refine r_icmp_ne 64 C dX12_readText_44 (by decide) (fun hc => ?_) (fun hc => ?_)
      · replace hw := it_f hc hw
        exact tX12_readText_64 C (k0) hw
      · replace hw := it_t hc hw
        refine r_aload_n C dX12_readText_47 rfl ?_
        refine r_dup C dX12_readText_48 rfl ?_
        refine gX12_163 C (k0) dX12_readText_49 ?_
        refine r_iconst (1) C dX12_readText_52 (by decide) ?_
        refine r_iadd C dX12_readText_53 ?_
        refine pX12_163 C (k0) dX12_readText_54 ?_
        refine r_toph (fun h2 eh2 => ?_)
        replace hw := hw h2 eh2
        refine r_aload_n C dX12_readText_57 rfl ?_
        refine kX12_215 C (k0) (sX12_line (k0) hw) dX12_readText_58 (Nat.le_of_ble_eq_true rfl) rfl (Nat.le_of_ble_eq_true rfl) (fun h4 hw => ?_)
        refine r_goto 31 C dX12_readText_61 (by decide) ?_
        exact hK31 _ hw
def wX12_readText (a0 : Nat) (x1 : Int32) (h : Hp) (Q : Int32 → Hp → Prop) : Prop :=
  ∀ h1 : Hp, h1 = sI h a0 19 (0 : Int32) → (∀ h2 : Hp, h2 = sI h1 a0 20 (-1 : Int32) → (∀ h3 : Hp, h3 = sI h2 a0 21 (0 : Int32) → (∀ h4 : Hp, h4 = sI h3 a0 22 (0 : Int32) → (vp_in (2 : Int32) (ln (rf a0 25)) ∧ (∀ h6 : Hp, h6 = sI h4 (rf a0 25) (2 : Int32).toNatClampNeg (0 : Int32) → (wX12_line a0 h6 (fun h8 => eX12_readText_31 a0 x1 Q h8)))))))
set_option maxRecDepth 20000 in
theorem sX12_readText {G : GG} {a0 : Nat} {x1 : Int32} {h : Hp} {Q : Int32 → Hp → Prop} (k0 : kd a0 = 12) (hw : wX12_readText a0 x1 h Q) : CI G 124 yX12_readText cX12_readText 3 (some .int) [.ref (G.1 a0), .int x1] h Q := by
  refine CO_of [some (.ref (G.1 a0)), some (.int x1), none] (by decide) (Nat.le_of_ble_eq_true rfl) rfl (fun X C => ?_)
  unfold wX12_readText at hw
  refine r_aload_n C dX12_readText_0 rfl ?_
  refine r_iconst (0) C dX12_readText_1 (by decide) ?_
  refine pX12_163 C (k0) dX12_readText_2 ?_
  refine r_toph (fun h1 eh1 => ?_)
  replace hw := hw h1 eh1
  refine r_aload_n C dX12_readText_5 rfl ?_
  refine r_iconst (-1) C dX12_readText_6 (by decide) ?_
  refine pX12_166 C (k0) dX12_readText_7 ?_
  refine r_toph (fun h2 eh2 => ?_)
  replace hw := hw h2 eh2
  refine r_aload_n C dX12_readText_10 rfl ?_
  refine r_iconst (0) C dX12_readText_11 (by decide) ?_
  refine pX12_172 C (k0) dX12_readText_12 ?_
  refine r_toph (fun h3 eh3 => ?_)
  replace hw := hw h3 eh3
  refine r_aload_n C dX12_readText_15 rfl ?_
  refine r_iconst (0) C dX12_readText_16 (by decide) ?_
  refine pX12_169 C (k0) dX12_readText_17 ?_
  refine r_toph (fun h4 eh4 => ?_)
  replace hw := hw h4 eh4
  refine r_aload_n C dX12_readText_20 rfl ?_
  refine gX12_47 C (k0) dX12_readText_21 ?_
  refine r_iconst (2) C dX12_readText_24 (by decide) ?_
  refine r_iconst (0) C dX12_readText_25 (by decide) ?_
  obtain ⟨hi5, hw⟩ := hw
  refine r_iast C (kr12_25 (k0)) hi5 dX12_readText_26 ?_
  refine r_toph (fun h6 eh6 => ?_)
  replace hw := hw h6 eh6
  refine r_aload_n C dX12_readText_27 rfl ?_
  refine kX12_215 C (k0) (sX12_line (k0) hw) dX12_readText_28 (Nat.le_of_ble_eq_true rfl) rfl (Nat.le_of_ble_eq_true rfl) (fun h8 hw => ?_)
  exact tX12_readText_31 C (k0) hw
def wX12_twoOf (x0 : Int32) (x1 : Int32) (x2 : Int32) (h : Hp) (Q : Int32 → Prop) : Prop :=
  if x0 = (37 : Int32) then (if x2 = 0 then (Q (0 : Int32)) else (if x2 = (-1 : Int32) then (Q (0 : Int32)) else (¬ x2 = 0 ∧ (Q (rm x1 x2))))) else (if x0 = (38 : Int32) then (if x1 = 0 then (Q (0 : Int32)) else (if x2 = 0 then (Q (0 : Int32)) else (Q (1 : Int32)))) else (if x0 = (39 : Int32) then (if x1 = 0 then (if x2 = 0 then (Q (0 : Int32)) else (Q (1 : Int32))) else (Q (1 : Int32))) else (if x0 = (40 : Int32) then (if x1 = 0 then (if x2 = 0 then (Q (0 : Int32)) else (Q (1 : Int32))) else (Q (1 : Int32))) else (if x0 = (41 : Int32) then (if x1 = 0 then (if x2 = 0 then (Q (0 : Int32)) else (Q (1 : Int32))) else (Q (1 : Int32))) else (if x0 = (42 : Int32) then (Q (x1 * x2)) else (if x0 = (43 : Int32) then (Q (x1 + x2)) else (if x0 = (44 : Int32) then (if x1 = 0 then (if x2 = 0 then (Q (0 : Int32)) else (Q (1 : Int32))) else (Q (1 : Int32))) else (if x0 = (45 : Int32) then (Q (x1 - x2)) else (if x0 = (46 : Int32) then (if x1 = 0 then (if x2 = 0 then (Q (0 : Int32)) else (Q (1 : Int32))) else (Q (1 : Int32))) else (if x0 = (47 : Int32) then (if x2 = 0 then (Q (0 : Int32)) else (if x2 = (-1 : Int32) then (Q (-x1)) else (¬ x2 = 0 ∧ (Q (x1 / x2))))) else (if x0 = (48 : Int32) then (if x1 = 0 then (if x2 = 0 then (Q (0 : Int32)) else (Q (1 : Int32))) else (Q (1 : Int32))) else (if x0 = (49 : Int32) then (if x1 = 0 then (if x2 = 0 then (Q (0 : Int32)) else (Q (1 : Int32))) else (Q (1 : Int32))) else (if x0 = (50 : Int32) then (if x1 = 0 then (if x2 = 0 then (Q (0 : Int32)) else (Q (1 : Int32))) else (Q (1 : Int32))) else (if x0 = (51 : Int32) then (if x1 = 0 then (if x2 = 0 then (Q (0 : Int32)) else (Q (1 : Int32))) else (Q (1 : Int32))) else (if x0 = (52 : Int32) then (if x1 = 0 then (if x2 = 0 then (Q (0 : Int32)) else (Q (1 : Int32))) else (Q (1 : Int32))) else (if x0 = (53 : Int32) then (if x1 = 0 then (if x2 = 0 then (Q (0 : Int32)) else (Q (1 : Int32))) else (Q (1 : Int32))) else (if x0 = (54 : Int32) then (if x1 = 0 then (if x2 = 0 then (Q (0 : Int32)) else (Q (1 : Int32))) else (Q (1 : Int32))) else (if x0 = (55 : Int32) then (if x1 = 0 then (if x2 = 0 then (Q (0 : Int32)) else (Q (1 : Int32))) else (Q (1 : Int32))) else (if x0 = (56 : Int32) then (if x1 = 0 then (if x2 = 0 then (Q (0 : Int32)) else (Q (1 : Int32))) else (Q (1 : Int32))) else (if x0 = (57 : Int32) then (if x1 = 0 then (if x2 = 0 then (Q (0 : Int32)) else (Q (1 : Int32))) else (Q (1 : Int32))) else (if x0 = (58 : Int32) then (if x1 = 0 then (if x2 = 0 then (Q (0 : Int32)) else (Q (1 : Int32))) else (Q (1 : Int32))) else (if x0 = (59 : Int32) then (if x1 = 0 then (if x2 = 0 then (Q (0 : Int32)) else (Q (1 : Int32))) else (Q (1 : Int32))) else (if x0 = (60 : Int32) then (if x2 ≤ x1 then (Q (0 : Int32)) else (Q (1 : Int32))) else (if x0 = (61 : Int32) then (if x1 = x2 then (Q (1 : Int32)) else (Q (0 : Int32))) else (if x0 = (62 : Int32) then (if x1 ≤ x2 then (Q (0 : Int32)) else (Q (1 : Int32))) else (if x1 = 0 then (if x2 = 0 then (Q (0 : Int32)) else (Q (1 : Int32))) else (Q (1 : Int32))))))))))))))))))))))))))))
set_option maxRecDepth 20000 in
theorem sX12_twoOf {G : GG} {x0 : Int32} {x1 : Int32} {x2 : Int32} {h : Hp} {Q : Int32 → Prop} (hw : wX12_twoOf x0 x1 x2 h Q) : PI G 0 yX12_twoOf cX12_twoOf 3 (some .int) [.int x0, .int x1, .int x2] h Q := by
  refine CO_of [some (.int x0), some (.int x1), some (.int x2)] (by decide) (Nat.le_of_ble_eq_true rfl) rfl (fun X C => ?_)
  unfold wX12_twoOf at hw
  refine r_iload_n C dX12_twoOf_0 rfl ?_
  by_cases hs1_37 : x0 = (37 : Int32)
  · replace hw := it_t hs1_37 hw
    refine r_tabIn (off := 153) (37) 154 C dX12_twoOf_1 hs1_37 (by decide) ?_
    refine r_iload_n C dX12_twoOf_154 rfl ?_
    refine r_if_eq 163 C dX12_twoOf_155 (by decide) (fun hc => ?_) (fun hc => ?_)
    · replace hw := it_t hc hw
      refine r_iconst (0) C dX12_twoOf_163 (by decide) ?_
      refine r_goto 170 C dX12_twoOf_164 (by decide) ?_
      exact r_iret C dX12_twoOf_170 ⟨_, rfl, rfl, hw⟩
    · replace hw := it_f hc hw
      refine r_iload_n C dX12_twoOf_158 rfl ?_
      refine r_iconst (-1) C dX12_twoOf_159 (by decide) ?_
      refine r_icmp_ne 167 C dX12_twoOf_160 (by decide) (fun hc => ?_) (fun hc => ?_)
      · replace hw := it_f hc hw
        refine r_iload_n C dX12_twoOf_167 rfl ?_
        refine r_iload_n C dX12_twoOf_168 rfl ?_
        obtain ⟨hz1, hw⟩ := hw
        refine r_irem C dX12_twoOf_169 hz1 ?_
        exact r_iret C dX12_twoOf_170 ⟨_, rfl, rfl, hw⟩
      · replace hw := it_t hc hw
        refine r_iconst (0) C dX12_twoOf_163 (by decide) ?_
        refine r_goto 170 C dX12_twoOf_164 (by decide) ?_
        exact r_iret C dX12_twoOf_170 ⟨_, rfl, rfl, hw⟩
  replace hw := it_f hs1_37 hw
  by_cases hs1_38 : x0 = (38 : Int32)
  · replace hw := it_t hs1_38 hw
    refine r_tabIn (off := 203) (38) 204 C dX12_twoOf_1 hs1_38 (by decide) ?_
    refine r_iload_n C dX12_twoOf_204 rfl ?_
    refine r_if_eq 216 C dX12_twoOf_205 (by decide) (fun hc => ?_) (fun hc => ?_)
    · replace hw := it_t hc hw
      refine r_iconst (0) C dX12_twoOf_216 (by decide) ?_
      exact r_iret C dX12_twoOf_217 ⟨_, rfl, rfl, hw⟩
    · replace hw := it_f hc hw
      refine r_iload_n C dX12_twoOf_208 rfl ?_
      refine r_if_eq 216 C dX12_twoOf_209 (by decide) (fun hc => ?_) (fun hc => ?_)
      · replace hw := it_t hc hw
        refine r_iconst (0) C dX12_twoOf_216 (by decide) ?_
        exact r_iret C dX12_twoOf_217 ⟨_, rfl, rfl, hw⟩
      · replace hw := it_f hc hw
        refine r_iconst (1) C dX12_twoOf_212 (by decide) ?_
        refine r_goto 217 C dX12_twoOf_213 (by decide) ?_
        exact r_iret C dX12_twoOf_217 ⟨_, rfl, rfl, hw⟩
  replace hw := it_f hs1_38 hw
  by_cases hs1_39 : x0 = (39 : Int32)
  · replace hw := it_t hs1_39 hw
    refine r_tabIn (off := 217) (39) 218 C dX12_twoOf_1 hs1_39 (by decide) ?_
    refine r_iload_n C dX12_twoOf_218 rfl ?_
    refine r_if_ne 226 C dX12_twoOf_219 (by decide) (fun hc => ?_) (fun hc => ?_)
    · replace hw := it_f hc hw
      refine r_iconst (1) C dX12_twoOf_226 (by decide) ?_
      refine r_goto 231 C dX12_twoOf_227 (by decide) ?_
      exact r_iret C dX12_twoOf_231 ⟨_, rfl, rfl, hw⟩
    · replace hw := it_t hc hw
      refine r_iload_n C dX12_twoOf_222 rfl ?_
      refine r_if_eq 230 C dX12_twoOf_223 (by decide) (fun hc => ?_) (fun hc => ?_)
      · replace hw := it_t hc hw
        refine r_iconst (0) C dX12_twoOf_230 (by decide) ?_
        exact r_iret C dX12_twoOf_231 ⟨_, rfl, rfl, hw⟩
      · replace hw := it_f hc hw
        refine r_iconst (1) C dX12_twoOf_226 (by decide) ?_
        refine r_goto 231 C dX12_twoOf_227 (by decide) ?_
        exact r_iret C dX12_twoOf_231 ⟨_, rfl, rfl, hw⟩
  replace hw := it_f hs1_39 hw
  by_cases hs1_40 : x0 = (40 : Int32)
  · replace hw := it_t hs1_40 hw
    refine r_tabIn (off := 217) (40) 218 C dX12_twoOf_1 hs1_40 (by decide) ?_
    refine r_iload_n C dX12_twoOf_218 rfl ?_
    refine r_if_ne 226 C dX12_twoOf_219 (by decide) (fun hc => ?_) (fun hc => ?_)
    · replace hw := it_f hc hw
      refine r_iconst (1) C dX12_twoOf_226 (by decide) ?_
      refine r_goto 231 C dX12_twoOf_227 (by decide) ?_
      exact r_iret C dX12_twoOf_231 ⟨_, rfl, rfl, hw⟩
    · replace hw := it_t hc hw
      refine r_iload_n C dX12_twoOf_222 rfl ?_
      refine r_if_eq 230 C dX12_twoOf_223 (by decide) (fun hc => ?_) (fun hc => ?_)
      · replace hw := it_t hc hw
        refine r_iconst (0) C dX12_twoOf_230 (by decide) ?_
        exact r_iret C dX12_twoOf_231 ⟨_, rfl, rfl, hw⟩
      · replace hw := it_f hc hw
        refine r_iconst (1) C dX12_twoOf_226 (by decide) ?_
        refine r_goto 231 C dX12_twoOf_227 (by decide) ?_
        exact r_iret C dX12_twoOf_231 ⟨_, rfl, rfl, hw⟩
  replace hw := it_f hs1_40 hw
  by_cases hs1_41 : x0 = (41 : Int32)
  · replace hw := it_t hs1_41 hw
    refine r_tabIn (off := 217) (41) 218 C dX12_twoOf_1 hs1_41 (by decide) ?_
    refine r_iload_n C dX12_twoOf_218 rfl ?_
    refine r_if_ne 226 C dX12_twoOf_219 (by decide) (fun hc => ?_) (fun hc => ?_)
    · replace hw := it_f hc hw
      refine r_iconst (1) C dX12_twoOf_226 (by decide) ?_
      refine r_goto 231 C dX12_twoOf_227 (by decide) ?_
      exact r_iret C dX12_twoOf_231 ⟨_, rfl, rfl, hw⟩
    · replace hw := it_t hc hw
      refine r_iload_n C dX12_twoOf_222 rfl ?_
      refine r_if_eq 230 C dX12_twoOf_223 (by decide) (fun hc => ?_) (fun hc => ?_)
      · replace hw := it_t hc hw
        refine r_iconst (0) C dX12_twoOf_230 (by decide) ?_
        exact r_iret C dX12_twoOf_231 ⟨_, rfl, rfl, hw⟩
      · replace hw := it_f hc hw
        refine r_iconst (1) C dX12_twoOf_226 (by decide) ?_
        refine r_goto 231 C dX12_twoOf_227 (by decide) ?_
        exact r_iret C dX12_twoOf_231 ⟨_, rfl, rfl, hw⟩
  replace hw := it_f hs1_41 hw
  by_cases hs1_42 : x0 = (42 : Int32)
  · replace hw := it_t hs1_42 hw
    refine r_tabIn (off := 127) (42) 128 C dX12_twoOf_1 hs1_42 (by decide) ?_
    refine r_iload_n C dX12_twoOf_128 rfl ?_
    refine r_iload_n C dX12_twoOf_129 rfl ?_
    refine r_imul C dX12_twoOf_130 ?_
    exact r_iret C dX12_twoOf_131 ⟨_, rfl, rfl, hw⟩
  replace hw := it_f hs1_42 hw
  by_cases hs1_43 : x0 = (43 : Int32)
  · replace hw := it_t hs1_43 hw
    refine r_tabIn (off := 119) (43) 120 C dX12_twoOf_1 hs1_43 (by decide) ?_
    refine r_iload_n C dX12_twoOf_120 rfl ?_
    refine r_iload_n C dX12_twoOf_121 rfl ?_
    refine r_iadd C dX12_twoOf_122 ?_
    exact r_iret C dX12_twoOf_123 ⟨_, rfl, rfl, hw⟩
  replace hw := it_f hs1_43 hw
  by_cases hs1_44 : x0 = (44 : Int32)
  · replace hw := it_t hs1_44 hw
    refine r_tabIn (off := 217) (44) 218 C dX12_twoOf_1 hs1_44 (by decide) ?_
    refine r_iload_n C dX12_twoOf_218 rfl ?_
    refine r_if_ne 226 C dX12_twoOf_219 (by decide) (fun hc => ?_) (fun hc => ?_)
    · replace hw := it_f hc hw
      refine r_iconst (1) C dX12_twoOf_226 (by decide) ?_
      refine r_goto 231 C dX12_twoOf_227 (by decide) ?_
      exact r_iret C dX12_twoOf_231 ⟨_, rfl, rfl, hw⟩
    · replace hw := it_t hc hw
      refine r_iload_n C dX12_twoOf_222 rfl ?_
      refine r_if_eq 230 C dX12_twoOf_223 (by decide) (fun hc => ?_) (fun hc => ?_)
      · replace hw := it_t hc hw
        refine r_iconst (0) C dX12_twoOf_230 (by decide) ?_
        exact r_iret C dX12_twoOf_231 ⟨_, rfl, rfl, hw⟩
      · replace hw := it_f hc hw
        refine r_iconst (1) C dX12_twoOf_226 (by decide) ?_
        refine r_goto 231 C dX12_twoOf_227 (by decide) ?_
        exact r_iret C dX12_twoOf_231 ⟨_, rfl, rfl, hw⟩
  replace hw := it_f hs1_44 hw
  by_cases hs1_45 : x0 = (45 : Int32)
  · replace hw := it_t hs1_45 hw
    refine r_tabIn (off := 123) (45) 124 C dX12_twoOf_1 hs1_45 (by decide) ?_
    refine r_iload_n C dX12_twoOf_124 rfl ?_
    refine r_iload_n C dX12_twoOf_125 rfl ?_
    refine r_isub C dX12_twoOf_126 ?_
    exact r_iret C dX12_twoOf_127 ⟨_, rfl, rfl, hw⟩
  replace hw := it_f hs1_45 hw
  by_cases hs1_46 : x0 = (46 : Int32)
  · replace hw := it_t hs1_46 hw
    refine r_tabIn (off := 217) (46) 218 C dX12_twoOf_1 hs1_46 (by decide) ?_
    refine r_iload_n C dX12_twoOf_218 rfl ?_
    refine r_if_ne 226 C dX12_twoOf_219 (by decide) (fun hc => ?_) (fun hc => ?_)
    · replace hw := it_f hc hw
      refine r_iconst (1) C dX12_twoOf_226 (by decide) ?_
      refine r_goto 231 C dX12_twoOf_227 (by decide) ?_
      exact r_iret C dX12_twoOf_231 ⟨_, rfl, rfl, hw⟩
    · replace hw := it_t hc hw
      refine r_iload_n C dX12_twoOf_222 rfl ?_
      refine r_if_eq 230 C dX12_twoOf_223 (by decide) (fun hc => ?_) (fun hc => ?_)
      · replace hw := it_t hc hw
        refine r_iconst (0) C dX12_twoOf_230 (by decide) ?_
        exact r_iret C dX12_twoOf_231 ⟨_, rfl, rfl, hw⟩
      · replace hw := it_f hc hw
        refine r_iconst (1) C dX12_twoOf_226 (by decide) ?_
        refine r_goto 231 C dX12_twoOf_227 (by decide) ?_
        exact r_iret C dX12_twoOf_231 ⟨_, rfl, rfl, hw⟩
  replace hw := it_f hs1_46 hw
  by_cases hs1_47 : x0 = (47 : Int32)
  · replace hw := it_t hs1_47 hw
    refine r_tabIn (off := 131) (47) 132 C dX12_twoOf_1 hs1_47 (by decide) ?_
    refine r_iload_n C dX12_twoOf_132 rfl ?_
    refine r_if_ne 140 C dX12_twoOf_133 (by decide) (fun hc => ?_) (fun hc => ?_)
    · replace hw := it_f hc hw
      refine r_iload_n C dX12_twoOf_140 rfl ?_
      refine r_iconst (-1) C dX12_twoOf_141 (by decide) ?_
      refine r_icmp_ne 150 C dX12_twoOf_142 (by decide) (fun hc => ?_) (fun hc => ?_)
      · replace hw := it_f hc hw
        refine r_iload_n C dX12_twoOf_150 rfl ?_
        refine r_iload_n C dX12_twoOf_151 rfl ?_
        obtain ⟨hz2, hw⟩ := hw
        refine r_idiv C dX12_twoOf_152 hz2 ?_
        exact r_iret C dX12_twoOf_153 ⟨_, rfl, rfl, hw⟩
      · replace hw := it_t hc hw
        refine r_iload_n C dX12_twoOf_145 rfl ?_
        refine r_ineg C dX12_twoOf_146 ?_
        refine r_goto 153 C dX12_twoOf_147 (by decide) ?_
        exact r_iret C dX12_twoOf_153 ⟨_, rfl, rfl, hw⟩
    · replace hw := it_t hc hw
      refine r_iconst (0) C dX12_twoOf_136 (by decide) ?_
      refine r_goto 153 C dX12_twoOf_137 (by decide) ?_
      exact r_iret C dX12_twoOf_153 ⟨_, rfl, rfl, hw⟩
  replace hw := it_f hs1_47 hw
  by_cases hs1_48 : x0 = (48 : Int32)
  · replace hw := it_t hs1_48 hw
    refine r_tabIn (off := 217) (48) 218 C dX12_twoOf_1 hs1_48 (by decide) ?_
    refine r_iload_n C dX12_twoOf_218 rfl ?_
    refine r_if_ne 226 C dX12_twoOf_219 (by decide) (fun hc => ?_) (fun hc => ?_)
    · replace hw := it_f hc hw
      refine r_iconst (1) C dX12_twoOf_226 (by decide) ?_
      refine r_goto 231 C dX12_twoOf_227 (by decide) ?_
      exact r_iret C dX12_twoOf_231 ⟨_, rfl, rfl, hw⟩
    · replace hw := it_t hc hw
      refine r_iload_n C dX12_twoOf_222 rfl ?_
      refine r_if_eq 230 C dX12_twoOf_223 (by decide) (fun hc => ?_) (fun hc => ?_)
      · replace hw := it_t hc hw
        refine r_iconst (0) C dX12_twoOf_230 (by decide) ?_
        exact r_iret C dX12_twoOf_231 ⟨_, rfl, rfl, hw⟩
      · replace hw := it_f hc hw
        refine r_iconst (1) C dX12_twoOf_226 (by decide) ?_
        refine r_goto 231 C dX12_twoOf_227 (by decide) ?_
        exact r_iret C dX12_twoOf_231 ⟨_, rfl, rfl, hw⟩
  replace hw := it_f hs1_48 hw
  by_cases hs1_49 : x0 = (49 : Int32)
  · replace hw := it_t hs1_49 hw
    refine r_tabIn (off := 217) (49) 218 C dX12_twoOf_1 hs1_49 (by decide) ?_
    refine r_iload_n C dX12_twoOf_218 rfl ?_
    refine r_if_ne 226 C dX12_twoOf_219 (by decide) (fun hc => ?_) (fun hc => ?_)
    · replace hw := it_f hc hw
      refine r_iconst (1) C dX12_twoOf_226 (by decide) ?_
      refine r_goto 231 C dX12_twoOf_227 (by decide) ?_
      exact r_iret C dX12_twoOf_231 ⟨_, rfl, rfl, hw⟩
    · replace hw := it_t hc hw
      refine r_iload_n C dX12_twoOf_222 rfl ?_
      refine r_if_eq 230 C dX12_twoOf_223 (by decide) (fun hc => ?_) (fun hc => ?_)
      · replace hw := it_t hc hw
        refine r_iconst (0) C dX12_twoOf_230 (by decide) ?_
        exact r_iret C dX12_twoOf_231 ⟨_, rfl, rfl, hw⟩
      · replace hw := it_f hc hw
        refine r_iconst (1) C dX12_twoOf_226 (by decide) ?_
        refine r_goto 231 C dX12_twoOf_227 (by decide) ?_
        exact r_iret C dX12_twoOf_231 ⟨_, rfl, rfl, hw⟩
  replace hw := it_f hs1_49 hw
  by_cases hs1_50 : x0 = (50 : Int32)
  · replace hw := it_t hs1_50 hw
    refine r_tabIn (off := 217) (50) 218 C dX12_twoOf_1 hs1_50 (by decide) ?_
    refine r_iload_n C dX12_twoOf_218 rfl ?_
    refine r_if_ne 226 C dX12_twoOf_219 (by decide) (fun hc => ?_) (fun hc => ?_)
    · replace hw := it_f hc hw
      refine r_iconst (1) C dX12_twoOf_226 (by decide) ?_
      refine r_goto 231 C dX12_twoOf_227 (by decide) ?_
      exact r_iret C dX12_twoOf_231 ⟨_, rfl, rfl, hw⟩
    · replace hw := it_t hc hw
      refine r_iload_n C dX12_twoOf_222 rfl ?_
      refine r_if_eq 230 C dX12_twoOf_223 (by decide) (fun hc => ?_) (fun hc => ?_)
      · replace hw := it_t hc hw
        refine r_iconst (0) C dX12_twoOf_230 (by decide) ?_
        exact r_iret C dX12_twoOf_231 ⟨_, rfl, rfl, hw⟩
      · replace hw := it_f hc hw
        refine r_iconst (1) C dX12_twoOf_226 (by decide) ?_
        refine r_goto 231 C dX12_twoOf_227 (by decide) ?_
        exact r_iret C dX12_twoOf_231 ⟨_, rfl, rfl, hw⟩
  replace hw := it_f hs1_50 hw
  by_cases hs1_51 : x0 = (51 : Int32)
  · replace hw := it_t hs1_51 hw
    refine r_tabIn (off := 217) (51) 218 C dX12_twoOf_1 hs1_51 (by decide) ?_
    refine r_iload_n C dX12_twoOf_218 rfl ?_
    refine r_if_ne 226 C dX12_twoOf_219 (by decide) (fun hc => ?_) (fun hc => ?_)
    · replace hw := it_f hc hw
      refine r_iconst (1) C dX12_twoOf_226 (by decide) ?_
      refine r_goto 231 C dX12_twoOf_227 (by decide) ?_
      exact r_iret C dX12_twoOf_231 ⟨_, rfl, rfl, hw⟩
    · replace hw := it_t hc hw
      refine r_iload_n C dX12_twoOf_222 rfl ?_
      refine r_if_eq 230 C dX12_twoOf_223 (by decide) (fun hc => ?_) (fun hc => ?_)
      · replace hw := it_t hc hw
        refine r_iconst (0) C dX12_twoOf_230 (by decide) ?_
        exact r_iret C dX12_twoOf_231 ⟨_, rfl, rfl, hw⟩
      · replace hw := it_f hc hw
        refine r_iconst (1) C dX12_twoOf_226 (by decide) ?_
        refine r_goto 231 C dX12_twoOf_227 (by decide) ?_
        exact r_iret C dX12_twoOf_231 ⟨_, rfl, rfl, hw⟩
  replace hw := it_f hs1_51 hw
  by_cases hs1_52 : x0 = (52 : Int32)
  · replace hw := it_t hs1_52 hw
    refine r_tabIn (off := 217) (52) 218 C dX12_twoOf_1 hs1_52 (by decide) ?_
    refine r_iload_n C dX12_twoOf_218 rfl ?_
    refine r_if_ne 226 C dX12_twoOf_219 (by decide) (fun hc => ?_) (fun hc => ?_)
    · replace hw := it_f hc hw
      refine r_iconst (1) C dX12_twoOf_226 (by decide) ?_
      refine r_goto 231 C dX12_twoOf_227 (by decide) ?_
      exact r_iret C dX12_twoOf_231 ⟨_, rfl, rfl, hw⟩
    · replace hw := it_t hc hw
      refine r_iload_n C dX12_twoOf_222 rfl ?_
      refine r_if_eq 230 C dX12_twoOf_223 (by decide) (fun hc => ?_) (fun hc => ?_)
      · replace hw := it_t hc hw
        refine r_iconst (0) C dX12_twoOf_230 (by decide) ?_
        exact r_iret C dX12_twoOf_231 ⟨_, rfl, rfl, hw⟩
      · replace hw := it_f hc hw
        refine r_iconst (1) C dX12_twoOf_226 (by decide) ?_
        refine r_goto 231 C dX12_twoOf_227 (by decide) ?_
        exact r_iret C dX12_twoOf_231 ⟨_, rfl, rfl, hw⟩
  replace hw := it_f hs1_52 hw
  by_cases hs1_53 : x0 = (53 : Int32)
  · replace hw := it_t hs1_53 hw
    refine r_tabIn (off := 217) (53) 218 C dX12_twoOf_1 hs1_53 (by decide) ?_
    refine r_iload_n C dX12_twoOf_218 rfl ?_
    refine r_if_ne 226 C dX12_twoOf_219 (by decide) (fun hc => ?_) (fun hc => ?_)
    · replace hw := it_f hc hw
      refine r_iconst (1) C dX12_twoOf_226 (by decide) ?_
      refine r_goto 231 C dX12_twoOf_227 (by decide) ?_
      exact r_iret C dX12_twoOf_231 ⟨_, rfl, rfl, hw⟩
    · replace hw := it_t hc hw
      refine r_iload_n C dX12_twoOf_222 rfl ?_
      refine r_if_eq 230 C dX12_twoOf_223 (by decide) (fun hc => ?_) (fun hc => ?_)
      · replace hw := it_t hc hw
        refine r_iconst (0) C dX12_twoOf_230 (by decide) ?_
        exact r_iret C dX12_twoOf_231 ⟨_, rfl, rfl, hw⟩
      · replace hw := it_f hc hw
        refine r_iconst (1) C dX12_twoOf_226 (by decide) ?_
        refine r_goto 231 C dX12_twoOf_227 (by decide) ?_
        exact r_iret C dX12_twoOf_231 ⟨_, rfl, rfl, hw⟩
  replace hw := it_f hs1_53 hw
  by_cases hs1_54 : x0 = (54 : Int32)
  · replace hw := it_t hs1_54 hw
    refine r_tabIn (off := 217) (54) 218 C dX12_twoOf_1 hs1_54 (by decide) ?_
    refine r_iload_n C dX12_twoOf_218 rfl ?_
    refine r_if_ne 226 C dX12_twoOf_219 (by decide) (fun hc => ?_) (fun hc => ?_)
    · replace hw := it_f hc hw
      refine r_iconst (1) C dX12_twoOf_226 (by decide) ?_
      refine r_goto 231 C dX12_twoOf_227 (by decide) ?_
      exact r_iret C dX12_twoOf_231 ⟨_, rfl, rfl, hw⟩
    · replace hw := it_t hc hw
      refine r_iload_n C dX12_twoOf_222 rfl ?_
      refine r_if_eq 230 C dX12_twoOf_223 (by decide) (fun hc => ?_) (fun hc => ?_)
      · replace hw := it_t hc hw
        refine r_iconst (0) C dX12_twoOf_230 (by decide) ?_
        exact r_iret C dX12_twoOf_231 ⟨_, rfl, rfl, hw⟩
      · replace hw := it_f hc hw
        refine r_iconst (1) C dX12_twoOf_226 (by decide) ?_
        refine r_goto 231 C dX12_twoOf_227 (by decide) ?_
        exact r_iret C dX12_twoOf_231 ⟨_, rfl, rfl, hw⟩
  replace hw := it_f hs1_54 hw
  by_cases hs1_55 : x0 = (55 : Int32)
  · replace hw := it_t hs1_55 hw
    refine r_tabIn (off := 217) (55) 218 C dX12_twoOf_1 hs1_55 (by decide) ?_
    refine r_iload_n C dX12_twoOf_218 rfl ?_
    refine r_if_ne 226 C dX12_twoOf_219 (by decide) (fun hc => ?_) (fun hc => ?_)
    · replace hw := it_f hc hw
      refine r_iconst (1) C dX12_twoOf_226 (by decide) ?_
      refine r_goto 231 C dX12_twoOf_227 (by decide) ?_
      exact r_iret C dX12_twoOf_231 ⟨_, rfl, rfl, hw⟩
    · replace hw := it_t hc hw
      refine r_iload_n C dX12_twoOf_222 rfl ?_
      refine r_if_eq 230 C dX12_twoOf_223 (by decide) (fun hc => ?_) (fun hc => ?_)
      · replace hw := it_t hc hw
        refine r_iconst (0) C dX12_twoOf_230 (by decide) ?_
        exact r_iret C dX12_twoOf_231 ⟨_, rfl, rfl, hw⟩
      · replace hw := it_f hc hw
        refine r_iconst (1) C dX12_twoOf_226 (by decide) ?_
        refine r_goto 231 C dX12_twoOf_227 (by decide) ?_
        exact r_iret C dX12_twoOf_231 ⟨_, rfl, rfl, hw⟩
  replace hw := it_f hs1_55 hw
  by_cases hs1_56 : x0 = (56 : Int32)
  · replace hw := it_t hs1_56 hw
    refine r_tabIn (off := 217) (56) 218 C dX12_twoOf_1 hs1_56 (by decide) ?_
    refine r_iload_n C dX12_twoOf_218 rfl ?_
    refine r_if_ne 226 C dX12_twoOf_219 (by decide) (fun hc => ?_) (fun hc => ?_)
    · replace hw := it_f hc hw
      refine r_iconst (1) C dX12_twoOf_226 (by decide) ?_
      refine r_goto 231 C dX12_twoOf_227 (by decide) ?_
      exact r_iret C dX12_twoOf_231 ⟨_, rfl, rfl, hw⟩
    · replace hw := it_t hc hw
      refine r_iload_n C dX12_twoOf_222 rfl ?_
      refine r_if_eq 230 C dX12_twoOf_223 (by decide) (fun hc => ?_) (fun hc => ?_)
      · replace hw := it_t hc hw
        refine r_iconst (0) C dX12_twoOf_230 (by decide) ?_
        exact r_iret C dX12_twoOf_231 ⟨_, rfl, rfl, hw⟩
      · replace hw := it_f hc hw
        refine r_iconst (1) C dX12_twoOf_226 (by decide) ?_
        refine r_goto 231 C dX12_twoOf_227 (by decide) ?_
        exact r_iret C dX12_twoOf_231 ⟨_, rfl, rfl, hw⟩
  replace hw := it_f hs1_56 hw
  by_cases hs1_57 : x0 = (57 : Int32)
  · replace hw := it_t hs1_57 hw
    refine r_tabIn (off := 217) (57) 218 C dX12_twoOf_1 hs1_57 (by decide) ?_
    refine r_iload_n C dX12_twoOf_218 rfl ?_
    refine r_if_ne 226 C dX12_twoOf_219 (by decide) (fun hc => ?_) (fun hc => ?_)
    · replace hw := it_f hc hw
      refine r_iconst (1) C dX12_twoOf_226 (by decide) ?_
      refine r_goto 231 C dX12_twoOf_227 (by decide) ?_
      exact r_iret C dX12_twoOf_231 ⟨_, rfl, rfl, hw⟩
    · replace hw := it_t hc hw
      refine r_iload_n C dX12_twoOf_222 rfl ?_
      refine r_if_eq 230 C dX12_twoOf_223 (by decide) (fun hc => ?_) (fun hc => ?_)
      · replace hw := it_t hc hw
        refine r_iconst (0) C dX12_twoOf_230 (by decide) ?_
        exact r_iret C dX12_twoOf_231 ⟨_, rfl, rfl, hw⟩
      · replace hw := it_f hc hw
        refine r_iconst (1) C dX12_twoOf_226 (by decide) ?_
        refine r_goto 231 C dX12_twoOf_227 (by decide) ?_
        exact r_iret C dX12_twoOf_231 ⟨_, rfl, rfl, hw⟩
  replace hw := it_f hs1_57 hw
  by_cases hs1_58 : x0 = (58 : Int32)
  · replace hw := it_t hs1_58 hw
    refine r_tabIn (off := 217) (58) 218 C dX12_twoOf_1 hs1_58 (by decide) ?_
    refine r_iload_n C dX12_twoOf_218 rfl ?_
    refine r_if_ne 226 C dX12_twoOf_219 (by decide) (fun hc => ?_) (fun hc => ?_)
    · replace hw := it_f hc hw
      refine r_iconst (1) C dX12_twoOf_226 (by decide) ?_
      refine r_goto 231 C dX12_twoOf_227 (by decide) ?_
      exact r_iret C dX12_twoOf_231 ⟨_, rfl, rfl, hw⟩
    · replace hw := it_t hc hw
      refine r_iload_n C dX12_twoOf_222 rfl ?_
      refine r_if_eq 230 C dX12_twoOf_223 (by decide) (fun hc => ?_) (fun hc => ?_)
      · replace hw := it_t hc hw
        refine r_iconst (0) C dX12_twoOf_230 (by decide) ?_
        exact r_iret C dX12_twoOf_231 ⟨_, rfl, rfl, hw⟩
      · replace hw := it_f hc hw
        refine r_iconst (1) C dX12_twoOf_226 (by decide) ?_
        refine r_goto 231 C dX12_twoOf_227 (by decide) ?_
        exact r_iret C dX12_twoOf_231 ⟨_, rfl, rfl, hw⟩
  replace hw := it_f hs1_58 hw
  by_cases hs1_59 : x0 = (59 : Int32)
  · replace hw := it_t hs1_59 hw
    refine r_tabIn (off := 217) (59) 218 C dX12_twoOf_1 hs1_59 (by decide) ?_
    refine r_iload_n C dX12_twoOf_218 rfl ?_
    refine r_if_ne 226 C dX12_twoOf_219 (by decide) (fun hc => ?_) (fun hc => ?_)
    · replace hw := it_f hc hw
      refine r_iconst (1) C dX12_twoOf_226 (by decide) ?_
      refine r_goto 231 C dX12_twoOf_227 (by decide) ?_
      exact r_iret C dX12_twoOf_231 ⟨_, rfl, rfl, hw⟩
    · replace hw := it_t hc hw
      refine r_iload_n C dX12_twoOf_222 rfl ?_
      refine r_if_eq 230 C dX12_twoOf_223 (by decide) (fun hc => ?_) (fun hc => ?_)
      · replace hw := it_t hc hw
        refine r_iconst (0) C dX12_twoOf_230 (by decide) ?_
        exact r_iret C dX12_twoOf_231 ⟨_, rfl, rfl, hw⟩
      · replace hw := it_f hc hw
        refine r_iconst (1) C dX12_twoOf_226 (by decide) ?_
        refine r_goto 231 C dX12_twoOf_227 (by decide) ?_
        exact r_iret C dX12_twoOf_231 ⟨_, rfl, rfl, hw⟩
  replace hw := it_f hs1_59 hw
  by_cases hs1_60 : x0 = (60 : Int32)
  · replace hw := it_t hs1_60 hw
    refine r_tabIn (off := 170) (60) 171 C dX12_twoOf_1 hs1_60 (by decide) ?_
    refine r_iload_n C dX12_twoOf_171 rfl ?_
    refine r_iload_n C dX12_twoOf_172 rfl ?_
    refine r_icmp_ge 180 C dX12_twoOf_173 (by decide) (fun hc => ?_) (fun hc => ?_)
    · replace hw := it_t hc hw
      refine r_iconst (0) C dX12_twoOf_180 (by decide) ?_
      exact r_iret C dX12_twoOf_181 ⟨_, rfl, rfl, hw⟩
    · replace hw := it_f hc hw
      refine r_iconst (1) C dX12_twoOf_176 (by decide) ?_
      refine r_goto 181 C dX12_twoOf_177 (by decide) ?_
      exact r_iret C dX12_twoOf_181 ⟨_, rfl, rfl, hw⟩
  replace hw := it_f hs1_60 hw
  by_cases hs1_61 : x0 = (61 : Int32)
  · replace hw := it_t hs1_61 hw
    refine r_tabIn (off := 181) (61) 182 C dX12_twoOf_1 hs1_61 (by decide) ?_
    refine r_iload_n C dX12_twoOf_182 rfl ?_
    refine r_iload_n C dX12_twoOf_183 rfl ?_
    refine r_icmp_ne 191 C dX12_twoOf_184 (by decide) (fun hc => ?_) (fun hc => ?_)
    · replace hw := it_f hc hw
      refine r_iconst (0) C dX12_twoOf_191 (by decide) ?_
      exact r_iret C dX12_twoOf_192 ⟨_, rfl, rfl, hw⟩
    · replace hw := it_t hc hw
      refine r_iconst (1) C dX12_twoOf_187 (by decide) ?_
      refine r_goto 192 C dX12_twoOf_188 (by decide) ?_
      exact r_iret C dX12_twoOf_192 ⟨_, rfl, rfl, hw⟩
  replace hw := it_f hs1_61 hw
  by_cases hs1_62 : x0 = (62 : Int32)
  · replace hw := it_t hs1_62 hw
    refine r_tabIn (off := 192) (62) 193 C dX12_twoOf_1 hs1_62 (by decide) ?_
    refine r_iload_n C dX12_twoOf_193 rfl ?_
    refine r_iload_n C dX12_twoOf_194 rfl ?_
    refine r_icmp_le 202 C dX12_twoOf_195 (by decide) (fun hc => ?_) (fun hc => ?_)
    · replace hw := it_t hc hw
      refine r_iconst (0) C dX12_twoOf_202 (by decide) ?_
      exact r_iret C dX12_twoOf_203 ⟨_, rfl, rfl, hw⟩
    · replace hw := it_f hc hw
      refine r_iconst (1) C dX12_twoOf_198 (by decide) ?_
      refine r_goto 203 C dX12_twoOf_199 (by decide) ?_
      exact r_iret C dX12_twoOf_203 ⟨_, rfl, rfl, hw⟩
  replace hw := it_f hs1_62 hw
  refine r_tabOut 218 C dX12_twoOf_1 (by have qhs1_37 := lv_neT (a := 37) hs1_37 (by decide); have qhs1_38 := lv_neT (a := 38) hs1_38 (by decide); have qhs1_39 := lv_neT (a := 39) hs1_39 (by decide); have qhs1_40 := lv_neT (a := 40) hs1_40 (by decide); have qhs1_41 := lv_neT (a := 41) hs1_41 (by decide); have qhs1_42 := lv_neT (a := 42) hs1_42 (by decide); have qhs1_43 := lv_neT (a := 43) hs1_43 (by decide); have qhs1_44 := lv_neT (a := 44) hs1_44 (by decide); have qhs1_45 := lv_neT (a := 45) hs1_45 (by decide); have qhs1_46 := lv_neT (a := 46) hs1_46 (by decide); have qhs1_47 := lv_neT (a := 47) hs1_47 (by decide); have qhs1_48 := lv_neT (a := 48) hs1_48 (by decide); have qhs1_49 := lv_neT (a := 49) hs1_49 (by decide); have qhs1_50 := lv_neT (a := 50) hs1_50 (by decide); have qhs1_51 := lv_neT (a := 51) hs1_51 (by decide); have qhs1_52 := lv_neT (a := 52) hs1_52 (by decide); have qhs1_53 := lv_neT (a := 53) hs1_53 (by decide); have qhs1_54 := lv_neT (a := 54) hs1_54 (by decide); have qhs1_55 := lv_neT (a := 55) hs1_55 (by decide); have qhs1_56 := lv_neT (a := 56) hs1_56 (by decide); have qhs1_57 := lv_neT (a := 57) hs1_57 (by decide); have qhs1_58 := lv_neT (a := 58) hs1_58 (by decide); have qhs1_59 := lv_neT (a := 59) hs1_59 (by decide); have qhs1_60 := lv_neT (a := 60) hs1_60 (by decide); have qhs1_61 := lv_neT (a := 61) hs1_61 (by decide); have qhs1_62 := lv_neT (a := 62) hs1_62 (by decide); omega) (by decide) ?_
  refine r_iload_n C dX12_twoOf_218 rfl ?_
  refine r_if_ne 226 C dX12_twoOf_219 (by decide) (fun hc => ?_) (fun hc => ?_)
  · replace hw := it_f hc hw
    refine r_iconst (1) C dX12_twoOf_226 (by decide) ?_
    refine r_goto 231 C dX12_twoOf_227 (by decide) ?_
    exact r_iret C dX12_twoOf_231 ⟨_, rfl, rfl, hw⟩
  · replace hw := it_t hc hw
    refine r_iload_n C dX12_twoOf_222 rfl ?_
    refine r_if_eq 230 C dX12_twoOf_223 (by decide) (fun hc => ?_) (fun hc => ?_)
    · replace hw := it_t hc hw
      refine r_iconst (0) C dX12_twoOf_230 (by decide) ?_
      exact r_iret C dX12_twoOf_231 ⟨_, rfl, rfl, hw⟩
    · replace hw := it_f hc hw
      refine r_iconst (1) C dX12_twoOf_226 (by decide) ?_
      refine r_goto 231 C dX12_twoOf_227 (by decide) ?_
      exact r_iret C dX12_twoOf_231 ⟨_, rfl, rfl, hw⟩
