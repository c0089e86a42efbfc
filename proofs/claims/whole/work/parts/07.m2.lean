def jX12_worked_45 (a0 : Nat) (x1 : Int32) (x3 : Int32) (x4 : Int32) (x5 : Int32) (x6 : Int32) (h : Hp) (K12 : Int32 → Int32 → Hp → Prop) (Q : Int32 → Hp → Prop) : Prop :=
  if x6 = (1 : Int32) then (vp_in x5 (ln (rf a0 24)) ∧ (vp_in x4 (ln (rf a0 29)) ∧ (∀ h9 : Hp, h9 = sI h (rf a0 29) x4.toNatClampNeg (gI h (rf a0 24) x5.toNatClampNeg) → (∀ v10 : Int32, v10 = x4 + (1 : Int32) → (∀ v11 : Int32, v11 = x5 + (1 : Int32) → (K12 v10 v11 h9)))))) else (vp_in x5 (ln (rf a0 24)) ∧ (vp_in (gI h (rf a0 24) x5.toNatClampNeg) (ln (rf a0 28)) ∧ (vp_in x4 (ln (rf a0 29)) ∧ (∀ h4 : Hp, h4 = sI h (rf a0 29) x4.toNatClampNeg (gI h (rf a0 28) (gI h (rf a0 24) x5.toNatClampNeg).toNatClampNeg) → (∀ v5 : Int32, v5 = x4 + (1 : Int32) → (∀ v6 : Int32, v6 = x5 + (1 : Int32) → (K12 v5 v6 h4)))))))
set_option maxRecDepth 20000 in
theorem tX12_worked_45 {G : GG} {X : XX} {a0 : Nat} {x1 : Int32} {x3 : Int32} {x4 : Int32} {x5 : Int32} {x6 : Int32} {h : Hp}  {K12 : Int32 → Int32 → Hp → Prop} {Q : Int32 → Hp → Prop} (C : Cx G RX12 cX12_worked 7 (some .int) 1 0 0 X) (k0 : kd a0 = 12) (hK12 : ∀ (y4 : Int32) (y5 : Int32) (h' : Hp), K12 y4 y5 h' → R0 G X 0 0 (ZM G (fun r h' => ∃ v, r = some (.int v) ∧ Q v h') X) 12 [some (.ref (G.1 a0)), some (.int x1), none, some (.int x3), some (.int y4), some (.int y5), none] [] h') (hw : jX12_worked_45 a0 x1 x3 x4 x5 x6 h K12 Q) : R0 G X 0 0 (ZM G (fun r h' => ∃ v, r = some (.int v) ∧ Q v h') X) 45 [some (.ref (G.1 a0)), some (.int x1), none, some (.int x3), some (.int x4), some (.int x5), some (.int x6)] [] h := by
  unfold jX12_worked_45 at hw
  refine r_aload_n C dX12_worked_45 rfl ?_
  refine gX12_60 C (k0) dX12_worked_46 ?_
  refine r_iload C dX12_worked_49 rfl ?_
  refine r_iload C dX12_worked_51 rfl ?_
  refine r_iconst (1) C dX12_worked_53 (by decide) ?_
  refine r_icmp_ne 67 C dX12_worked_54 (by decide) (fun hc => ?_) (fun hc => ?_)
  · replace hw := it_f hc hw
    refine r_aload_n C dX12_worked_67 rfl ?_
    refine gX12_57 C (k0) dX12_worked_68 ?_
    refine r_aload_n C dX12_worked_71 rfl ?_
    refine gX12_44 C (k0) dX12_worked_72 ?_
    refine r_iload C dX12_worked_75 rfl ?_
    obtain ⟨hi1, hw⟩ := hw
    refine r_iald C (kr12_24 (k0)) hi1 dX12_worked_77 ?_
    obtain ⟨hi2, hw⟩ := hw
    refine r_iald C (kr12_28 (k0)) hi2 dX12_worked_78 ?_
    obtain ⟨hi3, hw⟩ := hw
    refine r_iast C (kr12_29 (k0)) hi3 dX12_worked_79 ?_
    refine r_toph (fun h4 eh4 => ?_)
    replace hw := hw h4 eh4
    obtain ⟨v5, ev5⟩ : ∃ v : Int32, v = x4 + (1 : Int32) := ⟨_, rfl⟩
    replace hw := hw v5 ev5
    refine r_iinc v5 [some (.ref (G.1 a0)), some (.int x1), none, some (.int x3), some (.int v5), some (.int x5), some (.int x6)] C dX12_worked_80 rfl (by rw [ev5]; rfl) rfl rfl ?_
    refine r_goto 182 C dX12_worked_83 (by decide) ?_
    obtain ⟨v6, ev6⟩ : ∃ v : Int32, v = x5 + (1 : Int32) := ⟨_, rfl⟩
    replace hw := hw v6 ev6
    refine r_iinc v6 [some (.ref (G.1 a0)), some (.int x1), none, some (.int x3), some (.int v5), some (.int v6), some (.int x6)] C dX12_worked_182 rfl (by rw [ev6]; rfl) rfl rfl ?_
    refine r_goto 12 C dX12_worked_185 (by decide) ?_
    refine r_weak [some (.ref (G.1 a0)), some (.int x1), none, some (.int x3), some (.int v5), some (.int v6), none] (lw_k (lw_k (lw_k (lw_k (lw_k (lw_k (lw_d (lw_n)))))))) ?_
    exact hK12 _ _ _ hw
  · replace hw := it_t hc hw
    refine r_aload_n C dX12_worked_57 rfl ?_
    refine gX12_44 C (k0) dX12_worked_58 ?_
    refine r_iload C dX12_worked_61 rfl ?_
    obtain ⟨hi7, hw⟩ := hw
    refine r_iald C (kr12_24 (k0)) hi7 dX12_worked_63 ?_
    refine r_goto 79 C dX12_worked_64 (by decide) ?_
    obtain ⟨hi8, hw⟩ := hw
    refine r_iast C (kr12_29 (k0)) hi8 dX12_worked_79 ?_
    refine r_toph (fun h9 eh9 => ?_)
    replace hw := hw h9 eh9
    obtain ⟨v10, ev10⟩ : ∃ v : Int32, v = x4 + (1 : Int32) := ⟨_, rfl⟩
    replace hw := hw v10 ev10
    refine r_iinc v10 [some (.ref (G.1 a0)), some (.int x1), none, some (.int x3), some (.int v10), some (.int x5), some (.int x6)] C dX12_worked_80 rfl (by rw [ev10]; rfl) rfl rfl ?_
    refine r_goto 182 C dX12_worked_83 (by decide) ?_
    obtain ⟨v11, ev11⟩ : ∃ v : Int32, v = x5 + (1 : Int32) := ⟨_, rfl⟩
    replace hw := hw v11 ev11
    refine r_iinc v11 [some (.ref (G.1 a0)), some (.int x1), none, some (.int x3), some (.int v10), some (.int v11), some (.int x6)] C dX12_worked_182 rfl (by rw [ev11]; rfl) rfl rfl ?_
    refine r_goto 12 C dX12_worked_185 (by decide) ?_
    refine r_weak [some (.ref (G.1 a0)), some (.int x1), none, some (.int x3), some (.int v10), some (.int v11), none] (lw_k (lw_k (lw_k (lw_k (lw_k (lw_k (lw_d (lw_n)))))))) ?_
    exact hK12 _ _ _ hw
def fX12_worked_12 (a0 : Nat) (x1 : Int32) (x3 : Int32) (Q : Int32 → Hp → Prop) (K12 : Int32 → Int32 → Hp → Prop) (x4 : Int32) (x5 : Int32) (h : Hp) : Prop :=
  if (((130 : Int32) * x1) + x3) ≤ x5 then (vp_in (0 : Int32) (ln (rf a0 29)) ∧ (Q (gI h (rf a0 29) (0 : Int32).toNatClampNeg) h)) else (vp_in x5 (ln (rf a0 23)) ∧ (∀ v3 : Int32, v3 = (gI h (rf a0 23) x5.toNatClampNeg) → (if v3 = (1 : Int32) then (jX12_worked_45 a0 x1 x3 x4 x5 v3 h K12 Q) else (if v3 = (2 : Int32) then (jX12_worked_45 a0 x1 x3 x4 x5 v3 h K12 Q) else (if v3 = (3 : Int32) then (vp_in (x4 - (1 : Int32)) (ln (rf a0 29)) ∧ (if (gI h (rf a0 29) (x4 - (1 : Int32)).toNatClampNeg) = 0 then (vp_in (x4 - (1 : Int32)) (ln (rf a0 29)) ∧ (∀ h20 : Hp, h20 = sI h (rf a0 29) (x4 - (1 : Int32)).toNatClampNeg (1 : Int32) → (∀ v21 : Int32, v21 = x5 + (1 : Int32) → (K12 x4 v21 h20)))) else (vp_in (x4 - (1 : Int32)) (ln (rf a0 29)) ∧ (∀ h17 : Hp, h17 = sI h (rf a0 29) (x4 - (1 : Int32)).toNatClampNeg (0 : Int32) → (∀ v18 : Int32, v18 = x5 + (1 : Int32) → (K12 x4 v18 h17)))))) else (if v3 = (4 : Int32) then (vp_in (x4 - (1 : Int32)) (ln (rf a0 29)) ∧ (vp_in (x4 - (1 : Int32)) (ln (rf a0 29)) ∧ (∀ h13 : Hp, h13 = sI h (rf a0 29) (x4 - (1 : Int32)).toNatClampNeg (-(gI h (rf a0 29) (x4 - (1 : Int32)).toNatClampNeg)) → (∀ v14 : Int32, v14 = x5 + (1 : Int32) → (K12 x4 v14 h13))))) else (∀ v4 : Int32, v4 = x4 + (-1 : Int32) → (vp_in (v4 - (1 : Int32)) (ln (rf a0 29)) ∧ (vp_in v4 (ln (rf a0 29)) ∧ (wX12_twoOf v3 (gI h (rf a0 29) (v4 - (1 : Int32)).toNatClampNeg) (gI h (rf a0 29) v4.toNatClampNeg) h (fun v7 => vp_in (v4 - (1 : Int32)) (ln (rf a0 29)) ∧ (∀ h9 : Hp, h9 = sI h (rf a0 29) (v4 - (1 : Int32)).toNatClampNeg v7 → (∀ v10 : Int32, v10 = x5 + (1 : Int32) → (K12 v4 v10 h9))))))))))))))
def eX12_worked_12 (a0 : Nat) (x1 : Int32) (x3 : Int32) (Q : Int32 → Hp → Prop) (x4 : Int32) (x5 : Int32) (h : Hp) : Prop := ∃ N, lpN (fun (K : Int32 × Int32 × Hp → Prop) (s : Int32 × Int32 × Hp) => fX12_worked_12 a0 x1 x3 Q (fun x4 x5 h => K (x4, x5, h)) s.1 s.2.1 s.2.2) N (x4, x5, h)
theorem iX12_worked_12 {a0 : Nat} {x1 : Int32} {x3 : Int32} {Q : Int32 → Hp → Prop} (I : Int32 → Int32 → Hp → Prop) (μ : Int32 → Int32 → Hp → Nat) (hs : ∀ (x4 : Int32) (x5 : Int32) (h : Hp), I x4 x5 h → ∀ K : Int32 → Int32 → Hp → Prop, (∀ (x4' : Int32) (x5' : Int32) (h' : Hp), I x4' x5' h' → μ x4' x5' h' < μ x4 x5 h → K x4' x5' h') → fX12_worked_12 a0 x1 x3 Q K x4 x5 h) : ∀ (x4 : Int32) (x5 : Int32) (h : Hp), I x4 x5 h → eX12_worked_12 a0 x1 x3 Q x4 x5 h := fun x4 x5 h hI => lp_ind (fun s => I s.1 s.2.1 s.2.2) (fun s => μ s.1 s.2.1 s.2.2) (fun s hs' K hK => hs s.1 s.2.1 s.2.2 hs' _ (fun x4' x5' h' h1 h2 => hK (x4', x5', h') h1 h2)) (x4, x5, h) hI
set_option maxRecDepth 20000 in
theorem tX12_worked_12 {G : GG} {X : XX} {a0 : Nat} {x1 : Int32} {x3 : Int32} {x4 : Int32} {x5 : Int32} {h : Hp}  {Q : Int32 → Hp → Prop} (C : Cx G RX12 cX12_worked 7 (some .int) 1 0 0 X) (k0 : kd a0 = 12) (hw : eX12_worked_12 a0 x1 x3 Q x4 x5 h) : R0 G X 0 0 (ZM G (fun r h' => ∃ v, r = some (.int v) ∧ Q v h') X) 12 [some (.ref (G.1 a0)), some (.int x1), none, some (.int x3), some (.int x4), some (.int x5), none] [] h := by
  obtain ⟨N, hw⟩ := hw
  induction N generalizing x4 x5 h with
  | zero => exact hw.elim
  | succ N ih =>
    obtain ⟨K12, eK⟩ : ∃ K : Int32 → Int32 → Hp → Prop, K = (fun x4 x5 h => lpN (fun (K : Int32 × Int32 × Hp → Prop) (s : Int32 × Int32 × Hp) => fX12_worked_12 a0 x1 x3 Q (fun x4 x5 h => K (x4, x5, h)) s.1 s.2.1 s.2.2) N (x4, x5, h)) := ⟨_, rfl⟩
    have hw : fX12_worked_12 a0 x1 x3 Q (fun x4 x5 h => lpN (fun (K : Int32 × Int32 × Hp → Prop) (s : Int32 × Int32 × Hp) => fX12_worked_12 a0 x1 x3 Q (fun x4 x5 h => K (x4, x5, h)) s.1 s.2.1 s.2.2) N (x4, x5, h)) x4 x5 h := hw
    have hK12 : ∀ (x4 : Int32) (x5 : Int32) (h : Hp), K12 x4 x5 h → R0 G X 0 0 (ZM G (fun r h' => ∃ v, r = some (.int v) ∧ Q v h') X) 12 [some (.ref (G.1 a0)), some (.int x1), none, some (.int x3), some (.int x4), some (.int x5), none] [] h := fun x4 x5 h q => ih (by rw [eK] at q; exact q)
    rw [← eK] at hw
    clear eK ih
    unfold fX12_worked_12 at hw
    refine r_iload C dX12_worked_12 rfl ?_
    refine r_sipush (130) C dX12_worked_14 (by decide) ?_
    refine r_iload_n C dX12_worked_17 rfl ?_
    refine r_imul C dX12_worked_18 ?_
    refine r_iload_n C dX12_worked_19 rfl ?_
    refine r_iadd C dX12_worked_20 ?_
    refine r_icmp_ge 188 C dX12_worked_21 (by decide) (fun hc => ?_) (fun hc => ?_)
    · replace hw := it_t hc hw
      refine r_aload_n C dX12_worked_188 rfl ?_
      refine gX12_60 C (k0) dX12_worked_189 ?_
      refine r_iconst (0) C dX12_worked_192 (by decide) ?_
      obtain ⟨hi1, hw⟩ := hw
      refine r_iald C (kr12_29 (k0)) hi1 dX12_worked_193 ?_
      exact r_iret C dX12_worked_194 ⟨_, rfl, hw⟩
    · replace hw := it_f hc hw
      refine r_aload_n C dX12_worked_24 rfl ?_
      refine gX12_41 C (k0) dX12_worked_25 ?_
      refine r_iload C dX12_worked_28 rfl ?_
      obtain ⟨hi2, hw⟩ := hw
      refine r_bald C (kr12_23 (k0)) hi2 dX12_worked_30 ?_
      refine r_topi (fun v3 ev3 => ?_)
      replace hw := hw v3 ev3
      refine r_istore [some (.ref (G.1 a0)), some (.int x1), none, some (.int x3), some (.int x4), some (.int x5), some (.int v3)] C dX12_worked_31 (Nat.le_of_ble_eq_true rfl) rfl rfl ?_
      refine r_iload C dX12_worked_33 rfl ?_
      refine r_iconst (1) C dX12_worked_35 (by decide) ?_
      refine r_icmp_eq 45 C dX12_worked_36 (by decide) (fun hc => ?_) (fun hc => ?_)
      · replace hw := it_t hc hw
        exact tX12_worked_45 C (k0) hK12 hw
      · replace hw := it_f hc hw
        refine r_iload C dX12_worked_39 rfl ?_
        refine r_iconst (2) C dX12_worked_41 (by decide) ?_
        refine r_icmp_ne 86 C dX12_worked_42 (by decide) (fun hc => ?_) (fun hc => ?_)
        · replace hw := it_f hc hw
          refine r_iload C dX12_worked_86 rfl ?_
          refine r_iconst (3) C dX12_worked_88 (by decide) ?_
          refine r_icmp_ne 121 C dX12_worked_89 (by decide) (fun hc => ?_) (fun hc => ?_)
          · replace hw := it_f hc hw
            refine r_iload C dX12_worked_121 rfl ?_
            refine r_iconst (4) C dX12_worked_123 (by decide) ?_
            refine r_icmp_ne 149 C dX12_worked_124 (by decide) (fun hc => ?_) (fun hc => ?_)
            · replace hw := it_f hc hw
              obtain ⟨v4, ev4⟩ : ∃ v : Int32, v = x4 + (-1 : Int32) := ⟨_, rfl⟩
              replace hw := hw v4 ev4
              refine r_iinc v4 [some (.ref (G.1 a0)), some (.int x1), none, some (.int x3), some (.int v4), some (.int x5), some (.int v3)] C dX12_worked_149 rfl (by rw [ev4]; rfl) rfl rfl ?_
              refine r_aload_n C dX12_worked_152 rfl ?_
              refine gX12_60 C (k0) dX12_worked_153 ?_
              refine r_iload C dX12_worked_156 rfl ?_
              refine r_iconst (1) C dX12_worked_158 (by decide) ?_
              refine r_isub C dX12_worked_159 ?_
              refine r_iload C dX12_worked_160 rfl ?_
              refine r_aload_n C dX12_worked_162 rfl ?_
              refine gX12_60 C (k0) dX12_worked_163 ?_
              refine r_iload C dX12_worked_166 rfl ?_
              refine r_iconst (1) C dX12_worked_168 (by decide) ?_
              refine r_isub C dX12_worked_169 ?_
              obtain ⟨hi5, hw⟩ := hw
              refine r_iald C (kr12_29 (k0)) hi5 dX12_worked_170 ?_
              refine r_aload_n C dX12_worked_171 rfl ?_
              refine gX12_60 C (k0) dX12_worked_172 ?_
              refine r_iload C dX12_worked_175 rfl ?_
              obtain ⟨hi6, hw⟩ := hw
              refine r_iald C (kr12_29 (k0)) hi6 dX12_worked_177 ?_
              refine kX12_218 C (sX12_twoOf hw) dX12_worked_178 (Nat.le_of_ble_eq_true rfl) rfl (Nat.le_of_ble_eq_true rfl) (fun v7 hw => ?_)
              obtain ⟨hi8, hw⟩ := hw
              refine r_iast C (kr12_29 (k0)) hi8 dX12_worked_181 ?_
              refine r_toph (fun h9 eh9 => ?_)
              replace hw := hw h9 eh9
              obtain ⟨v10, ev10⟩ : ∃ v : Int32, v = x5 + (1 : Int32) := ⟨_, rfl⟩
              replace hw := hw v10 ev10
              refine r_iinc v10 [some (.ref (G.1 a0)), some (.int x1), none, some (.int x3), some (.int v4), some (.int v10), some (.int v3)] C dX12_worked_182 rfl (by rw [ev10]; rfl) rfl rfl ?_
              refine r_goto 12 C dX12_worked_185 (by decide) ?_
              refine r_weak [some (.ref (G.1 a0)), some (.int x1), none, some (.int x3), some (.int v4), some (.int v10), none] (lw_k (lw_k (lw_k (lw_k (lw_k (lw_k (lw_d (lw_n)))))))) ?_
              exact hK12 _ _ _ hw
            · replace hw := it_t hc hw
              refine r_aload_n C dX12_worked_127 rfl ?_
              refine gX12_60 C (k0) dX12_worked_128 ?_
              refine r_iload C dX12_worked_131 rfl ?_
              refine r_iconst (1) C dX12_worked_133 (by decide) ?_
              refine r_isub C dX12_worked_134 ?_
              refine r_aload_n C dX12_worked_135 rfl ?_
              refine gX12_60 C (k0) dX12_worked_136 ?_
              refine r_iload C dX12_worked_139 rfl ?_
              refine r_iconst (1) C dX12_worked_141 (by decide) ?_
              refine r_isub C dX12_worked_142 ?_
              obtain ⟨hi11, hw⟩ := hw
              refine r_iald C (kr12_29 (k0)) hi11 dX12_worked_143 ?_
              refine r_ineg C dX12_worked_144 ?_
              obtain ⟨hi12, hw⟩ := hw
              refine r_iast C (kr12_29 (k0)) hi12 dX12_worked_145 ?_
              refine r_toph (fun h13 eh13 => ?_)
              replace hw := hw h13 eh13
              refine r_goto 182 C dX12_worked_146 (by decide) ?_
              obtain ⟨v14, ev14⟩ : ∃ v : Int32, v = x5 + (1 : Int32) := ⟨_, rfl⟩
              replace hw := hw v14 ev14
              refine r_iinc v14 [some (.ref (G.1 a0)), some (.int x1), none, some (.int x3), some (.int x4), some (.int v14), some (.int v3)] C dX12_worked_182 rfl (by rw [ev14]; rfl) rfl rfl ?_
              refine r_goto 12 C dX12_worked_185 (by decide) ?_
              refine r_weak [some (.ref (G.1 a0)), some (.int x1), none, some (.int x3), some (.int x4), some (.int v14), none] (lw_k (lw_k (lw_k (lw_k (lw_k (lw_k (lw_d (lw_n)))))))) ?_
              exact hK12 _ _ _ hw
          · replace hw := it_t hc hw
            refine r_aload_n C dX12_worked_92 rfl ?_
            refine gX12_60 C (k0) dX12_worked_93 ?_
            refine r_iload C dX12_worked_96 rfl ?_
            refine r_iconst (1) C dX12_worked_98 (by decide) ?_
            refine r_isub C dX12_worked_99 ?_
            refine r_aload_n C dX12_worked_100 rfl ?_
            refine gX12_60 C (k0) dX12_worked_101 ?_
            refine r_iload C dX12_worked_104 rfl ?_
            refine r_iconst (1) C dX12_worked_106 (by decide) ?_
            refine r_isub C dX12_worked_107 ?_
            obtain ⟨hi15, hw⟩ := hw
            refine r_iald C (kr12_29 (k0)) hi15 dX12_worked_108 ?_
            refine r_if_ne 116 C dX12_worked_109 (by decide) (fun hc => ?_) (fun hc => ?_)
            · replace hw := it_f hc hw
              refine r_iconst (0) C dX12_worked_116 (by decide) ?_
              obtain ⟨hi16, hw⟩ := hw
              refine r_iast C (kr12_29 (k0)) hi16 dX12_worked_117 ?_
              refine r_toph (fun h17 eh17 => ?_)
              replace hw := hw h17 eh17
              refine r_goto 182 C dX12_worked_118 (by decide) ?_
              obtain ⟨v18, ev18⟩ : ∃ v : Int32, v = x5 + (1 : Int32) := ⟨_, rfl⟩
              replace hw := hw v18 ev18
              refine r_iinc v18 [some (.ref (G.1 a0)), some (.int x1), none, some (.int x3), some (.int x4), some (.int v18), some (.int v3)] C dX12_worked_182 rfl (by rw [ev18]; rfl) rfl rfl ?_
              refine r_goto 12 C dX12_worked_185 (by decide) ?_
              refine r_weak [some (.ref (G.1 a0)), some (.int x1), none, some (.int x3), some (.int x4), some (.int v18), none] (lw_k (lw_k (lw_k (lw_k (lw_k (lw_k (lw_d (lw_n)))))))) ?_
              exact hK12 _ _ _ hw
            · replace hw := it_t hc hw
              refine r_iconst (1) C dX12_worked_112 (by decide) ?_
              refine r_goto 117 C dX12_worked_113 (by decide) ?_
              obtain ⟨hi19, hw⟩ := hw
              refine r_iast C (kr12_29 (k0)) hi19 dX12_worked_117 ?_
              refine r_toph (fun h20 eh20 => ?_)
              replace hw := hw h20 eh20
              refine r_goto 182 C dX12_worked_118 (by decide) ?_
              obtain ⟨v21, ev21⟩ : ∃ v : Int32, v = x5 + (1 : Int32) := ⟨_, rfl⟩
              replace hw := hw v21 ev21
              refine r_iinc v21 [some (.ref (G.1 a0)), some (.int x1), none, some (.int x3), some (.int x4), some (.int v21), some (.int v3)] C dX12_worked_182 rfl (by rw [ev21]; rfl) rfl rfl ?_
              refine r_goto 12 C dX12_worked_185 (by decide) ?_
              refine r_weak [some (.ref (G.1 a0)), some (.int x1), none, some (.int x3), some (.int x4), some (.int v21), none] (lw_k (lw_k (lw_k (lw_k (lw_k (lw_k (lw_d (lw_n)))))))) ?_
              exact hK12 _ _ _ hw
        · replace hw := it_t hc hw
          exact tX12_worked_45 C (k0) hK12 hw
def wX12_worked (a0 : Nat) (x1 : Int32) (x2 : Int32) (x3 : Int32) (h : Hp) (Q : Int32 → Hp → Prop) : Prop :=
  ∀ v1 : Int32, v1 = (((130 : Int32) * x1) + x2) → (eX12_worked_12 a0 x1 x3 Q (0 : Int32) v1 h)
set_option maxRecDepth 20000 in
theorem sX12_worked {G : GG} {a0 : Nat} {x1 : Int32} {x2 : Int32} {x3 : Int32} {h : Hp} {Q : Int32 → Hp → Prop} (k0 : kd a0 = 12) (hw : wX12_worked a0 x1 x2 x3 h Q) : CI G 1 yX12_worked cX12_worked 7 (some .int) [.ref (G.1 a0), .int x1, .int x2, .int x3] h Q := by
  refine CO_of [some (.ref (G.1 a0)), some (.int x1), some (.int x2), some (.int x3), none, none, none] (by decide) (Nat.le_of_ble_eq_true rfl) rfl (fun X C => ?_)
  unfold wX12_worked at hw
  refine r_iconst (0) C dX12_worked_0 (by decide) ?_
  refine r_istore [some (.ref (G.1 a0)), some (.int x1), some (.int x2), some (.int x3), some (.int (0 : Int32)), none, none] C dX12_worked_1 (Nat.le_of_ble_eq_true rfl) rfl rfl ?_
  refine r_sipush (130) C dX12_worked_3 (by decide) ?_
  refine r_iload_n C dX12_worked_6 rfl ?_
  refine r_imul C dX12_worked_7 ?_
  refine r_iload_n C dX12_worked_8 rfl ?_
  refine r_iadd C dX12_worked_9 ?_
  refine r_topi (fun v1 ev1 => ?_)
  replace hw := hw v1 ev1
  refine r_istore [some (.ref (G.1 a0)), some (.int x1), some (.int x2), some (.int x3), some (.int (0 : Int32)), some (.int v1), none] C dX12_worked_10 (Nat.le_of_ble_eq_true rfl) rfl rfl ?_
  refine r_weak [some (.ref (G.1 a0)), some (.int x1), none, some (.int x3), some (.int (0 : Int32)), some (.int v1), none] (lw_k (lw_k (lw_d (lw_k (lw_k (lw_k (lw_k (lw_n)))))))) ?_
  exact tX12_worked_12 C (k0) hw
def jX12_gives_47 (a0 : Nat) (x1 : Int32) (x3 : Int32) (h : Hp) (Q : Int32 → Hp → Prop) : Prop :=
  vp_in x3 (ln (rf a0 26)) ∧ (vp_in x3 (ln (rf a0 27)) ∧ (wX12_worked a0 x1 (gI h (rf a0 26) x3.toNatClampNeg) (gI h (rf a0 27) x3.toNatClampNeg) h (fun v3 h4 => Q v3 h4)))
set_option maxRecDepth 20000 in
theorem tX12_gives_47 {G : GG} {X : XX} {a0 : Nat} {x1 : Int32} {x3 : Int32} {h : Hp}  {Q : Int32 → Hp → Prop} (C : Cx G RX12 cX12_gives 4 (some .int) 2 0 0 X) (k0 : kd a0 = 12) (hw : jX12_gives_47 a0 x1 x3 h Q) : R0 G X 0 0 (ZM G (fun r h' => ∃ v, r = some (.int v) ∧ Q v h') X) 47 [some (.ref (G.1 a0)), some (.int x1), none, some (.int x3)] [] h := by
  unfold jX12_gives_47 at hw
  refine r_aload_n C dX12_gives_47 rfl ?_
  refine r_iload_n C dX12_gives_48 rfl ?_
  refine r_aload_n C dX12_gives_49 rfl ?_
  refine gX12_50 C (k0) dX12_gives_50 ?_
  refine r_iload_n C dX12_gives_53 rfl ?_
  obtain ⟨hi1, hw⟩ := hw
  refine r_sald C (kr12_26 (k0)) hi1 dX12_gives_54 ?_
  refine r_aload_n C dX12_gives_55 rfl ?_
  refine gX12_54 C (k0) dX12_gives_56 ?_
  refine r_iload_n C dX12_gives_59 rfl ?_
  obtain ⟨hi2, hw⟩ := hw
  refine r_sald C (kr12_27 (k0)) hi2 dX12_gives_60 ?_
  refine kX12_221 C (k0) (sX12_worked (k0) hw) dX12_gives_61 (Nat.le_of_ble_eq_true rfl) rfl (Nat.le_of_ble_eq_true rfl) (fun v3 h4 hw => ?_)
  exact r_iret C dX12_gives_64 ⟨_, rfl, hw⟩
def fX12_gives_7 (a0 : Nat) (x1 : Int32) (Q : Int32 → Hp → Prop) (K7 : Int32 → Int32 → Hp → Prop) (x2 : Int32) (x3 : Int32) (h : Hp) : Prop :=
  vp_in x1 (ln (rf a0 25)) ∧ (if (((61 : Int32) * x1) + (gI h (rf a0 25) x1.toNatClampNeg)) ≤ x3 then (Q (0 : Int32) h) else (vp_in x3 (ln (rf a0 26)) ∧ (if (gI h (rf a0 26) x3.toNatClampNeg) = x2 then (jX12_gives_47 a0 x1 x3 h Q) else (vp_in x3 (ln (rf a0 26)) ∧ (wX12_worked a0 x1 x2 (gI h (rf a0 26) x3.toNatClampNeg) h (fun v4 h5 => if v4 = 0 then (vp_in x3 (ln (rf a0 27)) ∧ (∀ v7 : Int32, v7 = (gI h5 (rf a0 27) x3.toNatClampNeg) → (∀ v8 : Int32, v8 = x3 + (1 : Int32) → (K7 v7 v8 h5)))) else (jX12_gives_47 a0 x1 x3 h5 Q)))))))
def eX12_gives_7 (a0 : Nat) (x1 : Int32) (Q : Int32 → Hp → Prop) (x2 : Int32) (x3 : Int32) (h : Hp) : Prop := ∃ N, lpN (fun (K : Int32 × Int32 × Hp → Prop) (s : Int32 × Int32 × Hp) => fX12_gives_7 a0 x1 Q (fun x2 x3 h => K (x2, x3, h)) s.1 s.2.1 s.2.2) N (x2, x3, h)
theorem iX12_gives_7 {a0 : Nat} {x1 : Int32} {Q : Int32 → Hp → Prop} (I : Int32 → Int32 → Hp → Prop) (μ : Int32 → Int32 → Hp → Nat) (hs : ∀ (x2 : Int32) (x3 : Int32) (h : Hp), I x2 x3 h → ∀ K : Int32 → Int32 → Hp → Prop, (∀ (x2' : Int32) (x3' : Int32) (h' : Hp), I x2' x3' h' → μ x2' x3' h' < μ x2 x3 h → K x2' x3' h') → fX12_gives_7 a0 x1 Q K x2 x3 h) : ∀ (x2 : Int32) (x3 : Int32) (h : Hp), I x2 x3 h → eX12_gives_7 a0 x1 Q x2 x3 h := fun x2 x3 h hI => lp_ind (fun s => I s.1 s.2.1 s.2.2) (fun s => μ s.1 s.2.1 s.2.2) (fun s hs' K hK => hs s.1 s.2.1 s.2.2 hs' _ (fun x2' x3' h' h1 h2 => hK (x2', x3', h') h1 h2)) (x2, x3, h) hI
set_option maxRecDepth 20000 in
theorem tX12_gives_7 {G : GG} {X : XX} {a0 : Nat} {x1 : Int32} {x2 : Int32} {x3 : Int32} {h : Hp}  {Q : Int32 → Hp → Prop} (C : Cx G RX12 cX12_gives 4 (some .int) 2 0 0 X) (k0 : kd a0 = 12) (hw : eX12_gives_7 a0 x1 Q x2 x3 h) : R0 G X 0 0 (ZM G (fun r h' => ∃ v, r = some (.int v) ∧ Q v h') X) 7 [some (.ref (G.1 a0)), some (.int x1), some (.int x2), some (.int x3)] [] h := by
  obtain ⟨N, hw⟩ := hw
  induction N generalizing x2 x3 h with
  | zero => exact hw.elim
  | succ N ih =>
    obtain ⟨K7, eK⟩ : ∃ K : Int32 → Int32 → Hp → Prop, K = (fun x2 x3 h => lpN (fun (K : Int32 × Int32 × Hp → Prop) (s : Int32 × Int32 × Hp) => fX12_gives_7 a0 x1 Q (fun x2 x3 h => K (x2, x3, h)) s.1 s.2.1 s.2.2) N (x2, x3, h)) := ⟨_, rfl⟩
    have hw : fX12_gives_7 a0 x1 Q (fun x2 x3 h => lpN (fun (K : Int32 × Int32 × Hp → Prop) (s : Int32 × Int32 × Hp) => fX12_gives_7 a0 x1 Q (fun x2 x3 h => K (x2, x3, h)) s.1 s.2.1 s.2.2) N (x2, x3, h)) x2 x3 h := hw
    have hK7 : ∀ (x2 : Int32) (x3 : Int32) (h : Hp), K7 x2 x3 h → R0 G X 0 0 (ZM G (fun r h' => ∃ v, r = some (.int v) ∧ Q v h') X) 7 [some (.ref (G.1 a0)), some (.int x1), some (.int x2), some (.int x3)] [] h := fun x2 x3 h q => ih (by rw [eK] at q; exact q)
    rw [← eK] at hw
    clear eK ih
    unfold fX12_gives_7 at hw
    refine r_iload_n C dX12_gives_7 rfl ?_
    refine r_bipush (61) C dX12_gives_8 (by decide) ?_
    refine r_iload_n C dX12_gives_10 rfl ?_
    refine r_imul C dX12_gives_11 ?_
    refine r_aload_n C dX12_gives_12 rfl ?_
    refine gX12_47 C (k0) dX12_gives_13 ?_
    refine r_iload_n C dX12_gives_16 rfl ?_
    obtain ⟨hi1, hw⟩ := hw
    refine r_iald C (kr12_25 (k0)) hi1 dX12_gives_17 ?_
    refine r_iadd C dX12_gives_18 ?_
    refine r_icmp_ge 78 C dX12_gives_19 (by decide) (fun hc => ?_) (fun hc => ?_)
    · replace hw := it_t hc hw
      refine r_iconst (0) C dX12_gives_78 (by decide) ?_
      exact r_iret C dX12_gives_79 ⟨_, rfl, hw⟩
    · replace hw := it_f hc hw
      refine r_aload_n C dX12_gives_22 rfl ?_
      refine gX12_50 C (k0) dX12_gives_23 ?_
      refine r_iload_n C dX12_gives_26 rfl ?_
      obtain ⟨hi2, hw⟩ := hw
      refine r_sald C (kr12_26 (k0)) hi2 dX12_gives_27 ?_
      refine r_iload_n C dX12_gives_28 rfl ?_
      refine r_icmp_eq 47 C dX12_gives_29 (by decide) (fun hc => ?_) (fun hc => ?_)
      · replace hw := it_t hc hw
        refine r_weak [some (.ref (G.1 a0)), some (.int x1), none, some (.int x3)] (lw_k (lw_k (lw_d (lw_k (lw_n))))) ?_
        exact tX12_gives_47 C (k0) hw
      · replace hw := it_f hc hw
        refine r_aload_n C dX12_gives_32 rfl ?_
        refine r_iload_n C dX12_gives_33 rfl ?_
        refine r_iload_n C dX12_gives_34 rfl ?_
        refine r_aload_n C dX12_gives_35 rfl ?_
        refine gX12_50 C (k0) dX12_gives_36 ?_
        refine r_iload_n C dX12_gives_39 rfl ?_
        obtain ⟨hi3, hw⟩ := hw
        refine r_sald C (kr12_26 (k0)) hi3 dX12_gives_40 ?_
        refine kX12_221 C (k0) (sX12_worked (k0) hw) dX12_gives_41 (Nat.le_of_ble_eq_true rfl) rfl (Nat.le_of_ble_eq_true rfl) (fun v4 h5 hw => ?_)
        refine r_if_eq 65 C dX12_gives_44 (by decide) (fun hc => ?_) (fun hc => ?_)
        · replace hw := it_t hc hw
          refine r_aload_n C dX12_gives_65 rfl ?_
          refine gX12_54 C (k0) dX12_gives_66 ?_
          refine r_iload_n C dX12_gives_69 rfl ?_
          obtain ⟨hi6, hw⟩ := hw
          refine r_sald C (kr12_27 (k0)) hi6 dX12_gives_70 ?_
          refine r_topi (fun v7 ev7 => ?_)
          replace hw := hw v7 ev7
          refine r_istore_n [some (.ref (G.1 a0)), some (.int x1), some (.int v7), some (.int x3)] C dX12_gives_71 (Nat.le_of_ble_eq_true rfl) rfl rfl ?_
          obtain ⟨v8, ev8⟩ : ∃ v : Int32, v = x3 + (1 : Int32) := ⟨_, rfl⟩
          replace hw := hw v8 ev8
          refine r_iinc v8 [some (.ref (G.1 a0)), some (.int x1), some (.int v7), some (.int v8)] C dX12_gives_72 rfl (by rw [ev8]; rfl) rfl rfl ?_
          refine r_goto 7 C dX12_gives_75 (by decide) ?_
          exact hK7 _ _ _ hw
        · replace hw := it_f hc hw
          refine r_weak [some (.ref (G.1 a0)), some (.int x1), none, some (.int x3)] (lw_k (lw_k (lw_d (lw_k (lw_n))))) ?_
          exact tX12_gives_47 C (k0) hw
def wX12_gives (a0 : Nat) (x1 : Int32) (h : Hp) (Q : Int32 → Hp → Prop) : Prop :=
  ∀ v1 : Int32, v1 = ((61 : Int32) * x1) → (eX12_gives_7 a0 x1 Q (0 : Int32) v1 h)
set_option maxRecDepth 20000 in
theorem sX12_gives {G : GG} {a0 : Nat} {x1 : Int32} {h : Hp} {Q : Int32 → Hp → Prop} (k0 : kd a0 = 12) (hw : wX12_gives a0 x1 h Q) : CI G 2 yX12_gives cX12_gives 4 (some .int) [.ref (G.1 a0), .int x1] h Q := by
  refine CO_of [some (.ref (G.1 a0)), some (.int x1), none, none] (by decide) (Nat.le_of_ble_eq_true rfl) rfl (fun X C => ?_)
  unfold wX12_gives at hw
  refine r_iconst (0) C dX12_gives_0 (by decide) ?_
  refine r_istore_n [some (.ref (G.1 a0)), some (.int x1), some (.int (0 : Int32)), none] C dX12_gives_1 (Nat.le_of_ble_eq_true rfl) rfl rfl ?_
  refine r_bipush (61) C dX12_gives_2 (by decide) ?_
  refine r_iload_n C dX12_gives_4 rfl ?_
  refine r_imul C dX12_gives_5 ?_
  refine r_topi (fun v1 ev1 => ?_)
  replace hw := hw v1 ev1
  refine r_istore_n [some (.ref (G.1 a0)), some (.int x1), some (.int (0 : Int32)), some (.int v1)] C dX12_gives_6 (Nat.le_of_ble_eq_true rfl) rfl rfl ?_
  exact tX12_gives_7 C (k0) hw
def wX12_law (a0 : Nat) (x1 : Int32) (h : Hp) (Q : Int32 → Hp → Prop) : Prop :=
  wX12_in x1 (0 : Int32) (1 : Int32) h (fun v1 => if v1 = 0 then (Q (-1 : Int32) h) else (wX12_readText a0 x1 h (fun v2 h3 => if v2 < 0 then (vp_in x1 (ln (rf a0 30)) ∧ (∀ h5 : Hp, h5 = sI h3 (rf a0 30) x1.toNatClampNeg (vp_nar .boolean (1 : Int32)) → (Q (1 : Int32) h5))) else (Q ((-100 : Int32) - v2) h3))))
set_option maxRecDepth 20000 in
theorem sX12_law {G : GG} {a0 : Nat} {x1 : Int32} {h : Hp} {Q : Int32 → Hp → Prop} (k0 : kd a0 = 12) (hw : wX12_law a0 x1 h Q) : CI G 125 yX12_law cX12_law 3 (some .int) [.ref (G.1 a0), .int x1] h Q := by
  refine CO_of [some (.ref (G.1 a0)), some (.int x1), none] (by decide) (Nat.le_of_ble_eq_true rfl) rfl (fun X C => ?_)
  unfold wX12_law at hw
  refine r_iload_n C dX12_law_0 rfl ?_
  refine r_iconst (0) C dX12_law_1 (by decide) ?_
  refine r_iconst (1) C dX12_law_2 (by decide) ?_
  refine kX12_114 C (sX12_in hw) dX12_law_3 (Nat.le_of_ble_eq_true rfl) rfl (Nat.le_of_ble_eq_true rfl) (fun v1 hw => ?_)
  refine r_if_ne 11 C dX12_law_6 (by decide) (fun hc => ?_) (fun hc => ?_)
  · replace hw := it_f hc hw
    refine r_aload_n C dX12_law_11 rfl ?_
    refine r_iload_n C dX12_law_12 rfl ?_
    refine kX12_224 C (k0) (sX12_readText (k0) hw) dX12_law_13 (Nat.le_of_ble_eq_true rfl) rfl (Nat.le_of_ble_eq_true rfl) (fun v2 h3 hw => ?_)
    refine r_istore_n [some (.ref (G.1 a0)), some (.int x1), some (.int v2)] C dX12_law_16 (Nat.le_of_ble_eq_true rfl) rfl rfl ?_
    refine r_iload_n C dX12_law_17 rfl ?_
    refine r_if_lt 26 C dX12_law_18 (by decide) (fun hc => ?_) (fun hc => ?_)
    · replace hw := it_t hc hw
      refine r_aload_n C dX12_law_26 rfl ?_
      refine gX12_63 C (k0) dX12_law_27 ?_
      refine r_iload_n C dX12_law_30 rfl ?_
      refine r_iconst (1) C dX12_law_31 (by decide) ?_
      obtain ⟨hi4, hw⟩ := hw
      refine r_zast C (kr12_30 (k0)) hi4 dX12_law_32 ?_
      refine r_toph (fun h5 eh5 => ?_)
      replace hw := hw h5 eh5
      refine r_iconst (1) C dX12_law_33 (by decide) ?_
      exact r_iret C dX12_law_34 ⟨_, rfl, hw⟩
    · replace hw := it_f hc hw
      refine r_bipush (-100) C dX12_law_21 (by decide) ?_
      refine r_iload_n C dX12_law_23 rfl ?_
      refine r_isub C dX12_law_24 ?_
      exact r_iret C dX12_law_25 ⟨_, rfl, hw⟩
  · replace hw := it_t hc hw
    refine r_iconst (-1) C dX12_law_9 (by decide) ?_
    exact r_iret C dX12_law_10 ⟨_, rfl, hw⟩
def wX12_mayGo (a0 : Nat) (x1 : Int32) (x2 : Int32) (x3 : Int32) (x4 : Int32) (h : Hp) (Q : Int32 → Hp → Prop) : Prop :=
  vp_in (0 : Int32) (ln (rf a0 30)) ∧ (if (gI h (rf a0 30) (0 : Int32).toNatClampNeg) = 0 then (Q (1 : Int32) h) else (vp_in (0 : Int32) (ln (rf a0 28)) ∧ (∀ h3 : Hp, h3 = sI h (rf a0 28) (0 : Int32).toNatClampNeg x4 → (vp_in (1 : Int32) (ln (rf a0 28)) ∧ (∀ h5 : Hp, h5 = sI h3 (rf a0 28) (1 : Int32).toNatClampNeg x2 → (vp_in (2 : Int32) (ln (rf a0 28)) ∧ (∀ h7 : Hp, h7 = sI h5 (rf a0 28) (2 : Int32).toNatClampNeg x1 → (vp_in x1 (ln (rf a0 6)) ∧ (vp_in (3 : Int32) (ln (rf a0 28)) ∧ (∀ h10 : Hp, h10 = sI h7 (rf a0 28) (3 : Int32).toNatClampNeg (gI h7 (rf a0 6) x1.toNatClampNeg) → (vp_in (4 : Int32) (ln (rf a0 28)) ∧ (∀ h12 : Hp, h12 = sI h10 (rf a0 28) (4 : Int32).toNatClampNeg x3 → (vp_in (5 : Int32) (ln (rf a0 28)) ∧ (∀ h14 : Hp, h14 = sI h12 (rf a0 28) (5 : Int32).toNatClampNeg (0 : Int32) → (wX12_gives a0 (0 : Int32) h14 (fun v15 h16 => if v15 = 0 then (Q (0 : Int32) h16) else (Q (1 : Int32) h16)))))))))))))))))
set_option maxRecDepth 20000 in
theorem sX12_mayGo {G : GG} {a0 : Nat} {x1 : Int32} {x2 : Int32} {x3 : Int32} {x4 : Int32} {h : Hp} {Q : Int32 → Hp → Prop} (k0 : kd a0 = 12) (hw : wX12_mayGo a0 x1 x2 x3 x4 h Q) : CI G 3 yX12_mayGo cX12_mayGo 5 (some .boolean) [.ref (G.1 a0), .int x1, .int x2, .int x3, .int x4] h Q := by
  refine CO_of [some (.ref (G.1 a0)), some (.int x1), some (.int x2), some (.int x3), some (.int x4)] (by decide) (Nat.le_of_ble_eq_true rfl) rfl (fun X C => ?_)
  unfold wX12_mayGo at hw
  refine r_aload_n C dX12_mayGo_0 rfl ?_
  refine gX12_63 C (k0) dX12_mayGo_1 ?_
  refine r_iconst (0) C dX12_mayGo_4 (by decide) ?_
  obtain ⟨hi1, hw⟩ := hw
  refine r_zald C (kr12_30 (k0)) hi1 dX12_mayGo_5 ?_
  refine r_if_ne 11 C dX12_mayGo_6 (by decide) (fun hc => ?_) (fun hc => ?_)
  · replace hw := it_f hc hw
    refine r_aload_n C dX12_mayGo_11 rfl ?_
    refine gX12_57 C (k0) dX12_mayGo_12 ?_
    refine r_iconst (0) C dX12_mayGo_15 (by decide) ?_
    refine r_iload C dX12_mayGo_16 rfl ?_
    obtain ⟨hi2, hw⟩ := hw
    refine r_iast C (kr12_28 (k0)) hi2 dX12_mayGo_18 ?_
    refine r_toph (fun h3 eh3 => ?_)
    replace hw := hw h3 eh3
    refine r_aload_n C dX12_mayGo_19 rfl ?_
    refine gX12_57 C (k0) dX12_mayGo_20 ?_
    refine r_iconst (1) C dX12_mayGo_23 (by decide) ?_
    refine r_iload_n C dX12_mayGo_24 rfl ?_
    obtain ⟨hi4, hw⟩ := hw
    refine r_iast C (kr12_28 (k0)) hi4 dX12_mayGo_25 ?_
    refine r_toph (fun h5 eh5 => ?_)
    replace hw := hw h5 eh5
    refine r_aload_n C dX12_mayGo_26 rfl ?_
    refine gX12_57 C (k0) dX12_mayGo_27 ?_
    refine r_iconst (2) C dX12_mayGo_30 (by decide) ?_
    refine r_iload_n C dX12_mayGo_31 rfl ?_
    obtain ⟨hi6, hw⟩ := hw
    refine r_iast C (kr12_28 (k0)) hi6 dX12_mayGo_32 ?_
    refine r_toph (fun h7 eh7 => ?_)
    replace hw := hw h7 eh7
    refine r_aload_n C dX12_mayGo_33 rfl ?_
    refine gX12_57 C (k0) dX12_mayGo_34 ?_
    refine r_iconst (3) C dX12_mayGo_37 (by decide) ?_
    refine r_aload_n C dX12_mayGo_38 rfl ?_
    refine gX12_19 C (k0) dX12_mayGo_39 ?_
    refine r_iload_n C dX12_mayGo_42 rfl ?_
    obtain ⟨hi8, hw⟩ := hw
    refine r_iald C (kr12_6 (k0)) hi8 dX12_mayGo_43 ?_
    obtain ⟨hi9, hw⟩ := hw
    refine r_iast C (kr12_28 (k0)) hi9 dX12_mayGo_44 ?_
    refine r_toph (fun h10 eh10 => ?_)
    replace hw := hw h10 eh10
    refine r_aload_n C dX12_mayGo_45 rfl ?_
    refine gX12_57 C (k0) dX12_mayGo_46 ?_
    refine r_iconst (4) C dX12_mayGo_49 (by decide) ?_
    refine r_iload_n C dX12_mayGo_50 rfl ?_
    obtain ⟨hi11, hw⟩ := hw
    refine r_iast C (kr12_28 (k0)) hi11 dX12_mayGo_51 ?_
    refine r_toph (fun h12 eh12 => ?_)
    replace hw := hw h12 eh12
    refine r_aload_n C dX12_mayGo_52 rfl ?_
    refine gX12_57 C (k0) dX12_mayGo_53 ?_
    refine r_iconst (5) C dX12_mayGo_56 (by decide) ?_
    refine r_iconst (0) C dX12_mayGo_57 (by decide) ?_
    obtain ⟨hi13, hw⟩ := hw
    refine r_iast C (kr12_28 (k0)) hi13 dX12_mayGo_58 ?_
    refine r_toph (fun h14 eh14 => ?_)
    replace hw := hw h14 eh14
    refine r_aload_n C dX12_mayGo_59 rfl ?_
    refine r_iconst (0) C dX12_mayGo_60 (by decide) ?_
    refine kX12_227 C (k0) (sX12_gives (k0) hw) dX12_mayGo_61 (Nat.le_of_ble_eq_true rfl) rfl (Nat.le_of_ble_eq_true rfl) (fun v15 h16 hw => ?_)
    refine r_if_eq 71 C dX12_mayGo_64 (by decide) (fun hc => ?_) (fun hc => ?_)
    · replace hw := it_t hc hw
      refine r_iconst (0) C dX12_mayGo_71 (by decide) ?_
      exact r_zret C dX12_mayGo_72 rfl ⟨_, rfl, hw⟩
    · replace hw := it_f hc hw
      refine r_iconst (1) C dX12_mayGo_67 (by decide) ?_
      refine r_goto 72 C dX12_mayGo_68 (by decide) ?_
      exact r_zret C dX12_mayGo_72 rfl ⟨_, rfl, hw⟩
  · replace hw := it_t hc hw
    refine r_iconst (1) C dX12_mayGo_9 (by decide) ?_
    exact r_zret C dX12_mayGo_10 rfl ⟨_, rfl, hw⟩
def wX12_comesTo (a0 : Nat) (x1 : Int32) (x2 : Int32) (x3 : Int32) (h : Hp) (Q : Int32 → Hp → Prop) : Prop :=
  vp_in (1 : Int32) (ln (rf a0 30)) ∧ (if (gI h (rf a0 30) (1 : Int32).toNatClampNeg) = 0 then (Q (6 : Int32) h) else (vp_in (0 : Int32) (ln (rf a0 28)) ∧ (∀ h3 : Hp, h3 = sI h (rf a0 28) (0 : Int32).toNatClampNeg x3 → (vp_in (1 : Int32) (ln (rf a0 28)) ∧ (∀ h5 : Hp, h5 = sI h3 (rf a0 28) (1 : Int32).toNatClampNeg x1 → (vp_in (2 : Int32) (ln (rf a0 28)) ∧ (∀ h7 : Hp, h7 = sI h5 (rf a0 28) (2 : Int32).toNatClampNeg (0 : Int32) → (vp_in (3 : Int32) (ln (rf a0 28)) ∧ (∀ h9 : Hp, h9 = sI h7 (rf a0 28) (3 : Int32).toNatClampNeg (0 : Int32) → (vp_in (4 : Int32) (ln (rf a0 28)) ∧ (∀ h11 : Hp, h11 = sI h9 (rf a0 28) (4 : Int32).toNatClampNeg (0 : Int32) → (vp_in (5 : Int32) (ln (rf a0 28)) ∧ (∀ h13 : Hp, h13 = sI h11 (rf a0 28) (5 : Int32).toNatClampNeg x2 → (wX12_gives a0 (1 : Int32) h13 (fun v14 h15 => if 0 ≤ v14 then (if v14 ≤ (12 : Int32) then (Q v14 h15) else (Q (12 : Int32) h15)) else (Q (0 : Int32) h15))))))))))))))))
set_option maxRecDepth 20000 in
theorem sX12_comesTo {G : GG} {a0 : Nat} {x1 : Int32} {x2 : Int32} {x3 : Int32} {h : Hp} {Q : Int32 → Hp → Prop} (k0 : kd a0 = 12) (hw : wX12_comesTo a0 x1 x2 x3 h Q) : CI G 3 yX12_comesTo cX12_comesTo 5 (some .int) [.ref (G.1 a0), .int x1, .int x2, .int x3] h Q := by
  refine CO_of [some (.ref (G.1 a0)), some (.int x1), some (.int x2), some (.int x3), none] (by decide) (Nat.le_of_ble_eq_true rfl) rfl (fun X C => ?_)
  unfold wX12_comesTo at hw
  refine r_aload_n C dX12_comesTo_0 rfl ?_
  refine gX12_63 C (k0) dX12_comesTo_1 ?_
  refine r_iconst (1) C dX12_comesTo_4 (by decide) ?_
  obtain ⟨hi1, hw⟩ := hw
  refine r_zald C (kr12_30 (k0)) hi1 dX12_comesTo_5 ?_
  refine r_if_ne 12 C dX12_comesTo_6 (by decide) (fun hc => ?_) (fun hc => ?_)
  · replace hw := it_f hc hw
    refine r_aload_n C dX12_comesTo_12 rfl ?_
    refine gX12_57 C (k0) dX12_comesTo_13 ?_
    refine r_iconst (0) C dX12_comesTo_16 (by decide) ?_
    refine r_iload_n C dX12_comesTo_17 rfl ?_
    obtain ⟨hi2, hw⟩ := hw
    refine r_iast C (kr12_28 (k0)) hi2 dX12_comesTo_18 ?_
    refine r_toph (fun h3 eh3 => ?_)
    replace hw := hw h3 eh3
    refine r_aload_n C dX12_comesTo_19 rfl ?_
    refine gX12_57 C (k0) dX12_comesTo_20 ?_
    refine r_iconst (1) C dX12_comesTo_23 (by decide) ?_
    refine r_iload_n C dX12_comesTo_24 rfl ?_
    obtain ⟨hi4, hw⟩ := hw
    refine r_iast C (kr12_28 (k0)) hi4 dX12_comesTo_25 ?_
    refine r_toph (fun h5 eh5 => ?_)
    replace hw := hw h5 eh5
    refine r_aload_n C dX12_comesTo_26 rfl ?_
    refine gX12_57 C (k0) dX12_comesTo_27 ?_
    refine r_iconst (2) C dX12_comesTo_30 (by decide) ?_
    refine r_iconst (0) C dX12_comesTo_31 (by decide) ?_
    obtain ⟨hi6, hw⟩ := hw
    refine r_iast C (kr12_28 (k0)) hi6 dX12_comesTo_32 ?_
    refine r_toph (fun h7 eh7 => ?_)
    replace hw := hw h7 eh7
    refine r_aload_n C dX12_comesTo_33 rfl ?_
    refine gX12_57 C (k0) dX12_comesTo_34 ?_
    refine r_iconst (3) C dX12_comesTo_37 (by decide) ?_
    refine r_iconst (0) C dX12_comesTo_38 (by decide) ?_
    obtain ⟨hi8, hw⟩ := hw
    refine r_iast C (kr12_28 (k0)) hi8 dX12_comesTo_39 ?_
    refine r_toph (fun h9 eh9 => ?_)
    replace hw := hw h9 eh9
    refine r_aload_n C dX12_comesTo_40 rfl ?_
    refine gX12_57 C (k0) dX12_comesTo_41 ?_
    refine r_iconst (4) C dX12_comesTo_44 (by decide) ?_
    refine r_iconst (0) C dX12_comesTo_45 (by decide) ?_
    obtain ⟨hi10, hw⟩ := hw
    refine r_iast C (kr12_28 (k0)) hi10 dX12_comesTo_46 ?_
    refine r_toph (fun h11 eh11 => ?_)
    replace hw := hw h11 eh11
    refine r_aload_n C dX12_comesTo_47 rfl ?_
    refine gX12_57 C (k0) dX12_comesTo_48 ?_
    refine r_iconst (5) C dX12_comesTo_51 (by decide) ?_
    refine r_iload_n C dX12_comesTo_52 rfl ?_
    obtain ⟨hi12, hw⟩ := hw
    refine r_iast C (kr12_28 (k0)) hi12 dX12_comesTo_53 ?_
    refine r_toph (fun h13 eh13 => ?_)
    replace hw := hw h13 eh13
    refine r_aload_n C dX12_comesTo_54 rfl ?_
    refine r_iconst (1) C dX12_comesTo_55 (by decide) ?_
    refine kX12_227 C (k0) (sX12_gives (k0) hw) dX12_comesTo_56 (Nat.le_of_ble_eq_true rfl) rfl (Nat.le_of_ble_eq_true rfl) (fun v14 h15 hw => ?_)
    refine r_istore [some (.ref (G.1 a0)), some (.int x1), some (.int x2), some (.int x3), some (.int v14)] C dX12_comesTo_59 (Nat.le_of_ble_eq_true rfl) rfl rfl ?_
    refine r_iload C dX12_comesTo_61 rfl ?_
    refine r_if_ge 70 C dX12_comesTo_63 (by decide) (fun hc => ?_) (fun hc => ?_)
    · replace hw := it_t hc hw
      refine r_iload C dX12_comesTo_70 rfl ?_
      refine r_bipush (12) C dX12_comesTo_72 (by decide) ?_
      refine r_icmp_le 82 C dX12_comesTo_74 (by decide) (fun hc => ?_) (fun hc => ?_)
      · replace hw := it_t hc hw
        refine r_iload C dX12_comesTo_82 rfl ?_
        exact r_iret C dX12_comesTo_84 ⟨_, rfl, hw⟩
      · replace hw := it_f hc hw
        refine r_bipush (12) C dX12_comesTo_77 (by decide) ?_
        refine r_goto 84 C dX12_comesTo_79 (by decide) ?_
        exact r_iret C dX12_comesTo_84 ⟨_, rfl, hw⟩
    · replace hw := it_f hc hw
      refine r_iconst (0) C dX12_comesTo_66 (by decide) ?_
      refine r_goto 84 C dX12_comesTo_67 (by decide) ?_
      exact r_iret C dX12_comesTo_84 ⟨_, rfl, hw⟩
  · replace hw := it_t hc hw
    refine r_bipush (6) C dX12_comesTo_9 (by decide) ?_
    exact r_iret C dX12_comesTo_11 ⟨_, rfl, hw⟩
def wX12_isGateWay (a0 : Nat) (x1 : Int32) (h : Hp) (Q : Int32 → Prop) : Prop :=
  if x1 < 0 then (Q (0 : Int32)) else (wX12_isGate a0 (x1 / (10 : Int32)) h (fun v1 => if v1 = 0 then (Q (0 : Int32)) else (if (1 : Int32) < (rm x1 (10 : Int32)) then (Q (0 : Int32)) else (Q (1 : Int32)))))
set_option maxRecDepth 20000 in
theorem sX12_isGateWay {G : GG} {a0 : Nat} {x1 : Int32} {h : Hp} {Q : Int32 → Prop} (k0 : kd a0 = 12) (hw : wX12_isGateWay a0 x1 h Q) : PI G 2 yX12_isGateWay cX12_isGateWay 2 (some .boolean) [.ref (G.1 a0), .int x1] h Q := by
  refine CO_of [some (.ref (G.1 a0)), some (.int x1)] (by decide) (Nat.le_of_ble_eq_true rfl) rfl (fun X C => ?_)
  unfold wX12_isGateWay at hw
  refine r_iload_n C dX12_isGateWay_0 rfl ?_
  refine r_if_lt 27 C dX12_isGateWay_1 (by decide) (fun hc => ?_) (fun hc => ?_)
  · replace hw := it_t hc hw
    refine r_iconst (0) C dX12_isGateWay_27 (by decide) ?_
    exact r_zret C dX12_isGateWay_28 rfl ⟨_, rfl, rfl, hw⟩
  · replace hw := it_f hc hw
    refine r_aload_n C dX12_isGateWay_4 rfl ?_
    refine r_iload_n C dX12_isGateWay_5 rfl ?_
    refine r_bipush (10) C dX12_isGateWay_6 (by decide) ?_
    refine r_idiv C dX12_isGateWay_8 (by decide) ?_
    refine kX12_157 C (k0) (sX12_isGate (k0) hw) dX12_isGateWay_9 (Nat.le_of_ble_eq_true rfl) rfl (Nat.le_of_ble_eq_true rfl) (fun v1 hw => ?_)
    refine r_if_eq 27 C dX12_isGateWay_12 (by decide) (fun hc => ?_) (fun hc => ?_)
    · replace hw := it_t hc hw
      refine r_iconst (0) C dX12_isGateWay_27 (by decide) ?_
      exact r_zret C dX12_isGateWay_28 rfl ⟨_, rfl, rfl, hw⟩
    · replace hw := it_f hc hw
      refine r_iload_n C dX12_isGateWay_15 rfl ?_
      refine r_bipush (10) C dX12_isGateWay_16 (by decide) ?_
      refine r_irem C dX12_isGateWay_18 (by decide) ?_
      refine r_iconst (1) C dX12_isGateWay_19 (by decide) ?_
      refine r_icmp_gt 27 C dX12_isGateWay_20 (by decide) (fun hc => ?_) (fun hc => ?_)
      · replace hw := it_t hc hw
        refine r_iconst (0) C dX12_isGateWay_27 (by decide) ?_
        exact r_zret C dX12_isGateWay_28 rfl ⟨_, rfl, rfl, hw⟩
      · replace hw := it_f hc hw
        refine r_iconst (1) C dX12_isGateWay_23 (by decide) ?_
        refine r_goto 28 C dX12_isGateWay_24 (by decide) ?_
        exact r_zret C dX12_isGateWay_28 rfl ⟨_, rfl, rfl, hw⟩
def wX12_may (a0 : Nat) (x1 : Int32) (x2 : Int32) (x3 : Int32) (h : Hp) (Q : Int32 → Hp → Prop) : Prop :=
  wX12_isPerson a0 x1 h (fun v1 => if v1 = 0 then (Q (-1 : Int32) h) else (wX12_isGateWay a0 x2 h (fun v2 => if v2 = 0 then (Q (-1 : Int32) h) else (wX12_isTime x3 h (fun v3 => if v3 = 0 then (Q (-1 : Int32) h) else (wX12_mayGo a0 x1 (x2 / (10 : Int32)) (rm x2 (10 : Int32)) x3 h (fun v4 h5 => if v4 = 0 then (Q (0 : Int32) h5) else (Q (1 : Int32) h5))))))))
set_option maxRecDepth 20000 in
theorem sX12_may {G : GG} {a0 : Nat} {x1 : Int32} {x2 : Int32} {x3 : Int32} {h : Hp} {Q : Int32 → Hp → Prop} (k0 : kd a0 = 12) (hw : wX12_may a0 x1 x2 x3 h Q) : CI G 4 yX12_may cX12_may 4 (some .int) [.ref (G.1 a0), .int x1, .int x2, .int x3] h Q := by
  refine CO_of [some (.ref (G.1 a0)), some (.int x1), some (.int x2), some (.int x3)] (by decide) (Nat.le_of_ble_eq_true rfl) rfl (fun X C => ?_)
  unfold wX12_may at hw
  refine r_aload_n C dX12_may_0 rfl ?_
  refine r_iload_n C dX12_may_1 rfl ?_
  refine kX12_151 C (k0) (sX12_isPerson (k0) hw) dX12_may_2 (Nat.le_of_ble_eq_true rfl) rfl (Nat.le_of_ble_eq_true rfl) (fun v1 hw => ?_)
  refine r_if_eq 23 C dX12_may_5 (by decide) (fun hc => ?_) (fun hc => ?_)
  · replace hw := it_t hc hw
    refine r_iconst (-1) C dX12_may_23 (by decide) ?_
    exact r_iret C dX12_may_24 ⟨_, rfl, hw⟩
  · replace hw := it_f hc hw
    refine r_aload_n C dX12_may_8 rfl ?_
    refine r_iload_n C dX12_may_9 rfl ?_
    refine kX12_230 C (k0) (sX12_isGateWay (k0) hw) dX12_may_10 (Nat.le_of_ble_eq_true rfl) rfl (Nat.le_of_ble_eq_true rfl) (fun v2 hw => ?_)
    refine r_if_eq 23 C dX12_may_13 (by decide) (fun hc => ?_) (fun hc => ?_)
    · replace hw := it_t hc hw
      refine r_iconst (-1) C dX12_may_23 (by decide) ?_
      exact r_iret C dX12_may_24 ⟨_, rfl, hw⟩
    · replace hw := it_f hc hw
      refine r_iload_n C dX12_may_16 rfl ?_
      refine kX12_121 C (sX12_isTime hw) dX12_may_17 (Nat.le_of_ble_eq_true rfl) rfl (Nat.le_of_ble_eq_true rfl) (fun v3 hw => ?_)
      refine r_if_ne 25 C dX12_may_20 (by decide) (fun hc => ?_) (fun hc => ?_)
      · replace hw := it_f hc hw
        refine r_aload_n C dX12_may_25 rfl ?_
        refine r_iload_n C dX12_may_26 rfl ?_
        refine r_iload_n C dX12_may_27 rfl ?_
        refine r_bipush (10) C dX12_may_28 (by decide) ?_
        refine r_idiv C dX12_may_30 (by decide) ?_
        refine r_iload_n C dX12_may_31 rfl ?_
        refine r_bipush (10) C dX12_may_32 (by decide) ?_
        refine r_irem C dX12_may_34 (by decide) ?_
        refine r_iload_n C dX12_may_35 rfl ?_
        refine kX12_233 C (k0) (sX12_mayGo (k0) hw) dX12_may_36 (Nat.le_of_ble_eq_true rfl) rfl (Nat.le_of_ble_eq_true rfl) (fun v4 h5 hw => ?_)
        refine r_if_eq 46 C dX12_may_39 (by decide) (fun hc => ?_) (fun hc => ?_)
        · replace hw := it_t hc hw
          refine r_iconst (0) C dX12_may_46 (by decide) ?_
          exact r_iret C dX12_may_47 ⟨_, rfl, hw⟩
        · replace hw := it_f hc hw
          refine r_iconst (1) C dX12_may_42 (by decide) ?_
          refine r_goto 47 C dX12_may_43 (by decide) ?_
          exact r_iret C dX12_may_47 ⟨_, rfl, hw⟩
      · replace hw := it_t hc hw
        refine r_iconst (-1) C dX12_may_23 (by decide) ?_
        exact r_iret C dX12_may_24 ⟨_, rfl, hw⟩
def wX12_comes (a0 : Nat) (x1 : Int32) (x2 : Int32) (h : Hp) (Q : Int32 → Hp → Prop) : Prop :=
  if x1 < 0 then (Q (-1 : Int32) h) else (wX12_isGate a0 (x1 / (10 : Int32)) h (fun v1 => if v1 = 0 then (Q (-1 : Int32) h) else (wX12_isTime x2 h (fun v2 => if v2 = 0 then (Q (-1 : Int32) h) else (wX12_comesTo a0 (x1 / (10 : Int32)) (rm x1 (10 : Int32)) x2 h (fun v3 h4 => Q v3 h4))))))
set_option maxRecDepth 20000 in
theorem sX12_comes {G : GG} {a0 : Nat} {x1 : Int32} {x2 : Int32} {h : Hp} {Q : Int32 → Hp → Prop} (k0 : kd a0 = 12) (hw : wX12_comes a0 x1 x2 h Q) : CI G 4 yX12_comes cX12_comes 3 (some .int) [.ref (G.1 a0), .int x1, .int x2] h Q := by
  refine CO_of [some (.ref (G.1 a0)), some (.int x1), some (.int x2)] (by decide) (Nat.le_of_ble_eq_true rfl) rfl (fun X C => ?_)
  unfold wX12_comes at hw
  refine r_iload_n C dX12_comes_0 rfl ?_
  refine r_if_lt 38 C dX12_comes_1 (by decide) (fun hc => ?_) (fun hc => ?_)
  · replace hw := it_t hc hw
    refine r_iconst (-1) C dX12_comes_38 (by decide) ?_
    exact r_iret C dX12_comes_39 ⟨_, rfl, hw⟩
  · replace hw := it_f hc hw
    refine r_aload_n C dX12_comes_4 rfl ?_
    refine r_iload_n C dX12_comes_5 rfl ?_
    refine r_bipush (10) C dX12_comes_6 (by decide) ?_
    refine r_idiv C dX12_comes_8 (by decide) ?_
    refine kX12_157 C (k0) (sX12_isGate (k0) hw) dX12_comes_9 (Nat.le_of_ble_eq_true rfl) rfl (Nat.le_of_ble_eq_true rfl) (fun v1 hw => ?_)
    refine r_if_eq 38 C dX12_comes_12 (by decide) (fun hc => ?_) (fun hc => ?_)
    · replace hw := it_t hc hw
      refine r_iconst (-1) C dX12_comes_38 (by decide) ?_
      exact r_iret C dX12_comes_39 ⟨_, rfl, hw⟩
    · replace hw := it_f hc hw
      refine r_iload_n C dX12_comes_15 rfl ?_
      refine kX12_121 C (sX12_isTime hw) dX12_comes_16 (Nat.le_of_ble_eq_true rfl) rfl (Nat.le_of_ble_eq_true rfl) (fun v2 hw => ?_)
      refine r_if_eq 38 C dX12_comes_19 (by decide) (fun hc => ?_) (fun hc => ?_)
      · replace hw := it_t hc hw
        refine r_iconst (-1) C dX12_comes_38 (by decide) ?_
        exact r_iret C dX12_comes_39 ⟨_, rfl, hw⟩
      · replace hw := it_f hc hw
        refine r_aload_n C dX12_comes_22 rfl ?_
        refine r_iload_n C dX12_comes_23 rfl ?_
        refine r_bipush (10) C dX12_comes_24 (by decide) ?_
        refine r_idiv C dX12_comes_26 (by decide) ?_
        refine r_iload_n C dX12_comes_27 rfl ?_
        refine r_bipush (10) C dX12_comes_28 (by decide) ?_
        refine r_irem C dX12_comes_30 (by decide) ?_
        refine r_iload_n C dX12_comes_31 rfl ?_
        refine kX12_237 C (k0) (sX12_comesTo (k0) hw) dX12_comes_32 (Nat.le_of_ble_eq_true rfl) rfl (Nat.le_of_ble_eq_true rfl) (fun v3 h4 hw => ?_)
        refine r_goto 39 C dX12_comes_35 (by decide) ?_
        exact r_iret C dX12_comes_39 ⟨_, rfl, hw⟩
def wX12_waitsIn (a0 : Nat) (x1 : Int32) (x2 : Int32) (x3 : Int32) (x4 : Int32) (h : Hp) (Q : Int32 → Prop) : Prop :=
  if ((shr x3 x1) &&& (1 : Int32)) = (1 : Int32) then (vp_in x1 (ln (rf a0 5)) ∧ (if x2 < (gI h (rf a0 5) x1.toNatClampNeg) then (Q (0 : Int32)) else (Q (1 : Int32)))) else (if ((shr x4 x1) &&& (1 : Int32)) = 0 then (vp_in x1 (ln (rf a0 4)) ∧ (if x2 < (gI h (rf a0 4) x1.toNatClampNeg) then (Q (0 : Int32)) else (Q (1 : Int32)))) else (Q (0 : Int32)))
set_option maxRecDepth 20000 in
theorem sX12_waitsIn {G : GG} {a0 : Nat} {x1 : Int32} {x2 : Int32} {x3 : Int32} {x4 : Int32} {h : Hp} {Q : Int32 → Prop} (k0 : kd a0 = 12) (hw : wX12_waitsIn a0 x1 x2 x3 x4 h Q) : PI G 0 yX12_waitsIn cX12_waitsIn 5 (some .boolean) [.ref (G.1 a0), .int x1, .int x2, .int x3, .int x4] h Q := by
  refine CO_of [some (.ref (G.1 a0)), some (.int x1), some (.int x2), some (.int x3), some (.int x4)] (by decide) (Nat.le_of_ble_eq_true rfl) rfl (fun X C => ?_)
  unfold wX12_waitsIn at hw
  refine r_iload_n C dX12_waitsIn_0 rfl ?_
  refine r_iload_n C dX12_waitsIn_1 rfl ?_
  refine r_ishr C dX12_waitsIn_2 ?_
  refine r_iconst (1) C dX12_waitsIn_3 (by decide) ?_
  refine r_iand C dX12_waitsIn_4 ?_
  refine r_iconst (1) C dX12_waitsIn_5 (by decide) ?_
  refine r_icmp_ne 25 C dX12_waitsIn_6 (by decide) (fun hc => ?_) (fun hc => ?_)
  · replace hw := it_f hc hw
    refine r_iload C dX12_waitsIn_25 rfl ?_
    refine r_iload_n C dX12_waitsIn_27 rfl ?_
    refine r_ishr C dX12_waitsIn_28 ?_
    refine r_iconst (1) C dX12_waitsIn_29 (by decide) ?_
    refine r_iand C dX12_waitsIn_30 ?_
    refine r_if_ne 48 C dX12_waitsIn_31 (by decide) (fun hc => ?_) (fun hc => ?_)
    · replace hw := it_f hc hw
      refine r_iconst (0) C dX12_waitsIn_48 (by decide) ?_
      exact r_zret C dX12_waitsIn_49 rfl ⟨_, rfl, rfl, hw⟩
    · replace hw := it_t hc hw
      refine r_iload_n C dX12_waitsIn_34 rfl ?_
      refine r_aload_n C dX12_waitsIn_35 rfl ?_
      refine gX12_13 C (k0) dX12_waitsIn_36 ?_
      refine r_iload_n C dX12_waitsIn_39 rfl ?_
      obtain ⟨hi1, hw⟩ := hw
      refine r_iald C (kr12_4 (k0)) hi1 dX12_waitsIn_40 ?_
      refine r_icmp_lt 48 C dX12_waitsIn_41 (by decide) (fun hc => ?_) (fun hc => ?_)
      · replace hw := it_t hc hw
        refine r_iconst (0) C dX12_waitsIn_48 (by decide) ?_
        exact r_zret C dX12_waitsIn_49 rfl ⟨_, rfl, rfl, hw⟩
      · replace hw := it_f hc hw
        refine r_iconst (1) C dX12_waitsIn_44 (by decide) ?_
        refine r_goto 49 C dX12_waitsIn_45 (by decide) ?_
        exact r_zret C dX12_waitsIn_49 rfl ⟨_, rfl, rfl, hw⟩
  · replace hw := it_t hc hw
    refine r_iload_n C dX12_waitsIn_9 rfl ?_
    refine r_aload_n C dX12_waitsIn_10 rfl ?_
    refine gX12_16 C (k0) dX12_waitsIn_11 ?_
    refine r_iload_n C dX12_waitsIn_14 rfl ?_
    obtain ⟨hi2, hw⟩ := hw
    refine r_iald C (kr12_5 (k0)) hi2 dX12_waitsIn_15 ?_
    refine r_icmp_lt 23 C dX12_waitsIn_16 (by decide) (fun hc => ?_) (fun hc => ?_)
    · replace hw := it_t hc hw
      refine r_iconst (0) C dX12_waitsIn_23 (by decide) ?_
      exact r_zret C dX12_waitsIn_24 rfl ⟨_, rfl, rfl, hw⟩
    · replace hw := it_f hc hw
      refine r_iconst (1) C dX12_waitsIn_19 (by decide) ?_
      refine r_goto 24 C dX12_waitsIn_20 (by decide) ?_
      exact r_zret C dX12_waitsIn_24 rfl ⟨_, rfl, rfl, hw⟩
def wX12_of (a0 : Nat) (x1 : Int32) (x2 : Int32) (h : Hp) (Q : Int32 → Prop) : Prop :=
  if x2 = (10 : Int32) then (wX12_isGate a0 x1 h (fun v7 => if v7 = 0 then (Q (-1 : Int32)) else (vp_in x1 (ln (rf a0 2)) ∧ (Q (gI h (rf a0 2) x1.toNatClampNeg))))) else (wX12_isPerson a0 x1 h (fun v1 => if v1 = 0 then (Q (-1 : Int32)) else (if x2 = (0 : Int32) then (vp_in x1 (ln (rf a0 4)) ∧ (Q (gI h (rf a0 4) x1.toNatClampNeg))) else (if x2 = (1 : Int32) then (vp_in x1 (ln (rf a0 5)) ∧ (Q (gI h (rf a0 5) x1.toNatClampNeg))) else (if x2 = (2 : Int32) then (vp_in x1 (ln (rf a0 6)) ∧ (Q (gI h (rf a0 6) x1.toNatClampNeg))) else (if x2 = (3 : Int32) then (if ((shr (gI h a0 8) x1) &&& (1 : Int32)) = 0 then (Q (1 : Int32)) else (Q (0 : Int32))) else (if x2 = (4 : Int32) then (Q ((shr (gI h a0 9) x1) &&& (1 : Int32))) else (if x2 = (5 : Int32) then (if (60 : Int32) ≤ (gI h a0 7) then (Q (0 : Int32)) else (wX12_waitsIn a0 x1 (gI h a0 7) (gI h a0 8) (gI h a0 9) h (fun v5 => if v5 = 0 then (Q (0 : Int32)) else (Q (1 : Int32))))) else (if x2 = (6 : Int32) then (vp_in x1 (ln (rf a0 10)) ∧ (Q (gI h (rf a0 10) x1.toNatClampNeg))) else (Q (-1 : Int32)))))))))))
set_option maxRecDepth 20000 in
theorem sX12_of {G : GG} {a0 : Nat} {x1 : Int32} {x2 : Int32} {h : Hp} {Q : Int32 → Prop} (k0 : kd a0 = 12) (hw : wX12_of a0 x1 x2 h Q) : PI G 2 yX12_of cX12_of 3 (some .int) [.ref (G.1 a0), .int x1, .int x2] h Q := by
  refine CO_of [some (.ref (G.1 a0)), some (.int x1), some (.int x2)] (by decide) (Nat.le_of_ble_eq_true rfl) rfl (fun X C => ?_)
  unfold wX12_of at hw
  refine r_iload_n C dX12_of_0 rfl ?_
  refine r_bipush (10) C dX12_of_1 (by decide) ?_
  refine r_icmp_ne 25 C dX12_of_3 (by decide) (fun hc => ?_) (fun hc => ?_)
  · replace hw := it_f hc hw
    refine r_aload_n C dX12_of_25 rfl ?_
    refine r_iload_n C dX12_of_26 rfl ?_
    refine kX12_151 C (k0) (sX12_isPerson (k0) hw) dX12_of_27 (Nat.le_of_ble_eq_true rfl) rfl (Nat.le_of_ble_eq_true rfl) (fun v1 hw => ?_)
    refine r_if_ne 35 C dX12_of_30 (by decide) (fun hc => ?_) (fun hc => ?_)
    · replace hw := it_f hc hw
      refine r_iload_n C dX12_of_35 rfl ?_
      by_cases hs36_0 : x2 = (0 : Int32)
      · replace hw := it_t hs36_0 hw
        refine r_tabIn (off := 44) (0) 80 C dX12_of_36 hs36_0 (by decide) ?_
        refine r_aload_n C dX12_of_80 rfl ?_
        refine gX12_13 C (k0) dX12_of_81 ?_
        refine r_iload_n C dX12_of_84 rfl ?_
        obtain ⟨hi2, hw⟩ := hw
        refine r_iald C (kr12_4 (k0)) hi2 dX12_of_85 ?_
        exact r_iret C dX12_of_86 ⟨_, rfl, rfl, hw⟩
      replace hw := it_f hs36_0 hw
      by_cases hs36_1 : x2 = (1 : Int32)
      · replace hw := it_t hs36_1 hw
        refine r_tabIn (off := 51) (1) 87 C dX12_of_36 hs36_1 (by decide) ?_
        refine r_aload_n C dX12_of_87 rfl ?_
        refine gX12_16 C (k0) dX12_of_88 ?_
        refine r_iload_n C dX12_of_91 rfl ?_
        obtain ⟨hi3, hw⟩ := hw
        refine r_iald C (kr12_5 (k0)) hi3 dX12_of_92 ?_
        exact r_iret C dX12_of_93 ⟨_, rfl, rfl, hw⟩
      replace hw := it_f hs36_1 hw
      by_cases hs36_2 : x2 = (2 : Int32)
      · replace hw := it_t hs36_2 hw
        refine r_tabIn (off := 58) (2) 94 C dX12_of_36 hs36_2 (by decide) ?_
        refine r_aload_n C dX12_of_94 rfl ?_
        refine gX12_19 C (k0) dX12_of_95 ?_
        refine r_iload_n C dX12_of_98 rfl ?_
        obtain ⟨hi4, hw⟩ := hw
        refine r_iald C (kr12_6 (k0)) hi4 dX12_of_99 ?_
        exact r_iret C dX12_of_100 ⟨_, rfl, rfl, hw⟩
      replace hw := it_f hs36_2 hw
      by_cases hs36_3 : x2 = (3 : Int32)
      · replace hw := it_t hs36_3 hw
        refine r_tabIn (off := 65) (3) 101 C dX12_of_36 hs36_3 (by decide) ?_
        refine r_aload_n C dX12_of_101 rfl ?_
        refine gX12_240 C (k0) dX12_of_102 ?_
        refine r_iload_n C dX12_of_105 rfl ?_
        refine r_ishr C dX12_of_106 ?_
        refine r_iconst (1) C dX12_of_107 (by decide) ?_
        refine r_iand C dX12_of_108 ?_
        refine r_if_ne 116 C dX12_of_109 (by decide) (fun hc => ?_) (fun hc => ?_)
        · replace hw := it_f hc hw
          refine r_iconst (0) C dX12_of_116 (by decide) ?_
          exact r_iret C dX12_of_117 ⟨_, rfl, rfl, hw⟩
        · replace hw := it_t hc hw
          refine r_iconst (1) C dX12_of_112 (by decide) ?_
          refine r_goto 117 C dX12_of_113 (by decide) ?_
          exact r_iret C dX12_of_117 ⟨_, rfl, rfl, hw⟩
      replace hw := it_f hs36_3 hw
      by_cases hs36_4 : x2 = (4 : Int32)
      · replace hw := it_t hs36_4 hw
        refine r_tabIn (off := 82) (4) 118 C dX12_of_36 hs36_4 (by decide) ?_
        refine r_aload_n C dX12_of_118 rfl ?_
        refine gX12_243 C (k0) dX12_of_119 ?_
        refine r_iload_n C dX12_of_122 rfl ?_
        refine r_ishr C dX12_of_123 ?_
        refine r_iconst (1) C dX12_of_124 (by decide) ?_
        refine r_iand C dX12_of_125 ?_
        exact r_iret C dX12_of_126 ⟨_, rfl, rfl, hw⟩
      replace hw := it_f hs36_4 hw
      by_cases hs36_5 : x2 = (5 : Int32)
      · replace hw := it_t hs36_5 hw
        refine r_tabIn (off := 91) (5) 127 C dX12_of_36 hs36_5 (by decide) ?_
        refine r_aload_n C dX12_of_127 rfl ?_
        refine gX12_246 C (k0) dX12_of_128 ?_
        refine r_bipush (60) C dX12_of_131 (by decide) ?_
        refine r_icmp_ge 160 C dX12_of_133 (by decide) (fun hc => ?_) (fun hc => ?_)
        · replace hw := it_t hc hw
          refine r_iconst (0) C dX12_of_160 (by decide) ?_
          exact r_iret C dX12_of_161 ⟨_, rfl, rfl, hw⟩
        · replace hw := it_f hc hw
          refine r_aload_n C dX12_of_136 rfl ?_
          refine r_iload_n C dX12_of_137 rfl ?_
          refine r_aload_n C dX12_of_138 rfl ?_
          refine gX12_246 C (k0) dX12_of_139 ?_
          refine r_aload_n C dX12_of_142 rfl ?_
          refine gX12_240 C (k0) dX12_of_143 ?_
          refine r_aload_n C dX12_of_146 rfl ?_
          refine gX12_243 C (k0) dX12_of_147 ?_
          refine kX12_249 C (k0) (sX12_waitsIn (k0) hw) dX12_of_150 (Nat.le_of_ble_eq_true rfl) rfl (Nat.le_of_ble_eq_true rfl) (fun v5 hw => ?_)
          refine r_if_eq 160 C dX12_of_153 (by decide) (fun hc => ?_) (fun hc => ?_)
          · replace hw := it_t hc hw
            refine r_iconst (0) C dX12_of_160 (by decide) ?_
            exact r_iret C dX12_of_161 ⟨_, rfl, rfl, hw⟩
          · replace hw := it_f hc hw
            refine r_iconst (1) C dX12_of_156 (by decide) ?_
            refine r_goto 161 C dX12_of_157 (by decide) ?_
            exact r_iret C dX12_of_161 ⟨_, rfl, rfl, hw⟩
      replace hw := it_f hs36_5 hw
      by_cases hs36_6 : x2 = (6 : Int32)
      · replace hw := it_t hs36_6 hw
        refine r_tabIn (off := 126) (6) 162 C dX12_of_36 hs36_6 (by decide) ?_
        refine r_aload_n C dX12_of_162 rfl ?_
        refine gX12_22 C (k0) dX12_of_163 ?_
        refine r_iload_n C dX12_of_166 rfl ?_
        obtain ⟨hi6, hw⟩ := hw
        refine r_iald C (kr12_10 (k0)) hi6 dX12_of_167 ?_
        exact r_iret C dX12_of_168 ⟨_, rfl, rfl, hw⟩
      replace hw := it_f hs36_6 hw
      refine r_tabOut 169 C dX12_of_36 (by have qhs36_0 := lv_neT (a := 0) hs36_0 (by decide); have qhs36_1 := lv_neT (a := 1) hs36_1 (by decide); have qhs36_2 := lv_neT (a := 2) hs36_2 (by decide); have qhs36_3 := lv_neT (a := 3) hs36_3 (by decide); have qhs36_4 := lv_neT (a := 4) hs36_4 (by decide); have qhs36_5 := lv_neT (a := 5) hs36_5 (by decide); have qhs36_6 := lv_neT (a := 6) hs36_6 (by decide); omega) (by decide) ?_
      refine r_iconst (-1) C dX12_of_169 (by decide) ?_
      exact r_iret C dX12_of_170 ⟨_, rfl, rfl, hw⟩
    · replace hw := it_t hc hw
      refine r_iconst (-1) C dX12_of_33 (by decide) ?_
      exact r_iret C dX12_of_34 ⟨_, rfl, rfl, hw⟩
  · replace hw := it_t hc hw
    refine r_aload_n C dX12_of_6 rfl ?_
    refine r_iload_n C dX12_of_7 rfl ?_
    refine kX12_157 C (k0) (sX12_isGate (k0) hw) dX12_of_8 (Nat.le_of_ble_eq_true rfl) rfl (Nat.le_of_ble_eq_true rfl) (fun v7 hw => ?_)
    refine r_if_eq 23 C dX12_of_11 (by decide) (fun hc => ?_) (fun hc => ?_)
    · replace hw := it_t hc hw
      refine r_iconst (-1) C dX12_of_23 (by decide) ?_
      exact r_iret C dX12_of_24 ⟨_, rfl, rfl, hw⟩
    · replace hw := it_f hc hw
      refine r_aload_n C dX12_of_14 rfl ?_
      refine gX12_7 C (k0) dX12_of_15 ?_
      refine r_iload_n C dX12_of_18 rfl ?_
      obtain ⟨hi8, hw⟩ := hw
      refine r_iald C (kr12_2 (k0)) hi8 dX12_of_19 ?_
      refine r_goto 24 C dX12_of_20 (by decide) ?_
      exact r_iret C dX12_of_24 ⟨_, rfl, rfl, hw⟩
def fX12_canPass_18 (a0 : Nat) (x1 : Int32) (x2 : Int32) (x3 : Int32) (Q : Int32 → Hp → Prop) (K18 : Int32 → Hp → Prop) (x4 : Int32) (h : Hp) : Prop :=
  if (gI h a0 3) ≤ x4 then (Q (1 : Int32) h) else (if ((shr x3 x4) &&& (1 : Int32)) = 0 then (∀ v4 : Int32, v4 = x4 + (1 : Int32) → (K18 v4 h)) else (if ((shr (gI h a0 8) x4) &&& (1 : Int32)) = x2 then (wX12_mayGo a0 x4 x1 x2 (gI h a0 7) h (fun v1 h2 => if v1 = 0 then (Q (0 : Int32) h2) else (∀ v3 : Int32, v3 = x4 + (1 : Int32) → (K18 v3 h2)))) else (Q (0 : Int32) h)))
def eX12_canPass_18 (a0 : Nat) (x1 : Int32) (x2 : Int32) (x3 : Int32) (Q : Int32 → Hp → Prop) (x4 : Int32) (h : Hp) : Prop := ∃ N, lpN (fun (K : Int32 × Hp → Prop) (s : Int32 × Hp) => fX12_canPass_18 a0 x1 x2 x3 Q (fun x4 h => K (x4, h)) s.1 s.2) N (x4, h)
theorem iX12_canPass_18 {a0 : Nat} {x1 : Int32} {x2 : Int32} {x3 : Int32} {Q : Int32 → Hp → Prop} (I : Int32 → Hp → Prop) (μ : Int32 → Hp → Nat) (hs : ∀ (x4 : Int32) (h : Hp), I x4 h → ∀ K : Int32 → Hp → Prop, (∀ (x4' : Int32) (h' : Hp), I x4' h' → μ x4' h' < μ x4 h → K x4' h') → fX12_canPass_18 a0 x1 x2 x3 Q K x4 h) : ∀ (x4 : Int32) (h : Hp), I x4 h → eX12_canPass_18 a0 x1 x2 x3 Q x4 h := fun x4 h hI => lp_ind (fun s => I s.1 s.2) (fun s => μ s.1 s.2) (fun s hs' K hK => hs s.1 s.2 hs' _ (fun x4' h' h1 h2 => hK (x4', h') h1 h2)) (x4, h) hI
set_option maxRecDepth 20000 in
theorem tX12_canPass_18 {G : GG} {X : XX} {a0 : Nat} {x1 : Int32} {x2 : Int32} {x3 : Int32} {x4 : Int32} {h : Hp}  {Q : Int32 → Hp → Prop} (C : Cx G RX12 cX12_canPass 5 (some .boolean) 4 0 0 X) (k0 : kd a0 = 12) (hw : eX12_canPass_18 a0 x1 x2 x3 Q x4 h) : R0 G X 0 0 (ZM G (fun r h' => ∃ v, r = some (.int v) ∧ Q v h') X) 18 [some (.ref (G.1 a0)), some (.int x1), some (.int x2), some (.int x3), some (.int x4)] [] h := by
  obtain ⟨N, hw⟩ := hw
  induction N generalizing x4 h with
  | zero => exact hw.elim
  | succ N ih =>
    obtain ⟨K18, eK⟩ : ∃ K : Int32 → Hp → Prop, K = (fun x4 h => lpN (fun (K : Int32 × Hp → Prop) (s : Int32 × Hp) => fX12_canPass_18 a0 x1 x2 x3 Q (fun x4 h => K (x4, h)) s.1 s.2) N (x4, h)) := ⟨_, rfl⟩
    have hw : fX12_canPass_18 a0 x1 x2 x3 Q (fun x4 h => lpN (fun (K : Int32 × Hp → Prop) (s : Int32 × Hp) => fX12_canPass_18 a0 x1 x2 x3 Q (fun x4 h => K (x4, h)) s.1 s.2) N (x4, h)) x4 h := hw
    have hK18 : ∀ (x4 : Int32) (h : Hp), K18 x4 h → R0 G X 0 0 (ZM G (fun r h' => ∃ v, r = some (.int v) ∧ Q v h') X) 18 [some (.ref (G.1 a0)), some (.int x1), some (.int x2), some (.int x3), some (.int x4)] [] h := fun x4 h q => ih (by rw [eK] at q; exact q)
    rw [← eK] at hw
    clear eK ih
    unfold fX12_canPass_18 at hw
    refine r_iload C dX12_canPass_18 rfl ?_
    refine r_aload_n C dX12_canPass_20 rfl ?_
    refine gX12_118 C (k0) dX12_canPass_21 ?_
    refine r_icmp_ge 75 C dX12_canPass_24 (by decide) (fun hc => ?_) (fun hc => ?_)
    · replace hw := it_t hc hw
      refine r_iconst (1) C dX12_canPass_75 (by decide) ?_
      exact r_zret C dX12_canPass_76 rfl ⟨_, rfl, hw⟩
    · replace hw := it_f hc hw
      refine r_iload_n C dX12_canPass_27 rfl ?_
      refine r_iload C dX12_canPass_28 rfl ?_
      refine r_ishr C dX12_canPass_30 ?_
      refine r_iconst (1) C dX12_canPass_31 (by decide) ?_
      refine r_iand C dX12_canPass_32 ?_
      refine r_if_ne 39 C dX12_canPass_33 (by decide) (fun hc => ?_) (fun hc => ?_)
      · replace hw := it_f hc hw
        refine r_aload_n C dX12_canPass_39 rfl ?_
        refine gX12_240 C (k0) dX12_canPass_40 ?_
        refine r_iload C dX12_canPass_43 rfl ?_
        refine r_ishr C dX12_canPass_45 ?_
        refine r_iconst (1) C dX12_canPass_46 (by decide) ?_
        refine r_iand C dX12_canPass_47 ?_
        refine r_iload_n C dX12_canPass_48 rfl ?_
        refine r_icmp_ne 67 C dX12_canPass_49 (by decide) (fun hc => ?_) (fun hc => ?_)
        · replace hw := it_f hc hw
          refine r_iconst (0) C dX12_canPass_67 (by decide) ?_
          exact r_zret C dX12_canPass_68 rfl ⟨_, rfl, hw⟩
        · replace hw := it_t hc hw
          refine r_aload_n C dX12_canPass_52 rfl ?_
          refine r_iload C dX12_canPass_53 rfl ?_
          refine r_iload_n C dX12_canPass_55 rfl ?_
          refine r_iload_n C dX12_canPass_56 rfl ?_
          refine r_aload_n C dX12_canPass_57 rfl ?_
          refine gX12_246 C (k0) dX12_canPass_58 ?_
          refine kX12_233 C (k0) (sX12_mayGo (k0) hw) dX12_canPass_61 (Nat.le_of_ble_eq_true rfl) rfl (Nat.le_of_ble_eq_true rfl) (fun v1 h2 hw => ?_)
          refine r_if_ne 69 C dX12_canPass_64 (by decide) (fun hc => ?_) (fun hc => ?_)
          · replace hw := it_f hc hw
            obtain ⟨v3, ev3⟩ : ∃ v : Int32, v = x4 + (1 : Int32) := ⟨_, rfl⟩
            replace hw := hw v3 ev3
            refine r_iinc v3 [some (.ref (G.1 a0)), some (.int x1), some (.int x2), some (.int x3), some (.int v3)] C dX12_canPass_69 rfl (by rw [ev3]; rfl) rfl rfl ?_
            refine r_goto 18 C dX12_canPass_72 (by decide) ?_
            exact hK18 _ _ hw
          · replace hw := it_t hc hw
            refine r_iconst (0) C dX12_canPass_67 (by decide) ?_
            exact r_zret C dX12_canPass_68 rfl ⟨_, rfl, hw⟩
      · replace hw := it_t hc hw
        refine r_goto 69 C dX12_canPass_36 (by decide) ?_
        obtain ⟨v4, ev4⟩ : ∃ v : Int32, v = x4 + (1 : Int32) := ⟨_, rfl⟩
        replace hw := hw v4 ev4
        refine r_iinc v4 [some (.ref (G.1 a0)), some (.int x1), some (.int x2), some (.int x3), some (.int v4)] C dX12_canPass_69 rfl (by rw [ev4]; rfl) rfl rfl ?_
        refine r_goto 18 C dX12_canPass_72 (by decide) ?_
        exact hK18 _ _ hw
def wX12_canPass (a0 : Nat) (x1 : Int32) (x2 : Int32) (x3 : Int32) (h : Hp) (Q : Int32 → Hp → Prop) : Prop :=
  wX12_bitsOf x3 h (fun v1 => vp_in x1 (ln (rf a0 2)) ∧ (if v1 = (gI h (rf a0 2) x1.toNatClampNeg) then (eX12_canPass_18 a0 x1 x2 x3 Q (0 : Int32) h) else (Q (0 : Int32) h)))
set_option maxRecDepth 20000 in
theorem sX12_canPass {G : GG} {a0 : Nat} {x1 : Int32} {x2 : Int32} {x3 : Int32} {h : Hp} {Q : Int32 → Hp → Prop} (k0 : kd a0 = 12) (hw : wX12_canPass a0 x1 x2 x3 h Q) : CI G 4 yX12_canPass cX12_canPass 5 (some .boolean) [.ref (G.1 a0), .int x1, .int x2, .int x3] h Q := by
  refine CO_of [some (.ref (G.1 a0)), some (.int x1), some (.int x2), some (.int x3), none] (by decide) (Nat.le_of_ble_eq_true rfl) rfl (fun X C => ?_)
  unfold wX12_canPass at hw
  refine r_iload_n C dX12_canPass_0 rfl ?_
  refine kX12_252 C (sX12_bitsOf hw) dX12_canPass_1 (Nat.le_of_ble_eq_true rfl) rfl (Nat.le_of_ble_eq_true rfl) (fun v1 hw => ?_)
  refine r_aload_n C dX12_canPass_4 rfl ?_
  refine gX12_7 C (k0) dX12_canPass_5 ?_
  refine r_iload_n C dX12_canPass_8 rfl ?_
  obtain ⟨hi2, hw⟩ := hw
  refine r_iald C (kr12_2 (k0)) hi2 dX12_canPass_9 ?_
  refine r_icmp_eq 15 C dX12_canPass_10 (by decide) (fun hc => ?_) (fun hc => ?_)
  · replace hw := it_t hc hw
    refine r_iconst (0) C dX12_canPass_15 (by decide) ?_
    refine r_istore [some (.ref (G.1 a0)), some (.int x1), some (.int x2), some (.int x3), some (.int (0 : Int32))] C dX12_canPass_16 (Nat.le_of_ble_eq_true rfl) rfl rfl ?_
    exact tX12_canPass_18 C (k0) hw
  · replace hw := it_f hc hw
    refine r_iconst (0) C dX12_canPass_13 (by decide) ?_
    exact r_zret C dX12_canPass_14 rfl ⟨_, rfl, hw⟩
def jX12_pass_81 (a0 : Nat) (h : Hp) (Q : Int32 → Hp → Prop) : Prop :=
  wX12_bitsOf (gI h a0 8) h (fun v1 => Q ((gI h a0 3) - v1) h)
set_option maxRecDepth 20000 in
theorem tX12_pass_81 {G : GG} {X : XX} {a0 : Nat} {h : Hp}  {Q : Int32 → Hp → Prop} (C : Cx G RX12 cX12_pass 3 (some .int) 5 0 0 X) (k0 : kd a0 = 12) (hw : jX12_pass_81 a0 h Q) : R0 G X 0 0 (ZM G (fun r h' => ∃ v, r = some (.int v) ∧ Q v h') X) 81 [some (.ref (G.1 a0)), none, none] [] h := by
  unfold jX12_pass_81 at hw
  refine r_aload_n C dX12_pass_81 rfl ?_
  refine gX12_118 C (k0) dX12_pass_82 ?_
  refine r_aload_n C dX12_pass_85 rfl ?_
  refine gX12_240 C (k0) dX12_pass_86 ?_
  refine kX12_252 C (sX12_bitsOf hw) dX12_pass_89 (Nat.le_of_ble_eq_true rfl) rfl (Nat.le_of_ble_eq_true rfl) (fun v1 hw => ?_)
  refine r_isub C dX12_pass_92 ?_
  exact r_iret C dX12_pass_93 ⟨_, rfl, hw⟩
def wX12_pass (a0 : Nat) (x1 : Int32) (x2 : Int32) (h : Hp) (Q : Int32 → Hp → Prop) : Prop :=
  wX12_isGateWay a0 x1 h (fun v1 => if v1 = 0 then (Q (-1 : Int32) h) else (if x2 < 0 then (Q (-1 : Int32) h) else (if (shr x2 (gI h a0 3)) = 0 then (if (gI h a0 7) = (60 : Int32) then (Q (-5 : Int32) h) else (wX12_canPass a0 (x1 / (10 : Int32)) (rm x1 (10 : Int32)) x2 h (fun v2 h3 => if v2 = 0 then (Q (-2 : Int32) h3) else (∀ h4 : Hp, h4 = sI h3 a0 8 ((gI h3 a0 8) ^^^ x2) → (if (rm x1 (10 : Int32)) = 0 then (∀ h5 : Hp, h5 = sI h4 a0 9 ((gI h4 a0 9) ||| x2) → (jX12_pass_81 a0 h5 Q)) else (jX12_pass_81 a0 h4 Q)))))) else (Q (-1 : Int32) h))))
set_option maxRecDepth 20000 in
theorem sX12_pass {G : GG} {a0 : Nat} {x1 : Int32} {x2 : Int32} {h : Hp} {Q : Int32 → Hp → Prop} (k0 : kd a0 = 12) (hw : wX12_pass a0 x1 x2 h Q) : CI G 5 yX12_pass cX12_pass 3 (some .int) [.ref (G.1 a0), .int x1, .int x2] h Q := by
  refine CO_of [some (.ref (G.1 a0)), some (.int x1), some (.int x2)] (by decide) (Nat.le_of_ble_eq_true rfl) rfl (fun X C => ?_)
  unfold wX12_pass at hw
  refine r_aload_n C dX12_pass_0 rfl ?_
  refine r_iload_n C dX12_pass_1 rfl ?_
  refine kX12_230 C (k0) (sX12_isGateWay (k0) hw) dX12_pass_2 (Nat.le_of_ble_eq_true rfl) rfl (Nat.le_of_ble_eq_true rfl) (fun v1 hw => ?_)
  refine r_if_eq 21 C dX12_pass_5 (by decide) (fun hc => ?_) (fun hc => ?_)
  · replace hw := it_t hc hw
    refine r_iconst (-1) C dX12_pass_21 (by decide) ?_
    exact r_iret C dX12_pass_22 ⟨_, rfl, hw⟩
  · replace hw := it_f hc hw
    refine r_iload_n C dX12_pass_8 rfl ?_
    refine r_if_lt 21 C dX12_pass_9 (by decide) (fun hc => ?_) (fun hc => ?_)
    · replace hw := it_t hc hw
      refine r_iconst (-1) C dX12_pass_21 (by decide) ?_
      exact r_iret C dX12_pass_22 ⟨_, rfl, hw⟩
    · replace hw := it_f hc hw
      refine r_iload_n C dX12_pass_12 rfl ?_
      refine r_aload_n C dX12_pass_13 rfl ?_
      refine gX12_118 C (k0) dX12_pass_14 ?_
      refine r_ishr C dX12_pass_17 ?_
      refine r_if_eq 23 C dX12_pass_18 (by decide) (fun hc => ?_) (fun hc => ?_)
      · replace hw := it_t hc hw
        refine r_aload_n C dX12_pass_23 rfl ?_
        refine gX12_246 C (k0) dX12_pass_24 ?_
        refine r_bipush (60) C dX12_pass_27 (by decide) ?_
        refine r_icmp_ne 35 C dX12_pass_29 (by decide) (fun hc => ?_) (fun hc => ?_)
        · replace hw := it_f hc hw
          refine r_aload_n C dX12_pass_35 rfl ?_
          refine r_iload_n C dX12_pass_36 rfl ?_
          refine r_bipush (10) C dX12_pass_37 (by decide) ?_
          refine r_idiv C dX12_pass_39 (by decide) ?_
          refine r_iload_n C dX12_pass_40 rfl ?_
          refine r_bipush (10) C dX12_pass_41 (by decide) ?_
          refine r_irem C dX12_pass_43 (by decide) ?_
          refine r_iload_n C dX12_pass_44 rfl ?_
          refine kX12_255 C (k0) (sX12_canPass (k0) hw) dX12_pass_45 (Nat.le_of_ble_eq_true rfl) rfl (Nat.le_of_ble_eq_true rfl) (fun v2 h3 hw => ?_)
          refine r_if_ne 54 C dX12_pass_48 (by decide) (fun hc => ?_) (fun hc => ?_)
          · replace hw := it_f hc hw
            refine r_aload_n C dX12_pass_54 rfl ?_
            refine r_dup C dX12_pass_55 rfl ?_
            refine gX12_240 C (k0) dX12_pass_56 ?_
            refine r_iload_n C dX12_pass_59 rfl ?_
            refine r_ixor C dX12_pass_60 ?_
            refine pX12_240 C (k0) dX12_pass_61 ?_
            refine r_toph (fun h4 eh4 => ?_)
            replace hw := hw h4 eh4
            refine r_iload_n C dX12_pass_64 rfl ?_
            refine r_bipush (10) C dX12_pass_65 (by decide) ?_
            refine r_irem C dX12_pass_67 (by decide) ?_
            refine r_if_ne 81 C dX12_pass_68 (by decide) (fun hc => ?_) (fun hc => ?_)
            · replace hw := it_f hc hw
              refine r_weak [some (.ref (G.1 a0)), none, none] (lw_k (lw_d (lw_d (lw_n)))) ?_
              exact tX12_pass_81 C (k0) hw
            · replace hw := it_t hc hw
              refine r_aload_n C dX12_pass_71 rfl ?_
              refine r_dup C dX12_pass_72 rfl ?_
              refine gX12_243 C (k0) dX12_pass_73 ?_
              refine r_iload_n C dX12_pass_76 rfl ?_
              refine r_ior C dX12_pass_77 ?_
              refine pX12_243 C (k0) dX12_pass_78 ?_
              refine r_toph (fun h5 eh5 => ?_)
              replace hw := hw h5 eh5
              refine r_weak [some (.ref (G.1 a0)), none, none] (lw_k (lw_d (lw_d (lw_n)))) ?_
              exact tX12_pass_81 C (k0) hw
          · replace hw := it_t hc hw
            refine r_bipush (-2) C dX12_pass_51 (by decide) ?_
            exact r_iret C dX12_pass_53 ⟨_, rfl, hw⟩
        · replace hw := it_t hc hw
          refine r_bipush (-5) C dX12_pass_32 (by decide) ?_
          exact r_iret C dX12_pass_34 ⟨_, rfl, hw⟩
      · replace hw := it_f hc hw
        refine r_iconst (-1) C dX12_pass_21 (by decide) ?_
        exact r_iret C dX12_pass_22 ⟨_, rfl, hw⟩
def fX12_tick_35 (a0 : Nat) (x1 : Int32) (x2 : Int32) (K28 : Int32 → Hp → Prop) (Q : Int32 → Hp → Prop) (K35 : Int32 → Hp → Prop) (x3 : Int32) (h : Hp) : Prop :=
  if (gI h a0 3) ≤ x3 then (∀ h1 : Hp, h1 = sI h a0 7 ((gI h a0 7) + (1 : Int32)) → (∀ v2 : Int32, v2 = x2 + (1 : Int32) → (K28 v2 h1))) else (wX12_waitsIn a0 x3 (gI h a0 7) (gI h a0 8) (gI h a0 9) h (fun v3 => if v3 = 0 then (∀ v4 : Int32, v4 = x3 + (1 : Int32) → (K35 v4 h)) else (vp_in x3 (ln (rf a0 10)) ∧ (vp_in x3 (ln (rf a0 6)) ∧ (vp_in x3 (ln (rf a0 10)) ∧ (∀ h8 : Hp, h8 = sI h (rf a0 10) x3.toNatClampNeg ((gI h (rf a0 10) x3.toNatClampNeg) + (gI h (rf a0 6) x3.toNatClampNeg)) → (∀ v9 : Int32, v9 = x3 + (1 : Int32) → (K35 v9 h8))))))))
def eX12_tick_35 (a0 : Nat) (x1 : Int32) (x2 : Int32) (K28 : Int32 → Hp → Prop) (Q : Int32 → Hp → Prop) (x3 : Int32) (h : Hp) : Prop := ∃ N, lpN (fun (K : Int32 × Hp → Prop) (s : Int32 × Hp) => fX12_tick_35 a0 x1 x2 K28 Q (fun x3 h => K (x3, h)) s.1 s.2) N (x3, h)
theorem iX12_tick_35 {a0 : Nat} {x1 : Int32} {x2 : Int32} {K28 : Int32 → Hp → Prop} {Q : Int32 → Hp → Prop} (I : Int32 → Hp → Prop) (μ : Int32 → Hp → Nat) (hs : ∀ (x3 : Int32) (h : Hp), I x3 h → ∀ K : Int32 → Hp → Prop, (∀ (x3' : Int32) (h' : Hp), I x3' h' → μ x3' h' < μ x3 h → K x3' h') → fX12_tick_35 a0 x1 x2 K28 Q K x3 h) : ∀ (x3 : Int32) (h : Hp), I x3 h → eX12_tick_35 a0 x1 x2 K28 Q x3 h := fun x3 h hI => lp_ind (fun s => I s.1 s.2) (fun s => μ s.1 s.2) (fun s hs' K hK => hs s.1 s.2 hs' _ (fun x3' h' h1 h2 => hK (x3', h') h1 h2)) (x3, h) hI
set_option maxRecDepth 20000 in
theorem tX12_tick_35 {G : GG} {X : XX} {a0 : Nat} {x1 : Int32} {x2 : Int32} {x3 : Int32} {h : Hp}  {K28 : Int32 → Hp → Prop} {Q : Int32 → Hp → Prop} (C : Cx G RX12 cX12_tick 4 (some .int) 1 0 0 X) (k0 : kd a0 = 12) (hK28 : ∀ (y2 : Int32) (h' : Hp), K28 y2 h' → R0 G X 0 0 (ZM G (fun r h' => ∃ v, r = some (.int v) ∧ Q v h') X) 28 [some (.ref (G.1 a0)), some (.int x1), some (.int y2), none] [] h') (hw : eX12_tick_35 a0 x1 x2 K28 Q x3 h) : R0 G X 0 0 (ZM G (fun r h' => ∃ v, r = some (.int v) ∧ Q v h') X) 35 [some (.ref (G.1 a0)), some (.int x1), some (.int x2), some (.int x3)] [] h := by
  obtain ⟨N, hw⟩ := hw
  induction N generalizing x3 h with
  | zero => exact hw.elim
  | succ N ih =>
    obtain ⟨K35, eK⟩ : ∃ K : Int32 → Hp → Prop, K = (fun x3 h => lpN (fun (K : Int32 × Hp → Prop) (s : Int32 × Hp) => fX12_tick_35 a0 x1 x2 K28 Q (fun x3 h => K (x3, h)) s.1 s.2) N (x3, h)) := ⟨_, rfl⟩
    have hw : fX12_tick_35 a0 x1 x2 K28 Q (fun x3 h => lpN (fun (K : Int32 × Hp → Prop) (s : Int32 × Hp) => fX12_tick_35 a0 x1 x2 K28 Q (fun x3 h => K (x3, h)) s.1 s.2) N (x3, h)) x3 h := hw
    have hK35 : ∀ (x3 : Int32) (h : Hp), K35 x3 h → R0 G X 0 0 (ZM G (fun r h' => ∃ v, r = some (.int v) ∧ Q v h') X) 35 [some (.ref (G.1 a0)), some (.int x1), some (.int x2), some (.int x3)] [] h := fun x3 h q => ih (by rw [eK] at q; exact q)
    rw [← eK] at hw
    clear eK ih
    unfold fX12_tick_35 at hw
    refine r_iload_n C dX12_tick_35 rfl ?_
    refine r_aload_n C dX12_tick_36 rfl ?_
    refine gX12_118 C (k0) dX12_tick_37 ?_
    refine r_icmp_ge 84 C dX12_tick_40 (by decide) (fun hc => ?_) (fun hc => ?_)
    · replace hw := it_t hc hw
      refine r_aload_n C dX12_tick_84 rfl ?_
      refine r_dup C dX12_tick_85 rfl ?_
      refine gX12_246 C (k0) dX12_tick_86 ?_
      refine r_iconst (1) C dX12_tick_89 (by decide) ?_
      refine r_iadd C dX12_tick_90 ?_
      refine pX12_246 C (k0) dX12_tick_91 ?_
      refine r_toph (fun h1 eh1 => ?_)
      replace hw := hw h1 eh1
      obtain ⟨v2, ev2⟩ : ∃ v : Int32, v = x2 + (1 : Int32) := ⟨_, rfl⟩
      replace hw := hw v2 ev2
      refine r_iinc v2 [some (.ref (G.1 a0)), some (.int x1), some (.int v2), some (.int x3)] C dX12_tick_94 rfl (by rw [ev2]; rfl) rfl rfl ?_
      refine r_goto 28 C dX12_tick_97 (by decide) ?_
      refine r_weak [some (.ref (G.1 a0)), some (.int x1), some (.int v2), none] (lw_k (lw_k (lw_k (lw_d (lw_n))))) ?_
      exact hK28 _ _ hw
    · replace hw := it_f hc hw
      refine r_aload_n C dX12_tick_43 rfl ?_
      refine r_iload_n C dX12_tick_44 rfl ?_
      refine r_aload_n C dX12_tick_45 rfl ?_
      refine gX12_246 C (k0) dX12_tick_46 ?_
      refine r_aload_n C dX12_tick_49 rfl ?_
      refine gX12_240 C (k0) dX12_tick_50 ?_
      refine r_aload_n C dX12_tick_53 rfl ?_
      refine gX12_243 C (k0) dX12_tick_54 ?_
      refine kX12_249 C (k0) (sX12_waitsIn (k0) hw) dX12_tick_57 (Nat.le_of_ble_eq_true rfl) rfl (Nat.le_of_ble_eq_true rfl) (fun v3 hw => ?_)
      refine r_if_eq 78 C dX12_tick_60 (by decide) (fun hc => ?_) (fun hc => ?_)
      · replace hw := it_t hc hw
        obtain ⟨v4, ev4⟩ : ∃ v : Int32, v = x3 + (1 : Int32) := ⟨_, rfl⟩
        replace hw := hw v4 ev4
        refine r_iinc v4 [some (.ref (G.1 a0)), some (.int x1), some (.int x2), some (.int v4)] C dX12_tick_78 rfl (by rw [ev4]; rfl) rfl rfl ?_
        refine r_goto 35 C dX12_tick_81 (by decide) ?_
        exact hK35 _ _ hw
      · replace hw := it_f hc hw
        refine r_aload_n C dX12_tick_63 rfl ?_
        refine gX12_22 C (k0) dX12_tick_64 ?_
        refine r_iload_n C dX12_tick_67 rfl ?_
        refine r_dup2_11 C dX12_tick_68 rfl rfl ?_
        obtain ⟨hi5, hw⟩ := hw
        refine r_iald C (kr12_10 (k0)) hi5 dX12_tick_69 ?_
        refine r_aload_n C dX12_tick_70 rfl ?_
        refine gX12_19 C (k0) dX12_tick_71 ?_
        refine r_iload_n C dX12_tick_74 rfl ?_
        obtain ⟨hi6, hw⟩ := hw
        refine r_iald C (kr12_6 (k0)) hi6 dX12_tick_75 ?_
        refine r_iadd C dX12_tick_76 ?_
        obtain ⟨hi7, hw⟩ := hw
        refine r_iast C (kr12_10 (k0)) hi7 dX12_tick_77 ?_
        refine r_toph (fun h8 eh8 => ?_)
        replace hw := hw h8 eh8
        obtain ⟨v9, ev9⟩ : ∃ v : Int32, v = x3 + (1 : Int32) := ⟨_, rfl⟩
        replace hw := hw v9 ev9
        refine r_iinc v9 [some (.ref (G.1 a0)), some (.int x1), some (.int x2), some (.int v9)] C dX12_tick_78 rfl (by rw [ev9]; rfl) rfl rfl ?_
        refine r_goto 35 C dX12_tick_81 (by decide) ?_
        exact hK35 _ _ hw
def fX12_tick_28 (a0 : Nat) (x1 : Int32) (Q : Int32 → Hp → Prop) (K28 : Int32 → Hp → Prop) (x2 : Int32) (h : Hp) : Prop :=
  if x1 ≤ x2 then (Q (gI h a0 7) h) else (eX12_tick_35 a0 x1 x2 K28 Q (0 : Int32) h)
def eX12_tick_28 (a0 : Nat) (x1 : Int32) (Q : Int32 → Hp → Prop) (x2 : Int32) (h : Hp) : Prop := ∃ N, lpN (fun (K : Int32 × Hp → Prop) (s : Int32 × Hp) => fX12_tick_28 a0 x1 Q (fun x2 h => K (x2, h)) s.1 s.2) N (x2, h)
theorem iX12_tick_28 {a0 : Nat} {x1 : Int32} {Q : Int32 → Hp → Prop} (I : Int32 → Hp → Prop) (μ : Int32 → Hp → Nat) (hs : ∀ (x2 : Int32) (h : Hp), I x2 h → ∀ K : Int32 → Hp → Prop, (∀ (x2' : Int32) (h' : Hp), I x2' h' → μ x2' h' < μ x2 h → K x2' h') → fX12_tick_28 a0 x1 Q K x2 h) : ∀ (x2 : Int32) (h : Hp), I x2 h → eX12_tick_28 a0 x1 Q x2 h := fun x2 h hI => lp_ind (fun s => I s.1 s.2) (fun s => μ s.1 s.2) (fun s hs' K hK => hs s.1 s.2 hs' _ (fun x2' h' h1 h2 => hK (x2', h') h1 h2)) (x2, h) hI
set_option maxRecDepth 20000 in
theorem tX12_tick_28 {G : GG} {X : XX} {a0 : Nat} {x1 : Int32} {x2 : Int32} {h : Hp}  {Q : Int32 → Hp → Prop} (C : Cx G RX12 cX12_tick 4 (some .int) 1 0 0 X) (k0 : kd a0 = 12) (hw : eX12_tick_28 a0 x1 Q x2 h) : R0 G X 0 0 (ZM G (fun r h' => ∃ v, r = some (.int v) ∧ Q v h') X) 28 [some (.ref (G.1 a0)), some (.int x1), some (.int x2), none] [] h := by
  obtain ⟨N, hw⟩ := hw
  induction N generalizing x2 h with
  | zero => exact hw.elim
  | succ N ih =>
    obtain ⟨K28, eK⟩ : ∃ K : Int32 → Hp → Prop, K = (fun x2 h => lpN (fun (K : Int32 × Hp → Prop) (s : Int32 × Hp) => fX12_tick_28 a0 x1 Q (fun x2 h => K (x2, h)) s.1 s.2) N (x2, h)) := ⟨_, rfl⟩
    have hw : fX12_tick_28 a0 x1 Q (fun x2 h => lpN (fun (K : Int32 × Hp → Prop) (s : Int32 × Hp) => fX12_tick_28 a0 x1 Q (fun x2 h => K (x2, h)) s.1 s.2) N (x2, h)) x2 h := hw
    have hK28 : ∀ (x2 : Int32) (h : Hp), K28 x2 h → R0 G X 0 0 (ZM G (fun r h' => ∃ v, r = some (.int v) ∧ Q v h') X) 28 [some (.ref (G.1 a0)), some (.int x1), some (.int x2), none] [] h := fun x2 h q => ih (by rw [eK] at q; exact q)
    rw [← eK] at hw
    clear eK ih
    unfold fX12_tick_28 at hw
    refine r_iload_n C dX12_tick_28 rfl ?_
    refine r_iload_n C dX12_tick_29 rfl ?_
    refine r_icmp_ge 100 C dX12_tick_30 (by decide) (fun hc => ?_) (fun hc => ?_)
    · replace hw := it_t hc hw
      refine r_aload_n C dX12_tick_100 rfl ?_
      refine gX12_246 C (k0) dX12_tick_101 ?_
      exact r_iret C dX12_tick_104 ⟨_, rfl, hw⟩
    · replace hw := it_f hc hw
      refine r_iconst (0) C dX12_tick_33 (by decide) ?_
      refine r_istore_n [some (.ref (G.1 a0)), some (.int x1), some (.int x2), some (.int (0 : Int32))] C dX12_tick_34 (Nat.le_of_ble_eq_true rfl) rfl rfl ?_
      exact tX12_tick_35 C (k0) hK28 hw
def wX12_tick (a0 : Nat) (x1 : Int32) (h : Hp) (Q : Int32 → Hp → Prop) : Prop :=
  wX12_in x1 (1 : Int32) (60 : Int32) h (fun v1 => if v1 = 0 then (Q (-1 : Int32) h) else (if ((gI h a0 7) + x1) ≤ (60 : Int32) then (eX12_tick_28 a0 x1 Q (0 : Int32) h) else (Q (-5 : Int32) h)))
set_option maxRecDepth 20000 in
theorem sX12_tick {G : GG} {a0 : Nat} {x1 : Int32} {h : Hp} {Q : Int32 → Hp → Prop} (k0 : kd a0 = 12) (hw : wX12_tick a0 x1 h Q) : CI G 1 yX12_tick cX12_tick 4 (some .int) [.ref (G.1 a0), .int x1] h Q := by
  refine CO_of [some (.ref (G.1 a0)), some (.int x1), none, none] (by decide) (Nat.le_of_ble_eq_true rfl) rfl (fun X C => ?_)
  unfold wX12_tick at hw
  refine r_iload_n C dX12_tick_0 rfl ?_
  refine r_iconst (1) C dX12_tick_1 (by decide) ?_
  refine r_bipush (60) C dX12_tick_2 (by decide) ?_
  refine kX12_114 C (sX12_in hw) dX12_tick_4 (Nat.le_of_ble_eq_true rfl) rfl (Nat.le_of_ble_eq_true rfl) (fun v1 hw => ?_)
  refine r_if_ne 12 C dX12_tick_7 (by decide) (fun hc => ?_) (fun hc => ?_)
  · replace hw := it_f hc hw
    refine r_aload_n C dX12_tick_12 rfl ?_
    refine gX12_246 C (k0) dX12_tick_13 ?_
    refine r_iload_n C dX12_tick_16 rfl ?_
    refine r_iadd C dX12_tick_17 ?_
    refine r_bipush (60) C dX12_tick_18 (by decide) ?_
    refine r_icmp_le 26 C dX12_tick_20 (by decide) (fun hc => ?_) (fun hc => ?_)
    · replace hw := it_t hc hw
      refine r_iconst (0) C dX12_tick_26 (by decide) ?_
      refine r_istore_n [some (.ref (G.1 a0)), some (.int x1), some (.int (0 : Int32)), none] C dX12_tick_27 (Nat.le_of_ble_eq_true rfl) rfl rfl ?_
      exact tX12_tick_28 C (k0) hw
    · replace hw := it_f hc hw
      refine r_bipush (-5) C dX12_tick_23 (by decide) ?_
      exact r_iret C dX12_tick_25 ⟨_, rfl, hw⟩
  · replace hw := it_t hc hw
    refine r_iconst (-1) C dX12_tick_10 (by decide) ?_
    exact r_iret C dX12_tick_11 ⟨_, rfl, hw⟩
abbrev TG3 : Type := (Nat → Int32 → Hp → (Int32 → Prop) → Prop)
def HG3 (G : GG) (r : TG3) (n : Nat) : Prop := (∀ (a0 : Nat) (x1 : Int32) (h : Hp) (Q : (Int32 → Prop)), kd a0 = 12 → r a0 x1 h Q → PI G (0 + n) yX12_isSum cX12_isSum 3 (some .boolean) [.ref (G.1 a0), .int x1] h Q)
def fX12_isSum_8 (a0 : Nat) (x1 : Int32) (h : Hp) (r : TG3) (Q : Int32 → Prop) (K8 : Int32 → Prop) (x2 : Int32) : Prop :=
  if (gI h a0 1) ≤ x2 then (Q (0 : Int32)) else (vp_in x2 (ln (rf a0 2)) ∧ (if x1 < (gI h (rf a0 2) x2.toNatClampNeg) then (∀ v2 : Int32, v2 = x2 + (1 : Int32) → (K8 v2)) else (vp_in x2 (ln (rf a0 2)) ∧ (r a0 (x1 - (gI h (rf a0 2) x2.toNatClampNeg)) h (fun v4 => if v4 = 0 then (∀ v5 : Int32, v5 = x2 + (1 : Int32) → (K8 v5)) else (Q (1 : Int32)))))))
def eX12_isSum_8 (a0 : Nat) (x1 : Int32) (h : Hp) (r : TG3) (Q : Int32 → Prop) (x2 : Int32) : Prop := ∃ N, lpN (fun (K : Int32 → Prop) (s : Int32) => fX12_isSum_8 a0 x1 h r Q (fun x2 => K x2) s) N x2
theorem iX12_isSum_8 {a0 : Nat} {x1 : Int32} {h : Hp} {r : TG3} {Q : Int32 → Prop} (I : Int32 → Prop) (μ : Int32 → Nat) (hs : ∀ (x2 : Int32), I x2 → ∀ K : Int32 → Prop, (∀ (x2' : Int32), I x2' → μ x2' < μ x2 → K x2') → fX12_isSum_8 a0 x1 h r Q K x2) : ∀ (x2 : Int32), I x2 → eX12_isSum_8 a0 x1 h r Q x2 := fun x2 hI => lp_ind (fun s => I s) (fun s => μ s) (fun s hs' K hK => hs s hs' _ (fun x2' h1 h2 => hK x2' h1 h2)) x2 hI
set_option maxRecDepth 20000 in
theorem tX12_isSum_8 {G : GG} {X : XX} {n : Nat} {r : TG3} {a0 : Nat} {x1 : Int32} {x2 : Int32} {h : Hp}  {Q : Int32 → Prop} (C : Cx G RX12 cX12_isSum 3 (some .boolean) (0 + n + 1) 0 0 X) (hr : HG3 G r n) (k0 : kd a0 = 12) (hw : eX12_isSum_8 a0 x1 h r Q x2) : R0 G X 0 0 (ZM G (fun r h' => ∃ v, r = some (.int v) ∧ h' = h ∧ Q v) X) 8 [some (.ref (G.1 a0)), some (.int x1), some (.int x2)] [] h := by
  obtain ⟨N, hw⟩ := hw
  induction N generalizing x2 with
  | zero => exact hw.elim
  | succ N ih =>
    obtain ⟨K8, eK⟩ : ∃ K : Int32 → Prop, K = (fun x2 => lpN (fun (K : Int32 → Prop) (s : Int32) => fX12_isSum_8 a0 x1 h r Q (fun x2 => K x2) s) N x2) := ⟨_, rfl⟩
    have hw : fX12_isSum_8 a0 x1 h r Q (fun x2 => lpN (fun (K : Int32 → Prop) (s : Int32) => fX12_isSum_8 a0 x1 h r Q (fun x2 => K x2) s) N x2) x2 := hw
    have hK8 : ∀ (x2 : Int32), K8 x2 → R0 G X 0 0 (ZM G (fun r h' => ∃ v, r = some (.int v) ∧ h' = h ∧ Q v) X) 8 [some (.ref (G.1 a0)), some (.int x1), some (.int x2)] [] h := fun x2 q => ih (by rw [eK] at q; exact q)
    rw [← eK] at hw
    clear eK ih
    unfold fX12_isSum_8 at hw
    refine r_iload_n C dX12_isSum_8 rfl ?_
    refine r_aload_n C dX12_isSum_9 rfl ?_
    refine gX12_111 C (k0) dX12_isSum_10 ?_
    refine r_icmp_ge 49 C dX12_isSum_13 (by decide) (fun hc => ?_) (fun hc => ?_)
    · replace hw := it_t hc hw
      refine r_iconst (0) C dX12_isSum_49 (by decide) ?_
      exact r_zret C dX12_isSum_50 rfl ⟨_, rfl, rfl, hw⟩
    · replace hw := it_f hc hw
      refine r_aload_n C dX12_isSum_16 rfl ?_
      refine gX12_7 C (k0) dX12_isSum_17 ?_
      refine r_iload_n C dX12_isSum_20 rfl ?_
      obtain ⟨hi1, hw⟩ := hw
      refine r_iald C (kr12_2 (k0)) hi1 dX12_isSum_21 ?_
      refine r_iload_n C dX12_isSum_22 rfl ?_
      refine r_icmp_gt 43 C dX12_isSum_23 (by decide) (fun hc => ?_) (fun hc => ?_)
      · replace hw := it_t hc hw
        obtain ⟨v2, ev2⟩ : ∃ v : Int32, v = x2 + (1 : Int32) := ⟨_, rfl⟩
        replace hw := hw v2 ev2
        refine r_iinc v2 [some (.ref (G.1 a0)), some (.int x1), some (.int v2)] C dX12_isSum_43 rfl (by rw [ev2]; rfl) rfl rfl ?_
        refine r_goto 8 C dX12_isSum_46 (by decide) ?_
        exact hK8 _ hw
      · replace hw := it_f hc hw
        refine r_aload_n C dX12_isSum_26 rfl ?_
        refine r_iload_n C dX12_isSum_27 rfl ?_
        refine r_aload_n C dX12_isSum_28 rfl ?_
        refine gX12_7 C (k0) dX12_isSum_29 ?_
        refine r_iload_n C dX12_isSum_32 rfl ?_
        obtain ⟨hi3, hw⟩ := hw
        refine r_iald C (kr12_2 (k0)) hi3 dX12_isSum_33 ?_
        refine r_isub C dX12_isSum_34 ?_
        refine kX12_258 C (k0) (hr _ _ _ _ (k0) hw) dX12_isSum_35 (by omega) rfl (Nat.le_of_ble_eq_true rfl) (fun v4 hw => ?_)
        refine r_if_eq 43 C dX12_isSum_38 (by decide) (fun hc => ?_) (fun hc => ?_)
        · replace hw := it_t hc hw
          obtain ⟨v5, ev5⟩ : ∃ v : Int32, v = x2 + (1 : Int32) := ⟨_, rfl⟩
          replace hw := hw v5 ev5
          refine r_iinc v5 [some (.ref (G.1 a0)), some (.int x1), some (.int v5)] C dX12_isSum_43 rfl (by rw [ev5]; rfl) rfl rfl ?_
          refine r_goto 8 C dX12_isSum_46 (by decide) ?_
          exact hK8 _ hw
        · replace hw := it_f hc hw
          refine r_iconst (1) C dX12_isSum_41 (by decide) ?_
          exact r_zret C dX12_isSum_42 rfl ⟨_, rfl, rfl, hw⟩
def bX12_isSum (r : TG3) (a0 : Nat) (x1 : Int32) (h : Hp) (Q : Int32 → Prop) : Prop :=
  if x1 = 0 then (Q (1 : Int32)) else (eX12_isSum_8 a0 x1 h r Q (0 : Int32))
set_option maxRecDepth 20000 in
theorem uX12_isSum {G : GG} {n : Nat} {r : TG3} {a0 : Nat} {x1 : Int32} {h : Hp} {Q : Int32 → Prop} (hr : HG3 G r n) (k0 : kd a0 = 12) (hw : bX12_isSum r a0 x1 h Q) : PI G (0 + n + 1) yX12_isSum cX12_isSum 3 (some .boolean) [.ref (G.1 a0), .int x1] h Q := by
  refine CO_of [some (.ref (G.1 a0)), some (.int x1), none] (by decide) (Nat.le_of_ble_eq_true rfl) rfl (fun X C => ?_)
  unfold bX12_isSum at hw
  refine r_iload_n C dX12_isSum_0 rfl ?_
  refine r_if_ne 6 C dX12_isSum_1 (by decide) (fun hc => ?_) (fun hc => ?_)
  · replace hw := it_f hc hw
    refine r_iconst (0) C dX12_isSum_6 (by decide) ?_
    refine r_istore_n [some (.ref (G.1 a0)), some (.int x1), some (.int (0 : Int32))] C dX12_isSum_7 (Nat.le_of_ble_eq_true rfl) rfl rfl ?_
    exact tX12_isSum_8 C hr (k0) hw
  · replace hw := it_t hc hw
    refine r_iconst (1) C dX12_isSum_4 (by decide) ?_
    exact r_zret C dX12_isSum_5 rfl ⟨_, rfl, rfl, hw⟩
def wG3 : Nat → TG3
  | 0 => fun _ _ _ _ => False
  | n + 1 => bX12_isSum (wG3 n)
theorem sG3 (G : GG) : ∀ n, HG3 G (wG3 n) n := by
  intro n
  induction n with
  | zero => exact fun _ _ _ _ k0 hw => False.elim hw
  | succ n ih => exact fun _ _ _ _ k0 hw => uX12_isSum ih k0 hw
