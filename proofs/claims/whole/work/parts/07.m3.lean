def jX12_isFirst_72 (x1 : Int32) (x2 : Int32) (x5 : Int32) (s0 : Int32) (h : Hp) (Q : Int32 → Prop) : Prop :=
  if x5 < s0 then (Q (1 : Int32)) else (if x5 = s0 then (if x2 ≤ x1 then (Q (0 : Int32)) else (Q (1 : Int32))) else (Q (0 : Int32)))
set_option maxRecDepth 20000 in
theorem tX12_isFirst_72 {G : GG} {X : XX} {x1 : Int32} {x2 : Int32} {x5 : Int32} {s0 : Int32} {h : Hp}  {Q : Int32 → Prop} (C : Cx G RX12 cX12_isFirst 7 (some .boolean) 0 0 0 X) (hw : jX12_isFirst_72 x1 x2 x5 s0 h Q) : R0 G X 0 0 (ZM G (fun r h' => ∃ v, r = some (.int v) ∧ h' = h ∧ Q v) X) 72 [none, some (.int x1), some (.int x2), none, none, some (.int x5), none] [.int s0] h := by
  unfold jX12_isFirst_72 at hw
  refine r_istore [none, some (.int x1), some (.int x2), none, none, some (.int x5), some (.int s0)] C dX12_isFirst_72 (Nat.le_of_ble_eq_true rfl) rfl rfl ?_
  refine r_iload C dX12_isFirst_74 rfl ?_
  refine r_iload C dX12_isFirst_76 rfl ?_
  refine r_icmp_lt 93 C dX12_isFirst_78 (by decide) (fun hc => ?_) (fun hc => ?_)
  · replace hw := it_t hc hw
    refine r_iconst (1) C dX12_isFirst_93 (by decide) ?_
    refine r_goto 98 C dX12_isFirst_94 (by decide) ?_
    exact r_zret C dX12_isFirst_98 rfl ⟨_, rfl, rfl, hw⟩
  · replace hw := it_f hc hw
    refine r_iload C dX12_isFirst_81 rfl ?_
    refine r_iload C dX12_isFirst_83 rfl ?_
    refine r_icmp_ne 97 C dX12_isFirst_85 (by decide) (fun hc => ?_) (fun hc => ?_)
    · replace hw := it_f hc hw
      refine r_iconst (0) C dX12_isFirst_97 (by decide) ?_
      exact r_zret C dX12_isFirst_98 rfl ⟨_, rfl, rfl, hw⟩
    · replace hw := it_t hc hw
      refine r_iload_n C dX12_isFirst_88 rfl ?_
      refine r_iload_n C dX12_isFirst_89 rfl ?_
      refine r_icmp_ge 97 C dX12_isFirst_90 (by decide) (fun hc => ?_) (fun hc => ?_)
      · replace hw := it_t hc hw
        refine r_iconst (0) C dX12_isFirst_97 (by decide) ?_
        exact r_zret C dX12_isFirst_98 rfl ⟨_, rfl, rfl, hw⟩
      · replace hw := it_f hc hw
        refine r_iconst (1) C dX12_isFirst_93 (by decide) ?_
        refine r_goto 98 C dX12_isFirst_94 (by decide) ?_
        exact r_zret C dX12_isFirst_98 rfl ⟨_, rfl, rfl, hw⟩
def jX12_isFirst_35 (a0 : Nat) (x1 : Int32) (x2 : Int32) (x3 : Int32) (x4 : Int32) (s0 : Int32) (h : Hp) (Q : Int32 → Prop) : Prop :=
  if x4 = (1 : Int32) then (vp_in x2 (ln (rf a0 6)) ∧ (jX12_isFirst_72 x1 x2 s0 (-(gI h (rf a0 6) x2.toNatClampNeg)) h Q)) else (if x3 = 0 then (vp_in x2 (ln (rf a0 4)) ∧ (jX12_isFirst_72 x1 x2 s0 (gI h (rf a0 4) x2.toNatClampNeg) h Q)) else (vp_in x2 (ln (rf a0 5)) ∧ (jX12_isFirst_72 x1 x2 s0 (gI h (rf a0 5) x2.toNatClampNeg) h Q)))
set_option maxRecDepth 20000 in
theorem tX12_isFirst_35 {G : GG} {X : XX} {a0 : Nat} {x1 : Int32} {x2 : Int32} {x3 : Int32} {x4 : Int32} {s0 : Int32} {h : Hp}  {Q : Int32 → Prop} (C : Cx G RX12 cX12_isFirst 7 (some .boolean) 0 0 0 X) (k0 : kd a0 = 12) (hw : jX12_isFirst_35 a0 x1 x2 x3 x4 s0 h Q) : R0 G X 0 0 (ZM G (fun r h' => ∃ v, r = some (.int v) ∧ h' = h ∧ Q v) X) 35 [some (.ref (G.1 a0)), some (.int x1), some (.int x2), some (.int x3), some (.int x4), none, none] [.int s0] h := by
  unfold jX12_isFirst_35 at hw
  refine r_istore [some (.ref (G.1 a0)), some (.int x1), some (.int x2), some (.int x3), some (.int x4), some (.int s0), none] C dX12_isFirst_35 (Nat.le_of_ble_eq_true rfl) rfl rfl ?_
  refine r_iload C dX12_isFirst_37 rfl ?_
  refine r_iconst (1) C dX12_isFirst_39 (by decide) ?_
  refine r_icmp_ne 53 C dX12_isFirst_40 (by decide) (fun hc => ?_) (fun hc => ?_)
  · replace hw := it_f hc hw
    refine r_iload_n C dX12_isFirst_53 rfl ?_
    refine r_if_ne 66 C dX12_isFirst_54 (by decide) (fun hc => ?_) (fun hc => ?_)
    · replace hw := it_f hc hw
      refine r_aload_n C dX12_isFirst_66 rfl ?_
      refine gX12_16 C (k0) dX12_isFirst_67 ?_
      refine r_iload_n C dX12_isFirst_70 rfl ?_
      obtain ⟨hi1, hw⟩ := hw
      refine r_iald C (kr12_5 (k0)) hi1 dX12_isFirst_71 ?_
      refine r_weak [none, some (.int x1), some (.int x2), none, none, some (.int s0), none] (lw_d (lw_k (lw_k (lw_d (lw_d (lw_k (lw_k (lw_n)))))))) ?_
      exact tX12_isFirst_72 C  hw
    · replace hw := it_t hc hw
      refine r_aload_n C dX12_isFirst_57 rfl ?_
      refine gX12_13 C (k0) dX12_isFirst_58 ?_
      refine r_iload_n C dX12_isFirst_61 rfl ?_
      obtain ⟨hi2, hw⟩ := hw
      refine r_iald C (kr12_4 (k0)) hi2 dX12_isFirst_62 ?_
      refine r_goto 72 C dX12_isFirst_63 (by decide) ?_
      refine r_weak [none, some (.int x1), some (.int x2), none, none, some (.int s0), none] (lw_d (lw_k (lw_k (lw_d (lw_d (lw_k (lw_k (lw_n)))))))) ?_
      exact tX12_isFirst_72 C  hw
  · replace hw := it_t hc hw
    refine r_aload_n C dX12_isFirst_43 rfl ?_
    refine gX12_19 C (k0) dX12_isFirst_44 ?_
    refine r_iload_n C dX12_isFirst_47 rfl ?_
    obtain ⟨hi3, hw⟩ := hw
    refine r_iald C (kr12_6 (k0)) hi3 dX12_isFirst_48 ?_
    refine r_ineg C dX12_isFirst_49 ?_
    refine r_goto 72 C dX12_isFirst_50 (by decide) ?_
    refine r_weak [none, some (.int x1), some (.int x2), none, none, some (.int s0), none] (lw_d (lw_k (lw_k (lw_d (lw_d (lw_k (lw_k (lw_n)))))))) ?_
    exact tX12_isFirst_72 C  hw
def wX12_isFirst (a0 : Nat) (x1 : Int32) (x2 : Int32) (x3 : Int32) (x4 : Int32) (h : Hp) (Q : Int32 → Prop) : Prop :=
  if x4 = (1 : Int32) then (vp_in x1 (ln (rf a0 6)) ∧ (jX12_isFirst_35 a0 x1 x2 x3 x4 (-(gI h (rf a0 6) x1.toNatClampNeg)) h Q)) else (if x3 = 0 then (vp_in x1 (ln (rf a0 4)) ∧ (jX12_isFirst_35 a0 x1 x2 x3 x4 (gI h (rf a0 4) x1.toNatClampNeg) h Q)) else (vp_in x1 (ln (rf a0 5)) ∧ (jX12_isFirst_35 a0 x1 x2 x3 x4 (gI h (rf a0 5) x1.toNatClampNeg) h Q)))
set_option maxRecDepth 20000 in
theorem sX12_isFirst {G : GG} {a0 : Nat} {x1 : Int32} {x2 : Int32} {x3 : Int32} {x4 : Int32} {h : Hp} {Q : Int32 → Prop} (k0 : kd a0 = 12) (hw : wX12_isFirst a0 x1 x2 x3 x4 h Q) : PI G 0 yX12_isFirst cX12_isFirst 7 (some .boolean) [.ref (G.1 a0), .int x1, .int x2, .int x3, .int x4] h Q := by
  refine CO_of [some (.ref (G.1 a0)), some (.int x1), some (.int x2), some (.int x3), some (.int x4), none, none] (by decide) (Nat.le_of_ble_eq_true rfl) rfl (fun X C => ?_)
  unfold wX12_isFirst at hw
  refine r_iload C dX12_isFirst_0 rfl ?_
  refine r_iconst (1) C dX12_isFirst_2 (by decide) ?_
  refine r_icmp_ne 16 C dX12_isFirst_3 (by decide) (fun hc => ?_) (fun hc => ?_)
  · replace hw := it_f hc hw
    refine r_iload_n C dX12_isFirst_16 rfl ?_
    refine r_if_ne 29 C dX12_isFirst_17 (by decide) (fun hc => ?_) (fun hc => ?_)
    · replace hw := it_f hc hw
      refine r_aload_n C dX12_isFirst_29 rfl ?_
      refine gX12_16 C (k0) dX12_isFirst_30 ?_
      refine r_iload_n C dX12_isFirst_33 rfl ?_
      obtain ⟨hi1, hw⟩ := hw
      refine r_iald C (kr12_5 (k0)) hi1 dX12_isFirst_34 ?_
      exact tX12_isFirst_35 C (k0) hw
    · replace hw := it_t hc hw
      refine r_aload_n C dX12_isFirst_20 rfl ?_
      refine gX12_13 C (k0) dX12_isFirst_21 ?_
      refine r_iload_n C dX12_isFirst_24 rfl ?_
      obtain ⟨hi2, hw⟩ := hw
      refine r_iald C (kr12_4 (k0)) hi2 dX12_isFirst_25 ?_
      refine r_goto 35 C dX12_isFirst_26 (by decide) ?_
      exact tX12_isFirst_35 C (k0) hw
  · replace hw := it_t hc hw
    refine r_aload_n C dX12_isFirst_6 rfl ?_
    refine gX12_19 C (k0) dX12_isFirst_7 ?_
    refine r_iload_n C dX12_isFirst_10 rfl ?_
    obtain ⟨hi3, hw⟩ := hw
    refine r_iald C (kr12_6 (k0)) hi3 dX12_isFirst_11 ?_
    refine r_ineg C dX12_isFirst_12 ?_
    refine r_goto 35 C dX12_isFirst_13 (by decide) ?_
    exact tX12_isFirst_35 C (k0) hw
def fX12_firstOnes_112 (a0 : Nat) (x1 : Int32) (x2 : Int32) (x4 : Int32) (x5 : Int32) (x6 : Int32) (x7 : Int32) (h : Hp) (K95 : Int32 → Int32 → Prop) (Q : Int32 → Hp → Prop) (K112 : Int32 → Int32 → Prop) (x8 : Int32) (x9 : Int32) : Prop :=
  if (gI h a0 3) ≤ x9 then (∀ v1 : Int32, v1 = (x6 ||| (shl (1 : Int32) x8)) → (∀ v2 : Int32, v2 = x7 + (1 : Int32) → (K95 v1 v2))) else (if ((shr x5 x9) &&& (1 : Int32)) = (1 : Int32) then (if ((shr x6 x9) &&& (1 : Int32)) = 0 then (if x8 < 0 then (∀ v5 : Int32, v5 = x9 + (1 : Int32) → (K112 x9 v5)) else (wX12_isFirst a0 x9 x8 x2 x4 h (fun v6 => if v6 = 0 then (∀ v7 : Int32, v7 = x9 + (1 : Int32) → (K112 x8 v7)) else (∀ v8 : Int32, v8 = x9 + (1 : Int32) → (K112 x9 v8))))) else (∀ v4 : Int32, v4 = x9 + (1 : Int32) → (K112 x8 v4))) else (∀ v3 : Int32, v3 = x9 + (1 : Int32) → (K112 x8 v3)))
def eX12_firstOnes_112 (a0 : Nat) (x1 : Int32) (x2 : Int32) (x4 : Int32) (x5 : Int32) (x6 : Int32) (x7 : Int32) (h : Hp) (K95 : Int32 → Int32 → Prop) (Q : Int32 → Hp → Prop) (x8 : Int32) (x9 : Int32) : Prop := ∃ N, lpN (fun (K : Int32 × Int32 → Prop) (s : Int32 × Int32) => fX12_firstOnes_112 a0 x1 x2 x4 x5 x6 x7 h K95 Q (fun x8 x9 => K (x8, x9)) s.1 s.2) N (x8, x9)
theorem iX12_firstOnes_112 {a0 : Nat} {x1 : Int32} {x2 : Int32} {x4 : Int32} {x5 : Int32} {x6 : Int32} {x7 : Int32} {h : Hp} {K95 : Int32 → Int32 → Prop} {Q : Int32 → Hp → Prop} (I : Int32 → Int32 → Prop) (μ : Int32 → Int32 → Nat) (hs : ∀ (x8 : Int32) (x9 : Int32), I x8 x9 → ∀ K : Int32 → Int32 → Prop, (∀ (x8' : Int32) (x9' : Int32), I x8' x9' → μ x8' x9' < μ x8 x9 → K x8' x9') → fX12_firstOnes_112 a0 x1 x2 x4 x5 x6 x7 h K95 Q K x8 x9) : ∀ (x8 : Int32) (x9 : Int32), I x8 x9 → eX12_firstOnes_112 a0 x1 x2 x4 x5 x6 x7 h K95 Q x8 x9 := fun x8 x9 hI => lp_ind (fun s => I s.1 s.2) (fun s => μ s.1 s.2) (fun s hs' K hK => hs s.1 s.2 hs' _ (fun x8' x9' h1 h2 => hK (x8', x9') h1 h2)) (x8, x9) hI
set_option maxRecDepth 20000 in
theorem tX12_firstOnes_112 {G : GG} {X : XX} {a0 : Nat} {x1 : Int32} {x2 : Int32} {x4 : Int32} {x5 : Int32} {x6 : Int32} {x7 : Int32} {x8 : Int32} {x9 : Int32} {h : Hp}  {K95 : Int32 → Int32 → Prop} {Q : Int32 → Hp → Prop} (C : Cx G RX12 cX12_firstOnes 10 (some .int) 4 0 0 X) (k0 : kd a0 = 12) (hK95 : ∀ (y6 : Int32) (y7 : Int32), K95 y6 y7 → R0 G X 0 0 (ZM G (fun r h' => ∃ v, r = some (.int v) ∧ Q v h') X) 95 [some (.ref (G.1 a0)), some (.int x1), some (.int x2), none, some (.int x4), some (.int x5), some (.int y6), some (.int y7), none, none] [] h) (hw : eX12_firstOnes_112 a0 x1 x2 x4 x5 x6 x7 h K95 Q x8 x9) : R0 G X 0 0 (ZM G (fun r h' => ∃ v, r = some (.int v) ∧ Q v h') X) 112 [some (.ref (G.1 a0)), some (.int x1), some (.int x2), none, some (.int x4), some (.int x5), some (.int x6), some (.int x7), some (.int x8), some (.int x9)] [] h := by
  obtain ⟨N, hw⟩ := hw
  induction N generalizing x8 x9 with
  | zero => exact hw.elim
  | succ N ih =>
    obtain ⟨K112, eK⟩ : ∃ K : Int32 → Int32 → Prop, K = (fun x8 x9 => lpN (fun (K : Int32 × Int32 → Prop) (s : Int32 × Int32) => fX12_firstOnes_112 a0 x1 x2 x4 x5 x6 x7 h K95 Q (fun x8 x9 => K (x8, x9)) s.1 s.2) N (x8, x9)) := ⟨_, rfl⟩
    have hw : fX12_firstOnes_112 a0 x1 x2 x4 x5 x6 x7 h K95 Q (fun x8 x9 => lpN (fun (K : Int32 × Int32 → Prop) (s : Int32 × Int32) => fX12_firstOnes_112 a0 x1 x2 x4 x5 x6 x7 h K95 Q (fun x8 x9 => K (x8, x9)) s.1 s.2) N (x8, x9)) x8 x9 := hw
    have hK112 : ∀ (x8 : Int32) (x9 : Int32), K112 x8 x9 → R0 G X 0 0 (ZM G (fun r h' => ∃ v, r = some (.int v) ∧ Q v h') X) 112 [some (.ref (G.1 a0)), some (.int x1), some (.int x2), none, some (.int x4), some (.int x5), some (.int x6), some (.int x7), some (.int x8), some (.int x9)] [] h := fun x8 x9 q => ih (by rw [eK] at q; exact q)
    rw [← eK] at hw
    clear eK ih
    unfold fX12_firstOnes_112 at hw
    refine r_iload C dX12_firstOnes_112 rfl ?_
    refine r_aload_n C dX12_firstOnes_114 rfl ?_
    refine gX12_118 C (k0) dX12_firstOnes_115 ?_
    refine r_icmp_ge 171 C dX12_firstOnes_118 (by decide) (fun hc => ?_) (fun hc => ?_)
    · replace hw := it_t hc hw
      refine r_iload C dX12_firstOnes_171 rfl ?_
      refine r_iconst (1) C dX12_firstOnes_173 (by decide) ?_
      refine r_iload C dX12_firstOnes_174 rfl ?_
      refine r_ishl C dX12_firstOnes_176 ?_
      refine r_ior C dX12_firstOnes_177 ?_
      refine r_topi (fun v1 ev1 => ?_)
      replace hw := hw v1 ev1
      refine r_istore [some (.ref (G.1 a0)), some (.int x1), some (.int x2), none, some (.int x4), some (.int x5), some (.int v1), some (.int x7), some (.int x8), some (.int x9)] C dX12_firstOnes_178 (Nat.le_of_ble_eq_true rfl) rfl rfl ?_
      obtain ⟨v2, ev2⟩ : ∃ v : Int32, v = x7 + (1 : Int32) := ⟨_, rfl⟩
      replace hw := hw v2 ev2
      refine r_iinc v2 [some (.ref (G.1 a0)), some (.int x1), some (.int x2), none, some (.int x4), some (.int x5), some (.int v1), some (.int v2), some (.int x8), some (.int x9)] C dX12_firstOnes_180 rfl (by rw [ev2]; rfl) rfl rfl ?_
      refine r_goto 95 C dX12_firstOnes_183 (by decide) ?_
      refine r_weak [some (.ref (G.1 a0)), some (.int x1), some (.int x2), none, some (.int x4), some (.int x5), some (.int v1), some (.int v2), none, none] (lw_k (lw_k (lw_k (lw_k (lw_k (lw_k (lw_k (lw_k (lw_d (lw_d (lw_n))))))))))) ?_
      exact hK95 _ _ hw
    · replace hw := it_f hc hw
      refine r_iload C dX12_firstOnes_121 rfl ?_
      refine r_iload C dX12_firstOnes_123 rfl ?_
      refine r_ishr C dX12_firstOnes_125 ?_
      refine r_iconst (1) C dX12_firstOnes_126 (by decide) ?_
      refine r_iand C dX12_firstOnes_127 ?_
      refine r_iconst (1) C dX12_firstOnes_128 (by decide) ?_
      refine r_icmp_ne 165 C dX12_firstOnes_129 (by decide) (fun hc => ?_) (fun hc => ?_)
      · replace hw := it_f hc hw
        obtain ⟨v3, ev3⟩ : ∃ v : Int32, v = x9 + (1 : Int32) := ⟨_, rfl⟩
        replace hw := hw v3 ev3
        refine r_iinc v3 [some (.ref (G.1 a0)), some (.int x1), some (.int x2), none, some (.int x4), some (.int x5), some (.int x6), some (.int x7), some (.int x8), some (.int v3)] C dX12_firstOnes_165 rfl (by rw [ev3]; rfl) rfl rfl ?_
        refine r_goto 112 C dX12_firstOnes_168 (by decide) ?_
        exact hK112 _ _ hw
      · replace hw := it_t hc hw
        refine r_iload C dX12_firstOnes_132 rfl ?_
        refine r_iload C dX12_firstOnes_134 rfl ?_
        refine r_ishr C dX12_firstOnes_136 ?_
        refine r_iconst (1) C dX12_firstOnes_137 (by decide) ?_
        refine r_iand C dX12_firstOnes_138 ?_
        refine r_if_ne 165 C dX12_firstOnes_139 (by decide) (fun hc => ?_) (fun hc => ?_)
        · replace hw := it_f hc hw
          obtain ⟨v4, ev4⟩ : ∃ v : Int32, v = x9 + (1 : Int32) := ⟨_, rfl⟩
          replace hw := hw v4 ev4
          refine r_iinc v4 [some (.ref (G.1 a0)), some (.int x1), some (.int x2), none, some (.int x4), some (.int x5), some (.int x6), some (.int x7), some (.int x8), some (.int v4)] C dX12_firstOnes_165 rfl (by rw [ev4]; rfl) rfl rfl ?_
          refine r_goto 112 C dX12_firstOnes_168 (by decide) ?_
          exact hK112 _ _ hw
        · replace hw := it_t hc hw
          refine r_iload C dX12_firstOnes_142 rfl ?_
          refine r_if_lt 161 C dX12_firstOnes_144 (by decide) (fun hc => ?_) (fun hc => ?_)
          · replace hw := it_t hc hw
            refine r_iload C dX12_firstOnes_161 rfl ?_
            refine r_istore [some (.ref (G.1 a0)), some (.int x1), some (.int x2), none, some (.int x4), some (.int x5), some (.int x6), some (.int x7), some (.int x9), some (.int x9)] C dX12_firstOnes_163 (Nat.le_of_ble_eq_true rfl) rfl rfl ?_
            obtain ⟨v5, ev5⟩ : ∃ v : Int32, v = x9 + (1 : Int32) := ⟨_, rfl⟩
            replace hw := hw v5 ev5
            refine r_iinc v5 [some (.ref (G.1 a0)), some (.int x1), some (.int x2), none, some (.int x4), some (.int x5), some (.int x6), some (.int x7), some (.int x9), some (.int v5)] C dX12_firstOnes_165 rfl (by rw [ev5]; rfl) rfl rfl ?_
            refine r_goto 112 C dX12_firstOnes_168 (by decide) ?_
            exact hK112 _ _ hw
          · replace hw := it_f hc hw
            refine r_aload_n C dX12_firstOnes_147 rfl ?_
            refine r_iload C dX12_firstOnes_148 rfl ?_
            refine r_iload C dX12_firstOnes_150 rfl ?_
            refine r_iload_n C dX12_firstOnes_152 rfl ?_
            refine r_iload C dX12_firstOnes_153 rfl ?_
            refine kX12_267 C (k0) (sX12_isFirst (k0) hw) dX12_firstOnes_155 (Nat.le_of_ble_eq_true rfl) rfl (Nat.le_of_ble_eq_true rfl) (fun v6 hw => ?_)
            refine r_if_eq 165 C dX12_firstOnes_158 (by decide) (fun hc => ?_) (fun hc => ?_)
            · replace hw := it_t hc hw
              obtain ⟨v7, ev7⟩ : ∃ v : Int32, v = x9 + (1 : Int32) := ⟨_, rfl⟩
              replace hw := hw v7 ev7
              refine r_iinc v7 [some (.ref (G.1 a0)), some (.int x1), some (.int x2), none, some (.int x4), some (.int x5), some (.int x6), some (.int x7), some (.int x8), some (.int v7)] C dX12_firstOnes_165 rfl (by rw [ev7]; rfl) rfl rfl ?_
              refine r_goto 112 C dX12_firstOnes_168 (by decide) ?_
              exact hK112 _ _ hw
            · replace hw := it_f hc hw
              refine r_iload C dX12_firstOnes_161 rfl ?_
              refine r_istore [some (.ref (G.1 a0)), some (.int x1), some (.int x2), none, some (.int x4), some (.int x5), some (.int x6), some (.int x7), some (.int x9), some (.int x9)] C dX12_firstOnes_163 (Nat.le_of_ble_eq_true rfl) rfl rfl ?_
              obtain ⟨v8, ev8⟩ : ∃ v : Int32, v = x9 + (1 : Int32) := ⟨_, rfl⟩
              replace hw := hw v8 ev8
              refine r_iinc v8 [some (.ref (G.1 a0)), some (.int x1), some (.int x2), none, some (.int x4), some (.int x5), some (.int x6), some (.int x7), some (.int x9), some (.int v8)] C dX12_firstOnes_165 rfl (by rw [ev8]; rfl) rfl rfl ?_
              refine r_goto 112 C dX12_firstOnes_168 (by decide) ?_
              exact hK112 _ _ hw
def fX12_firstOnes_95 (a0 : Nat) (x1 : Int32) (x2 : Int32) (x4 : Int32) (x5 : Int32) (h : Hp) (Q : Int32 → Hp → Prop) (K95 : Int32 → Int32 → Prop) (x6 : Int32) (x7 : Int32) : Prop :=
  vp_in x1 (ln (rf a0 2)) ∧ (if (gI h (rf a0 2) x1.toNatClampNeg) ≤ x7 then (Q x6 h) else (eX12_firstOnes_112 a0 x1 x2 x4 x5 x6 x7 h K95 Q (-1 : Int32) (0 : Int32)))
def eX12_firstOnes_95 (a0 : Nat) (x1 : Int32) (x2 : Int32) (x4 : Int32) (x5 : Int32) (h : Hp) (Q : Int32 → Hp → Prop) (x6 : Int32) (x7 : Int32) : Prop := ∃ N, lpN (fun (K : Int32 × Int32 → Prop) (s : Int32 × Int32) => fX12_firstOnes_95 a0 x1 x2 x4 x5 h Q (fun x6 x7 => K (x6, x7)) s.1 s.2) N (x6, x7)
theorem iX12_firstOnes_95 {a0 : Nat} {x1 : Int32} {x2 : Int32} {x4 : Int32} {x5 : Int32} {h : Hp} {Q : Int32 → Hp → Prop} (I : Int32 → Int32 → Prop) (μ : Int32 → Int32 → Nat) (hs : ∀ (x6 : Int32) (x7 : Int32), I x6 x7 → ∀ K : Int32 → Int32 → Prop, (∀ (x6' : Int32) (x7' : Int32), I x6' x7' → μ x6' x7' < μ x6 x7 → K x6' x7') → fX12_firstOnes_95 a0 x1 x2 x4 x5 h Q K x6 x7) : ∀ (x6 : Int32) (x7 : Int32), I x6 x7 → eX12_firstOnes_95 a0 x1 x2 x4 x5 h Q x6 x7 := fun x6 x7 hI => lp_ind (fun s => I s.1 s.2) (fun s => μ s.1 s.2) (fun s hs' K hK => hs s.1 s.2 hs' _ (fun x6' x7' h1 h2 => hK (x6', x7') h1 h2)) (x6, x7) hI
set_option maxRecDepth 20000 in
theorem tX12_firstOnes_95 {G : GG} {X : XX} {a0 : Nat} {x1 : Int32} {x2 : Int32} {x4 : Int32} {x5 : Int32} {x6 : Int32} {x7 : Int32} {h : Hp}  {Q : Int32 → Hp → Prop} (C : Cx G RX12 cX12_firstOnes 10 (some .int) 4 0 0 X) (k0 : kd a0 = 12) (hw : eX12_firstOnes_95 a0 x1 x2 x4 x5 h Q x6 x7) : R0 G X 0 0 (ZM G (fun r h' => ∃ v, r = some (.int v) ∧ Q v h') X) 95 [some (.ref (G.1 a0)), some (.int x1), some (.int x2), none, some (.int x4), some (.int x5), some (.int x6), some (.int x7), none, none] [] h := by
  obtain ⟨N, hw⟩ := hw
  induction N generalizing x6 x7 with
  | zero => exact hw.elim
  | succ N ih =>
    obtain ⟨K95, eK⟩ : ∃ K : Int32 → Int32 → Prop, K = (fun x6 x7 => lpN (fun (K : Int32 × Int32 → Prop) (s : Int32 × Int32) => fX12_firstOnes_95 a0 x1 x2 x4 x5 h Q (fun x6 x7 => K (x6, x7)) s.1 s.2) N (x6, x7)) := ⟨_, rfl⟩
    have hw : fX12_firstOnes_95 a0 x1 x2 x4 x5 h Q (fun x6 x7 => lpN (fun (K : Int32 × Int32 → Prop) (s : Int32 × Int32) => fX12_firstOnes_95 a0 x1 x2 x4 x5 h Q (fun x6 x7 => K (x6, x7)) s.1 s.2) N (x6, x7)) x6 x7 := hw
    have hK95 : ∀ (x6 : Int32) (x7 : Int32), K95 x6 x7 → R0 G X 0 0 (ZM G (fun r h' => ∃ v, r = some (.int v) ∧ Q v h') X) 95 [some (.ref (G.1 a0)), some (.int x1), some (.int x2), none, some (.int x4), some (.int x5), some (.int x6), some (.int x7), none, none] [] h := fun x6 x7 q => ih (by rw [eK] at q; exact q)
    rw [← eK] at hw
    clear eK ih
    unfold fX12_firstOnes_95 at hw
    refine r_iload C dX12_firstOnes_95 rfl ?_
    refine r_aload_n C dX12_firstOnes_97 rfl ?_
    refine gX12_7 C (k0) dX12_firstOnes_98 ?_
    refine r_iload_n C dX12_firstOnes_101 rfl ?_
    obtain ⟨hi1, hw⟩ := hw
    refine r_iald C (kr12_2 (k0)) hi1 dX12_firstOnes_102 ?_
    refine r_icmp_ge 186 C dX12_firstOnes_103 (by decide) (fun hc => ?_) (fun hc => ?_)
    · replace hw := it_t hc hw
      refine r_iload C dX12_firstOnes_186 rfl ?_
      exact r_iret C dX12_firstOnes_188 ⟨_, rfl, hw⟩
    · replace hw := it_f hc hw
      refine r_iconst (-1) C dX12_firstOnes_106 (by decide) ?_
      refine r_istore [some (.ref (G.1 a0)), some (.int x1), some (.int x2), none, some (.int x4), some (.int x5), some (.int x6), some (.int x7), some (.int (-1 : Int32)), none] C dX12_firstOnes_107 (Nat.le_of_ble_eq_true rfl) rfl rfl ?_
      refine r_iconst (0) C dX12_firstOnes_109 (by decide) ?_
      refine r_istore [some (.ref (G.1 a0)), some (.int x1), some (.int x2), none, some (.int x4), some (.int x5), some (.int x6), some (.int x7), some (.int (-1 : Int32)), some (.int (0 : Int32))] C dX12_firstOnes_110 (Nat.le_of_ble_eq_true rfl) rfl rfl ?_
      exact tX12_firstOnes_112 C (k0) hK95 hw
def fX12_firstOnes_6 (a0 : Nat) (x1 : Int32) (x2 : Int32) (x3 : Int32) (x4 : Int32) (Q : Int32 → Hp → Prop) (K6 : Int32 → Int32 → Hp → Prop) (x5 : Int32) (x6 : Int32) (h : Hp) : Prop :=
  if (gI h a0 3) ≤ x6 then (wX12_bitsOf x5 h (fun v1 => vp_in x1 (ln (rf a0 2)) ∧ (if (gI h (rf a0 2) x1.toNatClampNeg) ≤ v1 then (eX12_firstOnes_95 a0 x1 x2 x4 x5 h Q (0 : Int32) (0 : Int32)) else (Q (0 : Int32) h)))) else (if ((shr (gI h a0 33) x6) &&& (1 : Int32)) = x2 then (wX12_waitsIn a0 x6 x3 (gI h a0 33) (gI h a0 34) h (fun v4 => if v4 = 0 then (∀ v5 : Int32, v5 = x6 + (1 : Int32) → (K6 x5 v5 h)) else (wX12_mayGo a0 x6 x1 x2 x3 h (fun v6 h7 => if v6 = 0 then (∀ v8 : Int32, v8 = x6 + (1 : Int32) → (K6 x5 v8 h7)) else (∀ v9 : Int32, v9 = (x5 ||| (shl (1 : Int32) x6)) → (∀ v10 : Int32, v10 = x6 + (1 : Int32) → (K6 v9 v10 h7))))))) else (∀ v3 : Int32, v3 = x6 + (1 : Int32) → (K6 x5 v3 h)))
def eX12_firstOnes_6 (a0 : Nat) (x1 : Int32) (x2 : Int32) (x3 : Int32) (x4 : Int32) (Q : Int32 → Hp → Prop) (x5 : Int32) (x6 : Int32) (h : Hp) : Prop := ∃ N, lpN (fun (K : Int32 × Int32 × Hp → Prop) (s : Int32 × Int32 × Hp) => fX12_firstOnes_6 a0 x1 x2 x3 x4 Q (fun x5 x6 h => K (x5, x6, h)) s.1 s.2.1 s.2.2) N (x5, x6, h)
theorem iX12_firstOnes_6 {a0 : Nat} {x1 : Int32} {x2 : Int32} {x3 : Int32} {x4 : Int32} {Q : Int32 → Hp → Prop} (I : Int32 → Int32 → Hp → Prop) (μ : Int32 → Int32 → Hp → Nat) (hs : ∀ (x5 : Int32) (x6 : Int32) (h : Hp), I x5 x6 h → ∀ K : Int32 → Int32 → Hp → Prop, (∀ (x5' : Int32) (x6' : Int32) (h' : Hp), I x5' x6' h' → μ x5' x6' h' < μ x5 x6 h → K x5' x6' h') → fX12_firstOnes_6 a0 x1 x2 x3 x4 Q K x5 x6 h) : ∀ (x5 : Int32) (x6 : Int32) (h : Hp), I x5 x6 h → eX12_firstOnes_6 a0 x1 x2 x3 x4 Q x5 x6 h := fun x5 x6 h hI => lp_ind (fun s => I s.1 s.2.1 s.2.2) (fun s => μ s.1 s.2.1 s.2.2) (fun s hs' K hK => hs s.1 s.2.1 s.2.2 hs' _ (fun x5' x6' h' h1 h2 => hK (x5', x6', h') h1 h2)) (x5, x6, h) hI
set_option maxRecDepth 20000 in
theorem tX12_firstOnes_6 {G : GG} {X : XX} {a0 : Nat} {x1 : Int32} {x2 : Int32} {x3 : Int32} {x4 : Int32} {x5 : Int32} {x6 : Int32} {h : Hp}  {Q : Int32 → Hp → Prop} (C : Cx G RX12 cX12_firstOnes 10 (some .int) 4 0 0 X) (k0 : kd a0 = 12) (hw : eX12_firstOnes_6 a0 x1 x2 x3 x4 Q x5 x6 h) : R0 G X 0 0 (ZM G (fun r h' => ∃ v, r = some (.int v) ∧ Q v h') X) 6 [some (.ref (G.1 a0)), some (.int x1), some (.int x2), some (.int x3), some (.int x4), some (.int x5), some (.int x6), none, none, none] [] h := by
  obtain ⟨N, hw⟩ := hw
  induction N generalizing x5 x6 h with
  | zero => exact hw.elim
  | succ N ih =>
    obtain ⟨K6, eK⟩ : ∃ K : Int32 → Int32 → Hp → Prop, K = (fun x5 x6 h => lpN (fun (K : Int32 × Int32 × Hp → Prop) (s : Int32 × Int32 × Hp) => fX12_firstOnes_6 a0 x1 x2 x3 x4 Q (fun x5 x6 h => K (x5, x6, h)) s.1 s.2.1 s.2.2) N (x5, x6, h)) := ⟨_, rfl⟩
    have hw : fX12_firstOnes_6 a0 x1 x2 x3 x4 Q (fun x5 x6 h => lpN (fun (K : Int32 × Int32 × Hp → Prop) (s : Int32 × Int32 × Hp) => fX12_firstOnes_6 a0 x1 x2 x3 x4 Q (fun x5 x6 h => K (x5, x6, h)) s.1 s.2.1 s.2.2) N (x5, x6, h)) x5 x6 h := hw
    have hK6 : ∀ (x5 : Int32) (x6 : Int32) (h : Hp), K6 x5 x6 h → R0 G X 0 0 (ZM G (fun r h' => ∃ v, r = some (.int v) ∧ Q v h') X) 6 [some (.ref (G.1 a0)), some (.int x1), some (.int x2), some (.int x3), some (.int x4), some (.int x5), some (.int x6), none, none, none] [] h := fun x5 x6 h q => ih (by rw [eK] at q; exact q)
    rw [← eK] at hw
    clear eK ih
    unfold fX12_firstOnes_6 at hw
    refine r_iload C dX12_firstOnes_6 rfl ?_
    refine r_aload_n C dX12_firstOnes_8 rfl ?_
    refine gX12_118 C (k0) dX12_firstOnes_9 ?_
    refine r_icmp_ge 73 C dX12_firstOnes_12 (by decide) (fun hc => ?_) (fun hc => ?_)
    · replace hw := it_t hc hw
      refine r_iload C dX12_firstOnes_73 rfl ?_
      refine kX12_252 C (sX12_bitsOf hw) dX12_firstOnes_75 (Nat.le_of_ble_eq_true rfl) rfl (Nat.le_of_ble_eq_true rfl) (fun v1 hw => ?_)
      refine r_aload_n C dX12_firstOnes_78 rfl ?_
      refine gX12_7 C (k0) dX12_firstOnes_79 ?_
      refine r_iload_n C dX12_firstOnes_82 rfl ?_
      obtain ⟨hi2, hw⟩ := hw
      refine r_iald C (kr12_2 (k0)) hi2 dX12_firstOnes_83 ?_
      refine r_icmp_ge 89 C dX12_firstOnes_84 (by decide) (fun hc => ?_) (fun hc => ?_)
      · replace hw := it_t hc hw
        refine r_iconst (0) C dX12_firstOnes_89 (by decide) ?_
        refine r_istore [some (.ref (G.1 a0)), some (.int x1), some (.int x2), some (.int x3), some (.int x4), some (.int x5), some (.int (0 : Int32)), none, none, none] C dX12_firstOnes_90 (Nat.le_of_ble_eq_true rfl) rfl rfl ?_
        refine r_iconst (0) C dX12_firstOnes_92 (by decide) ?_
        refine r_istore [some (.ref (G.1 a0)), some (.int x1), some (.int x2), some (.int x3), some (.int x4), some (.int x5), some (.int (0 : Int32)), some (.int (0 : Int32)), none, none] C dX12_firstOnes_93 (Nat.le_of_ble_eq_true rfl) rfl rfl ?_
        refine r_weak [some (.ref (G.1 a0)), some (.int x1), some (.int x2), none, some (.int x4), some (.int x5), some (.int (0 : Int32)), some (.int (0 : Int32)), none, none] (lw_k (lw_k (lw_k (lw_d (lw_k (lw_k (lw_k (lw_k (lw_k (lw_k (lw_n))))))))))) ?_
        exact tX12_firstOnes_95 C (k0) hw
      · replace hw := it_f hc hw
        refine r_iconst (0) C dX12_firstOnes_87 (by decide) ?_
        exact r_iret C dX12_firstOnes_88 ⟨_, rfl, hw⟩
    · replace hw := it_f hc hw
      refine r_aload_n C dX12_firstOnes_15 rfl ?_
      refine gX12_261 C (k0) dX12_firstOnes_16 ?_
      refine r_iload C dX12_firstOnes_19 rfl ?_
      refine r_ishr C dX12_firstOnes_21 ?_
      refine r_iconst (1) C dX12_firstOnes_22 (by decide) ?_
      refine r_iand C dX12_firstOnes_23 ?_
      refine r_iload_n C dX12_firstOnes_24 rfl ?_
      refine r_icmp_ne 67 C dX12_firstOnes_25 (by decide) (fun hc => ?_) (fun hc => ?_)
      · replace hw := it_f hc hw
        obtain ⟨v3, ev3⟩ : ∃ v : Int32, v = x6 + (1 : Int32) := ⟨_, rfl⟩
        replace hw := hw v3 ev3
        refine r_iinc v3 [some (.ref (G.1 a0)), some (.int x1), some (.int x2), some (.int x3), some (.int x4), some (.int x5), some (.int v3), none, none, none] C dX12_firstOnes_67 rfl (by rw [ev3]; rfl) rfl rfl ?_
        refine r_goto 6 C dX12_firstOnes_70 (by decide) ?_
        exact hK6 _ _ _ hw
      · replace hw := it_t hc hw
        refine r_aload_n C dX12_firstOnes_28 rfl ?_
        refine r_iload C dX12_firstOnes_29 rfl ?_
        refine r_iload_n C dX12_firstOnes_31 rfl ?_
        refine r_aload_n C dX12_firstOnes_32 rfl ?_
        refine gX12_261 C (k0) dX12_firstOnes_33 ?_
        refine r_aload_n C dX12_firstOnes_36 rfl ?_
        refine gX12_264 C (k0) dX12_firstOnes_37 ?_
        refine kX12_249 C (k0) (sX12_waitsIn (k0) hw) dX12_firstOnes_40 (Nat.le_of_ble_eq_true rfl) rfl (Nat.le_of_ble_eq_true rfl) (fun v4 hw => ?_)
        refine r_if_eq 67 C dX12_firstOnes_43 (by decide) (fun hc => ?_) (fun hc => ?_)
        · replace hw := it_t hc hw
          obtain ⟨v5, ev5⟩ : ∃ v : Int32, v = x6 + (1 : Int32) := ⟨_, rfl⟩
          replace hw := hw v5 ev5
          refine r_iinc v5 [some (.ref (G.1 a0)), some (.int x1), some (.int x2), some (.int x3), some (.int x4), some (.int x5), some (.int v5), none, none, none] C dX12_firstOnes_67 rfl (by rw [ev5]; rfl) rfl rfl ?_
          refine r_goto 6 C dX12_firstOnes_70 (by decide) ?_
          exact hK6 _ _ _ hw
        · replace hw := it_f hc hw
          refine r_aload_n C dX12_firstOnes_46 rfl ?_
          refine r_iload C dX12_firstOnes_47 rfl ?_
          refine r_iload_n C dX12_firstOnes_49 rfl ?_
          refine r_iload_n C dX12_firstOnes_50 rfl ?_
          refine r_iload_n C dX12_firstOnes_51 rfl ?_
          refine kX12_233 C (k0) (sX12_mayGo (k0) hw) dX12_firstOnes_52 (Nat.le_of_ble_eq_true rfl) rfl (Nat.le_of_ble_eq_true rfl) (fun v6 h7 hw => ?_)
          refine r_if_eq 67 C dX12_firstOnes_55 (by decide) (fun hc => ?_) (fun hc => ?_)
          · replace hw := it_t hc hw
            obtain ⟨v8, ev8⟩ : ∃ v : Int32, v = x6 + (1 : Int32) := ⟨_, rfl⟩
            replace hw := hw v8 ev8
            refine r_iinc v8 [some (.ref (G.1 a0)), some (.int x1), some (.int x2), some (.int x3), some (.int x4), some (.int x5), some (.int v8), none, none, none] C dX12_firstOnes_67 rfl (by rw [ev8]; rfl) rfl rfl ?_
            refine r_goto 6 C dX12_firstOnes_70 (by decide) ?_
            exact hK6 _ _ _ hw
          · replace hw := it_f hc hw
            refine r_iload C dX12_firstOnes_58 rfl ?_
            refine r_iconst (1) C dX12_firstOnes_60 (by decide) ?_
            refine r_iload C dX12_firstOnes_61 rfl ?_
            refine r_ishl C dX12_firstOnes_63 ?_
            refine r_ior C dX12_firstOnes_64 ?_
            refine r_topi (fun v9 ev9 => ?_)
            replace hw := hw v9 ev9
            refine r_istore [some (.ref (G.1 a0)), some (.int x1), some (.int x2), some (.int x3), some (.int x4), some (.int v9), some (.int x6), none, none, none] C dX12_firstOnes_65 (Nat.le_of_ble_eq_true rfl) rfl rfl ?_
            obtain ⟨v10, ev10⟩ : ∃ v : Int32, v = x6 + (1 : Int32) := ⟨_, rfl⟩
            replace hw := hw v10 ev10
            refine r_iinc v10 [some (.ref (G.1 a0)), some (.int x1), some (.int x2), some (.int x3), some (.int x4), some (.int v9), some (.int v10), none, none, none] C dX12_firstOnes_67 rfl (by rw [ev10]; rfl) rfl rfl ?_
            refine r_goto 6 C dX12_firstOnes_70 (by decide) ?_
            exact hK6 _ _ _ hw
def wX12_firstOnes (a0 : Nat) (x1 : Int32) (x2 : Int32) (x3 : Int32) (x4 : Int32) (h : Hp) (Q : Int32 → Hp → Prop) : Prop :=
  eX12_firstOnes_6 a0 x1 x2 x3 x4 Q (0 : Int32) (0 : Int32) h
set_option maxRecDepth 20000 in
theorem sX12_firstOnes {G : GG} {a0 : Nat} {x1 : Int32} {x2 : Int32} {x3 : Int32} {x4 : Int32} {h : Hp} {Q : Int32 → Hp → Prop} (k0 : kd a0 = 12) (hw : wX12_firstOnes a0 x1 x2 x3 x4 h Q) : CI G 4 yX12_firstOnes cX12_firstOnes 10 (some .int) [.ref (G.1 a0), .int x1, .int x2, .int x3, .int x4] h Q := by
  refine CO_of [some (.ref (G.1 a0)), some (.int x1), some (.int x2), some (.int x3), some (.int x4), none, none, none, none, none] (by decide) (Nat.le_of_ble_eq_true rfl) rfl (fun X C => ?_)
  unfold wX12_firstOnes at hw
  refine r_iconst (0) C dX12_firstOnes_0 (by decide) ?_
  refine r_istore [some (.ref (G.1 a0)), some (.int x1), some (.int x2), some (.int x3), some (.int x4), some (.int (0 : Int32)), none, none, none, none] C dX12_firstOnes_1 (Nat.le_of_ble_eq_true rfl) rfl rfl ?_
  refine r_iconst (0) C dX12_firstOnes_3 (by decide) ?_
  refine r_istore [some (.ref (G.1 a0)), some (.int x1), some (.int x2), some (.int x3), some (.int x4), some (.int (0 : Int32)), some (.int (0 : Int32)), none, none, none] C dX12_firstOnes_4 (Nat.le_of_ble_eq_true rfl) rfl rfl ?_
  exact tX12_firstOnes_6 C (k0) hw
def fX12_passesOnce_76 (a0 : Nat) (x2 : Int32) (x3 : Int32) (x5 : Int32) (Q : Int32 → Hp → Prop) (K76 : Int32 → Hp → Prop) (x6 : Int32) (h : Hp) : Prop :=
  if (gI h a0 3) ≤ x6 then (∀ h1 : Hp, h1 = sI h a0 36 ((gI h a0 36) + (1 : Int32)) → (Q (1 : Int32) h1)) else (if ((shr x5 x6) &&& (1 : Int32)) = 0 then (∀ v8 : Int32, v8 = x6 + (1 : Int32) → (K76 v8 h)) else (if x2 = 0 then (vp_in x6 (ln (rf a0 31)) ∧ (∀ h6 : Hp, h6 = sI h (rf a0 31) x6.toNatClampNeg x3 → (∀ v7 : Int32, v7 = x6 + (1 : Int32) → (K76 v7 h6)))) else (vp_in x6 (ln (rf a0 32)) ∧ (∀ h3 : Hp, h3 = sI h (rf a0 32) x6.toNatClampNeg x3 → (∀ v4 : Int32, v4 = x6 + (1 : Int32) → (K76 v4 h3))))))
def eX12_passesOnce_76 (a0 : Nat) (x2 : Int32) (x3 : Int32) (x5 : Int32) (Q : Int32 → Hp → Prop) (x6 : Int32) (h : Hp) : Prop := ∃ N, lpN (fun (K : Int32 × Hp → Prop) (s : Int32 × Hp) => fX12_passesOnce_76 a0 x2 x3 x5 Q (fun x6 h => K (x6, h)) s.1 s.2) N (x6, h)
theorem iX12_passesOnce_76 {a0 : Nat} {x2 : Int32} {x3 : Int32} {x5 : Int32} {Q : Int32 → Hp → Prop} (I : Int32 → Hp → Prop) (μ : Int32 → Hp → Nat) (hs : ∀ (x6 : Int32) (h : Hp), I x6 h → ∀ K : Int32 → Hp → Prop, (∀ (x6' : Int32) (h' : Hp), I x6' h' → μ x6' h' < μ x6 h → K x6' h') → fX12_passesOnce_76 a0 x2 x3 x5 Q K x6 h) : ∀ (x6 : Int32) (h : Hp), I x6 h → eX12_passesOnce_76 a0 x2 x3 x5 Q x6 h := fun x6 h hI => lp_ind (fun s => I s.1 s.2) (fun s => μ s.1 s.2) (fun s hs' K hK => hs s.1 s.2 hs' _ (fun x6' h' h1 h2 => hK (x6', h') h1 h2)) (x6, h) hI
set_option maxRecDepth 20000 in
theorem tX12_passesOnce_76 {G : GG} {X : XX} {a0 : Nat} {x2 : Int32} {x3 : Int32} {x5 : Int32} {x6 : Int32} {h : Hp}  {Q : Int32 → Hp → Prop} (C : Cx G RX12 cX12_passesOnce 7 (some .boolean) 121 0 0 X) (k0 : kd a0 = 12) (hw : eX12_passesOnce_76 a0 x2 x3 x5 Q x6 h) : R0 G X 0 0 (ZM G (fun r h' => ∃ v, r = some (.int v) ∧ Q v h') X) 76 [some (.ref (G.1 a0)), none, some (.int x2), some (.int x3), none, some (.int x5), some (.int x6)] [] h := by
  obtain ⟨N, hw⟩ := hw
  induction N generalizing x6 h with
  | zero => exact hw.elim
  | succ N ih =>
    obtain ⟨K76, eK⟩ : ∃ K : Int32 → Hp → Prop, K = (fun x6 h => lpN (fun (K : Int32 × Hp → Prop) (s : Int32 × Hp) => fX12_passesOnce_76 a0 x2 x3 x5 Q (fun x6 h => K (x6, h)) s.1 s.2) N (x6, h)) := ⟨_, rfl⟩
    have hw : fX12_passesOnce_76 a0 x2 x3 x5 Q (fun x6 h => lpN (fun (K : Int32 × Hp → Prop) (s : Int32 × Hp) => fX12_passesOnce_76 a0 x2 x3 x5 Q (fun x6 h => K (x6, h)) s.1 s.2) N (x6, h)) x6 h := hw
    have hK76 : ∀ (x6 : Int32) (h : Hp), K76 x6 h → R0 G X 0 0 (ZM G (fun r h' => ∃ v, r = some (.int v) ∧ Q v h') X) 76 [some (.ref (G.1 a0)), none, some (.int x2), some (.int x3), none, some (.int x5), some (.int x6)] [] h := fun x6 h q => ih (by rw [eK] at q; exact q)
    rw [← eK] at hw
    clear eK ih
    unfold fX12_passesOnce_76 at hw
    refine r_iload C dX12_passesOnce_76 rfl ?_
    refine r_aload_n C dX12_passesOnce_78 rfl ?_
    refine gX12_118 C (k0) dX12_passesOnce_79 ?_
    refine r_icmp_ge 127 C dX12_passesOnce_82 (by decide) (fun hc => ?_) (fun hc => ?_)
    · replace hw := it_t hc hw
      refine r_aload_n C dX12_passesOnce_127 rfl ?_
      refine r_dup C dX12_passesOnce_128 rfl ?_
      refine gX12_274 C (k0) dX12_passesOnce_129 ?_
      refine r_iconst (1) C dX12_passesOnce_132 (by decide) ?_
      refine r_iadd C dX12_passesOnce_133 ?_
      refine pX12_274 C (k0) dX12_passesOnce_134 ?_
      refine r_toph (fun h1 eh1 => ?_)
      replace hw := hw h1 eh1
      refine r_iconst (1) C dX12_passesOnce_137 (by decide) ?_
      exact r_zret C dX12_passesOnce_138 rfl ⟨_, rfl, hw⟩
    · replace hw := it_f hc hw
      refine r_iload C dX12_passesOnce_85 rfl ?_
      refine r_iload C dX12_passesOnce_87 rfl ?_
      refine r_ishr C dX12_passesOnce_89 ?_
      refine r_iconst (1) C dX12_passesOnce_90 (by decide) ?_
      refine r_iand C dX12_passesOnce_91 ?_
      refine r_if_ne 98 C dX12_passesOnce_92 (by decide) (fun hc => ?_) (fun hc => ?_)
      · replace hw := it_f hc hw
        refine r_iload_n C dX12_passesOnce_98 rfl ?_
        refine r_if_ne 113 C dX12_passesOnce_99 (by decide) (fun hc => ?_) (fun hc => ?_)
        · replace hw := it_f hc hw
          refine r_aload_n C dX12_passesOnce_113 rfl ?_
          refine gX12_70 C (k0) dX12_passesOnce_114 ?_
          refine r_iload C dX12_passesOnce_117 rfl ?_
          refine r_iload_n C dX12_passesOnce_119 rfl ?_
          obtain ⟨hi2, hw⟩ := hw
          refine r_iast C (kr12_32 (k0)) hi2 dX12_passesOnce_120 ?_
          refine r_toph (fun h3 eh3 => ?_)
          replace hw := hw h3 eh3
          obtain ⟨v4, ev4⟩ : ∃ v : Int32, v = x6 + (1 : Int32) := ⟨_, rfl⟩
          replace hw := hw v4 ev4
          refine r_iinc v4 [some (.ref (G.1 a0)), none, some (.int x2), some (.int x3), none, some (.int x5), some (.int v4)] C dX12_passesOnce_121 rfl (by rw [ev4]; rfl) rfl rfl ?_
          refine r_goto 76 C dX12_passesOnce_124 (by decide) ?_
          exact hK76 _ _ hw
        · replace hw := it_t hc hw
          refine r_aload_n C dX12_passesOnce_102 rfl ?_
          refine gX12_67 C (k0) dX12_passesOnce_103 ?_
          refine r_iload C dX12_passesOnce_106 rfl ?_
          refine r_iload_n C dX12_passesOnce_108 rfl ?_
          obtain ⟨hi5, hw⟩ := hw
          refine r_iast C (kr12_31 (k0)) hi5 dX12_passesOnce_109 ?_
          refine r_toph (fun h6 eh6 => ?_)
          replace hw := hw h6 eh6
          refine r_goto 121 C dX12_passesOnce_110 (by decide) ?_
          obtain ⟨v7, ev7⟩ : ∃ v : Int32, v = x6 + (1 : Int32) := ⟨_, rfl⟩
          replace hw := hw v7 ev7
          refine r_iinc v7 [some (.ref (G.1 a0)), none, some (.int x2), some (.int x3), none, some (.int x5), some (.int v7)] C dX12_passesOnce_121 rfl (by rw [ev7]; rfl) rfl rfl ?_
          refine r_goto 76 C dX12_passesOnce_124 (by decide) ?_
          exact hK76 _ _ hw
      · replace hw := it_t hc hw
        refine r_goto 121 C dX12_passesOnce_95 (by decide) ?_
        obtain ⟨v8, ev8⟩ : ∃ v : Int32, v = x6 + (1 : Int32) := ⟨_, rfl⟩
        replace hw := hw v8 ev8
        refine r_iinc v8 [some (.ref (G.1 a0)), none, some (.int x2), some (.int x3), none, some (.int x5), some (.int v8)] C dX12_passesOnce_121 rfl (by rw [ev8]; rfl) rfl rfl ?_
        refine r_goto 76 C dX12_passesOnce_124 (by decide) ?_
        exact hK76 _ _ hw
def jX12_passesOnce_47 (a0 : Nat) (x2 : Int32) (x3 : Int32) (x5 : Int32) (h : Hp) (Q : Int32 → Hp → Prop) : Prop :=
  ∀ h1 : Hp, h1 = sI h a0 33 ((gI h a0 33) ^^^ x5) → (if x2 = 0 then (∀ h2 : Hp, h2 = sI h1 a0 34 ((gI h1 a0 34) ||| x5) → (eX12_passesOnce_76 a0 x2 x3 x5 Q (0 : Int32) h2)) else (eX12_passesOnce_76 a0 x2 x3 x5 Q (0 : Int32) h1))
set_option maxRecDepth 20000 in
theorem tX12_passesOnce_47 {G : GG} {X : XX} {a0 : Nat} {x2 : Int32} {x3 : Int32} {x5 : Int32} {h : Hp}  {Q : Int32 → Hp → Prop} (C : Cx G RX12 cX12_passesOnce 7 (some .boolean) 121 0 0 X) (k0 : kd a0 = 12) (hw : jX12_passesOnce_47 a0 x2 x3 x5 h Q) : R0 G X 0 0 (ZM G (fun r h' => ∃ v, r = some (.int v) ∧ Q v h') X) 47 [some (.ref (G.1 a0)), none, some (.int x2), some (.int x3), none, some (.int x5), none] [] h := by
  unfold jX12_passesOnce_47 at hw
  refine r_aload_n C dX12_passesOnce_47 rfl ?_
  refine r_dup C dX12_passesOnce_48 rfl ?_
  refine gX12_261 C (k0) dX12_passesOnce_49 ?_
  refine r_iload C dX12_passesOnce_52 rfl ?_
  refine r_ixor C dX12_passesOnce_54 ?_
  refine pX12_261 C (k0) dX12_passesOnce_55 ?_
  refine r_toph (fun h1 eh1 => ?_)
  replace hw := hw h1 eh1
  refine r_iload_n C dX12_passesOnce_58 rfl ?_
  refine r_if_ne 73 C dX12_passesOnce_59 (by decide) (fun hc => ?_) (fun hc => ?_)
  · replace hw := it_f hc hw
    refine r_iconst (0) C dX12_passesOnce_73 (by decide) ?_
    refine r_istore [some (.ref (G.1 a0)), none, some (.int x2), some (.int x3), none, some (.int x5), some (.int (0 : Int32))] C dX12_passesOnce_74 (Nat.le_of_ble_eq_true rfl) rfl rfl ?_
    exact tX12_passesOnce_76 C (k0) hw
  · replace hw := it_t hc hw
    refine r_aload_n C dX12_passesOnce_62 rfl ?_
    refine r_dup C dX12_passesOnce_63 rfl ?_
    refine gX12_264 C (k0) dX12_passesOnce_64 ?_
    refine r_iload C dX12_passesOnce_67 rfl ?_
    refine r_ior C dX12_passesOnce_69 ?_
    refine pX12_264 C (k0) dX12_passesOnce_70 ?_
    refine r_toph (fun h2 eh2 => ?_)
    replace hw := hw h2 eh2
    refine r_iconst (0) C dX12_passesOnce_73 (by decide) ?_
    refine r_istore [some (.ref (G.1 a0)), none, some (.int x2), some (.int x3), none, some (.int x5), some (.int (0 : Int32))] C dX12_passesOnce_74 (Nat.le_of_ble_eq_true rfl) rfl rfl ?_
    exact tX12_passesOnce_76 C (k0) hw
def wX12_passesOnce (a0 : Nat) (x1 : Int32) (x2 : Int32) (x3 : Int32) (x4 : Int32) (h : Hp) (Q : Int32 → Hp → Prop) : Prop :=
  wX12_firstOnes a0 x1 x2 x3 x4 h (fun v1 h2 => if v1 = 0 then (Q (0 : Int32) h2) else (if x2 = 0 then (if x4 = (2 : Int32) then (wX12_bitsOf ((gI h2 a0 33) ||| v1) h2 (fun v3 => ∃ n4, n4 ≤ 120 ∧ ((wG3 n4) a0 v3 h2 (fun v5 => if v5 = 0 then (Q (0 : Int32) h2) else (jX12_passesOnce_47 a0 x2 x3 v1 h2 Q))))) else (jX12_passesOnce_47 a0 x2 x3 v1 h2 Q)) else (jX12_passesOnce_47 a0 x2 x3 v1 h2 Q)))
set_option maxRecDepth 20000 in
theorem sX12_passesOnce {G : GG} {a0 : Nat} {x1 : Int32} {x2 : Int32} {x3 : Int32} {x4 : Int32} {h : Hp} {Q : Int32 → Hp → Prop} (k0 : kd a0 = 12) (hw : wX12_passesOnce a0 x1 x2 x3 x4 h Q) : CI G 121 yX12_passesOnce cX12_passesOnce 7 (some .boolean) [.ref (G.1 a0), .int x1, .int x2, .int x3, .int x4] h Q := by
  refine CO_of [some (.ref (G.1 a0)), some (.int x1), some (.int x2), some (.int x3), some (.int x4), none, none] (by decide) (Nat.le_of_ble_eq_true rfl) rfl (fun X C => ?_)
  unfold wX12_passesOnce at hw
  refine r_aload_n C dX12_passesOnce_0 rfl ?_
  refine r_iload_n C dX12_passesOnce_1 rfl ?_
  refine r_iload_n C dX12_passesOnce_2 rfl ?_
  refine r_iload_n C dX12_passesOnce_3 rfl ?_
  refine r_iload C dX12_passesOnce_4 rfl ?_
  refine kX12_270 C (k0) (sX12_firstOnes (k0) hw) dX12_passesOnce_6 (Nat.le_of_ble_eq_true rfl) rfl (Nat.le_of_ble_eq_true rfl) (fun v1 h2 hw => ?_)
  refine r_istore [some (.ref (G.1 a0)), some (.int x1), some (.int x2), some (.int x3), some (.int x4), some (.int v1), none] C dX12_passesOnce_9 (Nat.le_of_ble_eq_true rfl) rfl rfl ?_
  refine r_iload C dX12_passesOnce_11 rfl ?_
  refine r_if_ne 18 C dX12_passesOnce_13 (by decide) (fun hc => ?_) (fun hc => ?_)
  · replace hw := it_f hc hw
    refine r_iload_n C dX12_passesOnce_18 rfl ?_
    refine r_if_ne 47 C dX12_passesOnce_19 (by decide) (fun hc => ?_) (fun hc => ?_)
    · replace hw := it_f hc hw
      refine r_weak [some (.ref (G.1 a0)), none, some (.int x2), some (.int x3), none, some (.int v1), none] (lw_k (lw_d (lw_k (lw_k (lw_d (lw_k (lw_k (lw_n)))))))) ?_
      exact tX12_passesOnce_47 C (k0) hw
    · replace hw := it_t hc hw
      refine r_iload C dX12_passesOnce_22 rfl ?_
      refine r_iconst (2) C dX12_passesOnce_24 (by decide) ?_
      refine r_icmp_ne 47 C dX12_passesOnce_25 (by decide) (fun hc => ?_) (fun hc => ?_)
      · replace hw := it_f hc hw
        refine r_weak [some (.ref (G.1 a0)), none, some (.int x2), some (.int x3), none, some (.int v1), none] (lw_k (lw_d (lw_k (lw_k (lw_d (lw_k (lw_k (lw_n)))))))) ?_
        exact tX12_passesOnce_47 C (k0) hw
      · replace hw := it_t hc hw
        refine r_aload_n C dX12_passesOnce_28 rfl ?_
        refine r_aload_n C dX12_passesOnce_29 rfl ?_
        refine gX12_261 C (k0) dX12_passesOnce_30 ?_
        refine r_iload C dX12_passesOnce_33 rfl ?_
        refine r_ior C dX12_passesOnce_35 ?_
        refine kX12_252 C (sX12_bitsOf hw) dX12_passesOnce_36 (Nat.le_of_ble_eq_true rfl) rfl (Nat.le_of_ble_eq_true rfl) (fun v3 hw => ?_)
        obtain ⟨n4, hnn4, hw⟩ := hw
        refine kX12_258 C (k0) ((sG3 G n4) _ _ _ _ (k0) hw) dX12_passesOnce_39 (by omega) rfl (Nat.le_of_ble_eq_true rfl) (fun v5 hw => ?_)
        refine r_if_ne 47 C dX12_passesOnce_42 (by decide) (fun hc => ?_) (fun hc => ?_)
        · replace hw := it_f hc hw
          refine r_weak [some (.ref (G.1 a0)), none, some (.int x2), some (.int x3), none, some (.int v1), none] (lw_k (lw_d (lw_k (lw_k (lw_d (lw_k (lw_k (lw_n)))))))) ?_
          exact tX12_passesOnce_47 C (k0) hw
        · replace hw := it_t hc hw
          refine r_iconst (0) C dX12_passesOnce_45 (by decide) ?_
          exact r_zret C dX12_passesOnce_46 rfl ⟨_, rfl, hw⟩
  · replace hw := it_t hc hw
    refine r_iconst (0) C dX12_passesOnce_16 (by decide) ?_
    exact r_zret C dX12_passesOnce_17 rfl ⟨_, rfl, hw⟩
def fX12_goDay_113 (a0 : Nat) (x1 : Int32) (x2 : Int32) (K52 : Int32 → Hp → Prop) (Q : Hp → Prop) (K113 : Int32 → Hp → Prop) (x3 : Int32) (h : Hp) : Prop :=
  if (gI h a0 3) ≤ x3 then (∀ v1 : Int32, v1 = x2 + (1 : Int32) → (K52 v1 h)) else (wX12_waitsIn a0 x3 x2 (gI h a0 33) (gI h a0 34) h (fun v2 => if v2 = 0 then (∀ v3 : Int32, v3 = x3 + (1 : Int32) → (K113 v3 h)) else (vp_in x3 (ln (rf a0 6)) ∧ (∀ h5 : Hp, h5 = sI h a0 35 ((gI h a0 35) + (gI h (rf a0 6) x3.toNatClampNeg)) → (∀ v6 : Int32, v6 = x3 + (1 : Int32) → (K113 v6 h5))))))
def eX12_goDay_113 (a0 : Nat) (x1 : Int32) (x2 : Int32) (K52 : Int32 → Hp → Prop) (Q : Hp → Prop) (x3 : Int32) (h : Hp) : Prop := ∃ N, lpN (fun (K : Int32 × Hp → Prop) (s : Int32 × Hp) => fX12_goDay_113 a0 x1 x2 K52 Q (fun x3 h => K (x3, h)) s.1 s.2) N (x3, h)
theorem iX12_goDay_113 {a0 : Nat} {x1 : Int32} {x2 : Int32} {K52 : Int32 → Hp → Prop} {Q : Hp → Prop} (I : Int32 → Hp → Prop) (μ : Int32 → Hp → Nat) (hs : ∀ (x3 : Int32) (h : Hp), I x3 h → ∀ K : Int32 → Hp → Prop, (∀ (x3' : Int32) (h' : Hp), I x3' h' → μ x3' h' < μ x3 h → K x3' h') → fX12_goDay_113 a0 x1 x2 K52 Q K x3 h) : ∀ (x3 : Int32) (h : Hp), I x3 h → eX12_goDay_113 a0 x1 x2 K52 Q x3 h := fun x3 h hI => lp_ind (fun s => I s.1 s.2) (fun s => μ s.1 s.2) (fun s hs' K hK => hs s.1 s.2 hs' _ (fun x3' h' h1 h2 => hK (x3', h') h1 h2)) (x3, h) hI
set_option maxRecDepth 20000 in
theorem tX12_goDay_113 {G : GG} {X : XX} {a0 : Nat} {x1 : Int32} {x2 : Int32} {x3 : Int32} {h : Hp}  {K52 : Int32 → Hp → Prop} {Q : Hp → Prop} (C : Cx G RX12 cX12_goDay 6 none 122 0 0 X) (k0 : kd a0 = 12) (hK52 : ∀ (y2 : Int32) (h' : Hp), K52 y2 h' → R0 G X 0 0 (ZM G (fun r h' => r = none ∧ Q h') X) 52 [some (.ref (G.1 a0)), some (.int x1), some (.int y2), none, none, none] [] h') (hw : eX12_goDay_113 a0 x1 x2 K52 Q x3 h) : R0 G X 0 0 (ZM G (fun r h' => r = none ∧ Q h') X) 113 [some (.ref (G.1 a0)), some (.int x1), some (.int x2), some (.int x3), none, none] [] h := by
  obtain ⟨N, hw⟩ := hw
  induction N generalizing x3 h with
  | zero => exact hw.elim
  | succ N ih =>
    obtain ⟨K113, eK⟩ : ∃ K : Int32 → Hp → Prop, K = (fun x3 h => lpN (fun (K : Int32 × Hp → Prop) (s : Int32 × Hp) => fX12_goDay_113 a0 x1 x2 K52 Q (fun x3 h => K (x3, h)) s.1 s.2) N (x3, h)) := ⟨_, rfl⟩
    have hw : fX12_goDay_113 a0 x1 x2 K52 Q (fun x3 h => lpN (fun (K : Int32 × Hp → Prop) (s : Int32 × Hp) => fX12_goDay_113 a0 x1 x2 K52 Q (fun x3 h => K (x3, h)) s.1 s.2) N (x3, h)) x3 h := hw
    have hK113 : ∀ (x3 : Int32) (h : Hp), K113 x3 h → R0 G X 0 0 (ZM G (fun r h' => r = none ∧ Q h') X) 113 [some (.ref (G.1 a0)), some (.int x1), some (.int x2), some (.int x3), none, none] [] h := fun x3 h q => ih (by rw [eK] at q; exact q)
    rw [← eK] at hw
    clear eK ih
    unfold fX12_goDay_113 at hw
    refine r_iload_n C dX12_goDay_113 rfl ?_
    refine r_aload_n C dX12_goDay_114 rfl ?_
    refine gX12_118 C (k0) dX12_goDay_115 ?_
    refine r_icmp_ge 159 C dX12_goDay_118 (by decide) (fun hc => ?_) (fun hc => ?_)
    · replace hw := it_t hc hw
      obtain ⟨v1, ev1⟩ : ∃ v : Int32, v = x2 + (1 : Int32) := ⟨_, rfl⟩
      replace hw := hw v1 ev1
      refine r_iinc v1 [some (.ref (G.1 a0)), some (.int x1), some (.int v1), some (.int x3), none, none] C dX12_goDay_159 rfl (by rw [ev1]; rfl) rfl rfl ?_
      refine r_goto 52 C dX12_goDay_162 (by decide) ?_
      refine r_weak [some (.ref (G.1 a0)), some (.int x1), some (.int v1), none, none, none] (lw_k (lw_k (lw_k (lw_d (lw_k (lw_k (lw_n))))))) ?_
      exact hK52 _ _ hw
    · replace hw := it_f hc hw
      refine r_aload_n C dX12_goDay_121 rfl ?_
      refine r_iload_n C dX12_goDay_122 rfl ?_
      refine r_iload_n C dX12_goDay_123 rfl ?_
      refine r_aload_n C dX12_goDay_124 rfl ?_
      refine gX12_261 C (k0) dX12_goDay_125 ?_
      refine r_aload_n C dX12_goDay_128 rfl ?_
      refine gX12_264 C (k0) dX12_goDay_129 ?_
      refine kX12_249 C (k0) (sX12_waitsIn (k0) hw) dX12_goDay_132 (Nat.le_of_ble_eq_true rfl) rfl (Nat.le_of_ble_eq_true rfl) (fun v2 hw => ?_)
      refine r_if_eq 153 C dX12_goDay_135 (by decide) (fun hc => ?_) (fun hc => ?_)
      · replace hw := it_t hc hw
        obtain ⟨v3, ev3⟩ : ∃ v : Int32, v = x3 + (1 : Int32) := ⟨_, rfl⟩
        replace hw := hw v3 ev3
        refine r_iinc v3 [some (.ref (G.1 a0)), some (.int x1), some (.int x2), some (.int v3), none, none] C dX12_goDay_153 rfl (by rw [ev3]; rfl) rfl rfl ?_
        refine r_goto 113 C dX12_goDay_156 (by decide) ?_
        exact hK113 _ _ hw
      · replace hw := it_f hc hw
        refine r_aload_n C dX12_goDay_138 rfl ?_
        refine r_dup C dX12_goDay_139 rfl ?_
        refine gX12_277 C (k0) dX12_goDay_140 ?_
        refine r_aload_n C dX12_goDay_143 rfl ?_
        refine gX12_19 C (k0) dX12_goDay_144 ?_
        refine r_iload_n C dX12_goDay_147 rfl ?_
        obtain ⟨hi4, hw⟩ := hw
        refine r_iald C (kr12_6 (k0)) hi4 dX12_goDay_148 ?_
        refine r_iadd C dX12_goDay_149 ?_
        refine pX12_277 C (k0) dX12_goDay_150 ?_
        refine r_toph (fun h5 eh5 => ?_)
        replace hw := hw h5 eh5
        obtain ⟨v6, ev6⟩ : ∃ v : Int32, v = x3 + (1 : Int32) := ⟨_, rfl⟩
        replace hw := hw v6 ev6
        refine r_iinc v6 [some (.ref (G.1 a0)), some (.int x1), some (.int x2), some (.int v6), none, none] C dX12_goDay_153 rfl (by rw [ev6]; rfl) rfl rfl ?_
        refine r_goto 113 C dX12_goDay_156 (by decide) ?_
        exact hK113 _ _ hw
def fX12_goDay_80 (a0 : Nat) (x1 : Int32) (x2 : Int32) (x3 : Int32) (x4 : Int32) (K52 : Int32 → Hp → Prop) (K60 : Int32 → Hp → Prop) (K71 : Int32 → Hp → Prop) (Q : Hp → Prop) (K80 : Int32 → Hp → Prop) (x5 : Int32) (h : Hp) : Prop :=
  if x5 = 0 then (∀ v1 : Int32, v1 = x4 + (1 : Int32) → (K71 v1 h)) else (wX12_passesOnce a0 x3 x4 x2 x1 h (fun v2 h3 => K80 v2 h3))
def eX12_goDay_80 (a0 : Nat) (x1 : Int32) (x2 : Int32) (x3 : Int32) (x4 : Int32) (K52 : Int32 → Hp → Prop) (K60 : Int32 → Hp → Prop) (K71 : Int32 → Hp → Prop) (Q : Hp → Prop) (x5 : Int32) (h : Hp) : Prop := ∃ N, lpN (fun (K : Int32 × Hp → Prop) (s : Int32 × Hp) => fX12_goDay_80 a0 x1 x2 x3 x4 K52 K60 K71 Q (fun x5 h => K (x5, h)) s.1 s.2) N (x5, h)
theorem iX12_goDay_80 {a0 : Nat} {x1 : Int32} {x2 : Int32} {x3 : Int32} {x4 : Int32} {K52 : Int32 → Hp → Prop} {K60 : Int32 → Hp → Prop} {K71 : Int32 → Hp → Prop} {Q : Hp → Prop} (I : Int32 → Hp → Prop) (μ : Int32 → Hp → Nat) (hs : ∀ (x5 : Int32) (h : Hp), I x5 h → ∀ K : Int32 → Hp → Prop, (∀ (x5' : Int32) (h' : Hp), I x5' h' → μ x5' h' < μ x5 h → K x5' h') → fX12_goDay_80 a0 x1 x2 x3 x4 K52 K60 K71 Q K x5 h) : ∀ (x5 : Int32) (h : Hp), I x5 h → eX12_goDay_80 a0 x1 x2 x3 x4 K52 K60 K71 Q x5 h := fun x5 h hI => lp_ind (fun s => I s.1 s.2) (fun s => μ s.1 s.2) (fun s hs' K hK => hs s.1 s.2 hs' _ (fun x5' h' h1 h2 => hK (x5', h') h1 h2)) (x5, h) hI
set_option maxRecDepth 20000 in
theorem tX12_goDay_80 {G : GG} {X : XX} {a0 : Nat} {x1 : Int32} {x2 : Int32} {x3 : Int32} {x4 : Int32} {x5 : Int32} {h : Hp}  {K52 : Int32 → Hp → Prop} {K60 : Int32 → Hp → Prop} {K71 : Int32 → Hp → Prop} {Q : Hp → Prop} (C : Cx G RX12 cX12_goDay 6 none 122 0 0 X) (k0 : kd a0 = 12) (hK52 : ∀ (y2 : Int32) (h' : Hp), K52 y2 h' → R0 G X 0 0 (ZM G (fun r h' => r = none ∧ Q h') X) 52 [some (.ref (G.1 a0)), some (.int x1), some (.int y2), none, none, none] [] h') (hK60 : ∀ (y3 : Int32) (h' : Hp), K60 y3 h' → R0 G X 0 0 (ZM G (fun r h' => r = none ∧ Q h') X) 60 [some (.ref (G.1 a0)), some (.int x1), some (.int x2), some (.int y3), none, none] [] h') (hK71 : ∀ (y4 : Int32) (h' : Hp), K71 y4 h' → R0 G X 0 0 (ZM G (fun r h' => r = none ∧ Q h') X) 71 [some (.ref (G.1 a0)), some (.int x1), some (.int x2), some (.int x3), some (.int y4), none] [] h') (hw : eX12_goDay_80 a0 x1 x2 x3 x4 K52 K60 K71 Q x5 h) : R0 G X 0 0 (ZM G (fun r h' => r = none ∧ Q h') X) 80 [some (.ref (G.1 a0)), some (.int x1), some (.int x2), some (.int x3), some (.int x4), some (.int x5)] [] h := by
  obtain ⟨N, hw⟩ := hw
  induction N generalizing x5 h with
  | zero => exact hw.elim
  | succ N ih =>
    obtain ⟨K80, eK⟩ : ∃ K : Int32 → Hp → Prop, K = (fun x5 h => lpN (fun (K : Int32 × Hp → Prop) (s : Int32 × Hp) => fX12_goDay_80 a0 x1 x2 x3 x4 K52 K60 K71 Q (fun x5 h => K (x5, h)) s.1 s.2) N (x5, h)) := ⟨_, rfl⟩
    have hw : fX12_goDay_80 a0 x1 x2 x3 x4 K52 K60 K71 Q (fun x5 h => lpN (fun (K : Int32 × Hp → Prop) (s : Int32 × Hp) => fX12_goDay_80 a0 x1 x2 x3 x4 K52 K60 K71 Q (fun x5 h => K (x5, h)) s.1 s.2) N (x5, h)) x5 h := hw
    have hK80 : ∀ (x5 : Int32) (h : Hp), K80 x5 h → R0 G X 0 0 (ZM G (fun r h' => r = none ∧ Q h') X) 80 [some (.ref (G.1 a0)), some (.int x1), some (.int x2), some (.int x3), some (.int x4), some (.int x5)] [] h := fun x5 h q => ih (by rw [eK] at q; exact q)
    rw [← eK] at hw
    clear eK ih
    unfold fX12_goDay_80 at hw
    refine r_iload C dX12_goDay_80 rfl ?_
    refine r_if_eq 99 C dX12_goDay_82 (by decide) (fun hc => ?_) (fun hc => ?_)
    · replace hw := it_t hc hw
      obtain ⟨v1, ev1⟩ : ∃ v : Int32, v = x4 + (1 : Int32) := ⟨_, rfl⟩
      replace hw := hw v1 ev1
      refine r_iinc v1 [some (.ref (G.1 a0)), some (.int x1), some (.int x2), some (.int x3), some (.int v1), some (.int x5)] C dX12_goDay_99 rfl (by rw [ev1]; rfl) rfl rfl ?_
      refine r_goto 71 C dX12_goDay_102 (by decide) ?_
      refine r_weak [some (.ref (G.1 a0)), some (.int x1), some (.int x2), some (.int x3), some (.int v1), none] (lw_k (lw_k (lw_k (lw_k (lw_k (lw_d (lw_n))))))) ?_
      exact hK71 _ _ hw
    · replace hw := it_f hc hw
      refine r_aload_n C dX12_goDay_85 rfl ?_
      refine r_iload_n C dX12_goDay_86 rfl ?_
      refine r_iload C dX12_goDay_87 rfl ?_
      refine r_iload_n C dX12_goDay_89 rfl ?_
      refine r_iload_n C dX12_goDay_90 rfl ?_
      refine kX12_280 C (k0) (sX12_passesOnce (k0) hw) dX12_goDay_91 (Nat.le_of_ble_eq_true rfl) rfl (Nat.le_of_ble_eq_true rfl) (fun v2 h3 hw => ?_)
      refine r_istore [some (.ref (G.1 a0)), some (.int x1), some (.int x2), some (.int x3), some (.int x4), some (.int v2)] C dX12_goDay_94 (Nat.le_of_ble_eq_true rfl) rfl rfl ?_
      refine r_goto 80 C dX12_goDay_96 (by decide) ?_
      exact hK80 _ _ hw
def fX12_goDay_71 (a0 : Nat) (x1 : Int32) (x2 : Int32) (x3 : Int32) (K52 : Int32 → Hp → Prop) (K60 : Int32 → Hp → Prop) (Q : Hp → Prop) (K71 : Int32 → Hp → Prop) (x4 : Int32) (h : Hp) : Prop :=
  if (2 : Int32) ≤ x4 then (∀ v1 : Int32, v1 = x3 + (1 : Int32) → (K60 v1 h)) else (eX12_goDay_80 a0 x1 x2 x3 x4 K52 K60 K71 Q (1 : Int32) h)
def eX12_goDay_71 (a0 : Nat) (x1 : Int32) (x2 : Int32) (x3 : Int32) (K52 : Int32 → Hp → Prop) (K60 : Int32 → Hp → Prop) (Q : Hp → Prop) (x4 : Int32) (h : Hp) : Prop := ∃ N, lpN (fun (K : Int32 × Hp → Prop) (s : Int32 × Hp) => fX12_goDay_71 a0 x1 x2 x3 K52 K60 Q (fun x4 h => K (x4, h)) s.1 s.2) N (x4, h)
theorem iX12_goDay_71 {a0 : Nat} {x1 : Int32} {x2 : Int32} {x3 : Int32} {K52 : Int32 → Hp → Prop} {K60 : Int32 → Hp → Prop} {Q : Hp → Prop} (I : Int32 → Hp → Prop) (μ : Int32 → Hp → Nat) (hs : ∀ (x4 : Int32) (h : Hp), I x4 h → ∀ K : Int32 → Hp → Prop, (∀ (x4' : Int32) (h' : Hp), I x4' h' → μ x4' h' < μ x4 h → K x4' h') → fX12_goDay_71 a0 x1 x2 x3 K52 K60 Q K x4 h) : ∀ (x4 : Int32) (h : Hp), I x4 h → eX12_goDay_71 a0 x1 x2 x3 K52 K60 Q x4 h := fun x4 h hI => lp_ind (fun s => I s.1 s.2) (fun s => μ s.1 s.2) (fun s hs' K hK => hs s.1 s.2 hs' _ (fun x4' h' h1 h2 => hK (x4', h') h1 h2)) (x4, h) hI
set_option maxRecDepth 20000 in
theorem tX12_goDay_71 {G : GG} {X : XX} {a0 : Nat} {x1 : Int32} {x2 : Int32} {x3 : Int32} {x4 : Int32} {h : Hp}  {K52 : Int32 → Hp → Prop} {K60 : Int32 → Hp → Prop} {Q : Hp → Prop} (C : Cx G RX12 cX12_goDay 6 none 122 0 0 X) (k0 : kd a0 = 12) (hK52 : ∀ (y2 : Int32) (h' : Hp), K52 y2 h' → R0 G X 0 0 (ZM G (fun r h' => r = none ∧ Q h') X) 52 [some (.ref (G.1 a0)), some (.int x1), some (.int y2), none, none, none] [] h') (hK60 : ∀ (y3 : Int32) (h' : Hp), K60 y3 h' → R0 G X 0 0 (ZM G (fun r h' => r = none ∧ Q h') X) 60 [some (.ref (G.1 a0)), some (.int x1), some (.int x2), some (.int y3), none, none] [] h') (hw : eX12_goDay_71 a0 x1 x2 x3 K52 K60 Q x4 h) : R0 G X 0 0 (ZM G (fun r h' => r = none ∧ Q h') X) 71 [some (.ref (G.1 a0)), some (.int x1), some (.int x2), some (.int x3), some (.int x4), none] [] h := by
  obtain ⟨N, hw⟩ := hw
  induction N generalizing x4 h with
  | zero => exact hw.elim
  | succ N ih =>
    obtain ⟨K71, eK⟩ : ∃ K : Int32 → Hp → Prop, K = (fun x4 h => lpN (fun (K : Int32 × Hp → Prop) (s : Int32 × Hp) => fX12_goDay_71 a0 x1 x2 x3 K52 K60 Q (fun x4 h => K (x4, h)) s.1 s.2) N (x4, h)) := ⟨_, rfl⟩
    have hw : fX12_goDay_71 a0 x1 x2 x3 K52 K60 Q (fun x4 h => lpN (fun (K : Int32 × Hp → Prop) (s : Int32 × Hp) => fX12_goDay_71 a0 x1 x2 x3 K52 K60 Q (fun x4 h => K (x4, h)) s.1 s.2) N (x4, h)) x4 h := hw
    have hK71 : ∀ (x4 : Int32) (h : Hp), K71 x4 h → R0 G X 0 0 (ZM G (fun r h' => r = none ∧ Q h') X) 71 [some (.ref (G.1 a0)), some (.int x1), some (.int x2), some (.int x3), some (.int x4), none] [] h := fun x4 h q => ih (by rw [eK] at q; exact q)
    rw [← eK] at hw
    clear eK ih
    unfold fX12_goDay_71 at hw
    refine r_iload C dX12_goDay_71 rfl ?_
    refine r_iconst (2) C dX12_goDay_73 (by decide) ?_
    refine r_icmp_ge 105 C dX12_goDay_74 (by decide) (fun hc => ?_) (fun hc => ?_)
    · replace hw := it_t hc hw
      obtain ⟨v1, ev1⟩ : ∃ v : Int32, v = x3 + (1 : Int32) := ⟨_, rfl⟩
      replace hw := hw v1 ev1
      refine r_iinc v1 [some (.ref (G.1 a0)), some (.int x1), some (.int x2), some (.int v1), some (.int x4), none] C dX12_goDay_105 rfl (by rw [ev1]; rfl) rfl rfl ?_
      refine r_goto 60 C dX12_goDay_108 (by decide) ?_
      refine r_weak [some (.ref (G.1 a0)), some (.int x1), some (.int x2), some (.int v1), none, none] (lw_k (lw_k (lw_k (lw_k (lw_d (lw_k (lw_n))))))) ?_
      exact hK60 _ _ hw
    · replace hw := it_f hc hw
      refine r_iconst (1) C dX12_goDay_77 (by decide) ?_
      refine r_istore [some (.ref (G.1 a0)), some (.int x1), some (.int x2), some (.int x3), some (.int x4), some (.int (1 : Int32))] C dX12_goDay_78 (Nat.le_of_ble_eq_true rfl) rfl rfl ?_
      exact tX12_goDay_80 C (k0) hK52 hK60 hK71 hw
def fX12_goDay_60 (a0 : Nat) (x1 : Int32) (x2 : Int32) (K52 : Int32 → Hp → Prop) (Q : Hp → Prop) (K60 : Int32 → Hp → Prop) (x3 : Int32) (h : Hp) : Prop :=
  if (gI h a0 1) ≤ x3 then (eX12_goDay_113 a0 x1 x2 K52 Q (0 : Int32) h) else (eX12_goDay_71 a0 x1 x2 x3 K52 K60 Q (0 : Int32) h)
def eX12_goDay_60 (a0 : Nat) (x1 : Int32) (x2 : Int32) (K52 : Int32 → Hp → Prop) (Q : Hp → Prop) (x3 : Int32) (h : Hp) : Prop := ∃ N, lpN (fun (K : Int32 × Hp → Prop) (s : Int32 × Hp) => fX12_goDay_60 a0 x1 x2 K52 Q (fun x3 h => K (x3, h)) s.1 s.2) N (x3, h)
theorem iX12_goDay_60 {a0 : Nat} {x1 : Int32} {x2 : Int32} {K52 : Int32 → Hp → Prop} {Q : Hp → Prop} (I : Int32 → Hp → Prop) (μ : Int32 → Hp → Nat) (hs : ∀ (x3 : Int32) (h : Hp), I x3 h → ∀ K : Int32 → Hp → Prop, (∀ (x3' : Int32) (h' : Hp), I x3' h' → μ x3' h' < μ x3 h → K x3' h') → fX12_goDay_60 a0 x1 x2 K52 Q K x3 h) : ∀ (x3 : Int32) (h : Hp), I x3 h → eX12_goDay_60 a0 x1 x2 K52 Q x3 h := fun x3 h hI => lp_ind (fun s => I s.1 s.2) (fun s => μ s.1 s.2) (fun s hs' K hK => hs s.1 s.2 hs' _ (fun x3' h' h1 h2 => hK (x3', h') h1 h2)) (x3, h) hI
set_option maxRecDepth 20000 in
theorem tX12_goDay_60 {G : GG} {X : XX} {a0 : Nat} {x1 : Int32} {x2 : Int32} {x3 : Int32} {h : Hp}  {K52 : Int32 → Hp → Prop} {Q : Hp → Prop} (C : Cx G RX12 cX12_goDay 6 none 122 0 0 X) (k0 : kd a0 = 12) (hK52 : ∀ (y2 : Int32) (h' : Hp), K52 y2 h' → R0 G X 0 0 (ZM G (fun r h' => r = none ∧ Q h') X) 52 [some (.ref (G.1 a0)), some (.int x1), some (.int y2), none, none, none] [] h') (hw : eX12_goDay_60 a0 x1 x2 K52 Q x3 h) : R0 G X 0 0 (ZM G (fun r h' => r = none ∧ Q h') X) 60 [some (.ref (G.1 a0)), some (.int x1), some (.int x2), some (.int x3), none, none] [] h := by
  obtain ⟨N, hw⟩ := hw
  induction N generalizing x3 h with
  | zero => exact hw.elim
  | succ N ih =>
    obtain ⟨K60, eK⟩ : ∃ K : Int32 → Hp → Prop, K = (fun x3 h => lpN (fun (K : Int32 × Hp → Prop) (s : Int32 × Hp) => fX12_goDay_60 a0 x1 x2 K52 Q (fun x3 h => K (x3, h)) s.1 s.2) N (x3, h)) := ⟨_, rfl⟩
    have hw : fX12_goDay_60 a0 x1 x2 K52 Q (fun x3 h => lpN (fun (K : Int32 × Hp → Prop) (s : Int32 × Hp) => fX12_goDay_60 a0 x1 x2 K52 Q (fun x3 h => K (x3, h)) s.1 s.2) N (x3, h)) x3 h := hw
    have hK60 : ∀ (x3 : Int32) (h : Hp), K60 x3 h → R0 G X 0 0 (ZM G (fun r h' => r = none ∧ Q h') X) 60 [some (.ref (G.1 a0)), some (.int x1), some (.int x2), some (.int x3), none, none] [] h := fun x3 h q => ih (by rw [eK] at q; exact q)
    rw [← eK] at hw
    clear eK ih
    unfold fX12_goDay_60 at hw
    refine r_iload_n C dX12_goDay_60 rfl ?_
    refine r_aload_n C dX12_goDay_61 rfl ?_
    refine gX12_111 C (k0) dX12_goDay_62 ?_
    refine r_icmp_ge 111 C dX12_goDay_65 (by decide) (fun hc => ?_) (fun hc => ?_)
    · replace hw := it_t hc hw
      refine r_iconst (0) C dX12_goDay_111 (by decide) ?_
      refine r_istore_n [some (.ref (G.1 a0)), some (.int x1), some (.int x2), some (.int (0 : Int32)), none, none] C dX12_goDay_112 (Nat.le_of_ble_eq_true rfl) rfl rfl ?_
      exact tX12_goDay_113 C (k0) hK52 hw
    · replace hw := it_f hc hw
      refine r_iconst (0) C dX12_goDay_68 (by decide) ?_
      refine r_istore [some (.ref (G.1 a0)), some (.int x1), some (.int x2), some (.int x3), some (.int (0 : Int32)), none] C dX12_goDay_69 (Nat.le_of_ble_eq_true rfl) rfl rfl ?_
      exact tX12_goDay_71 C (k0) hK52 hK60 hw
def fX12_goDay_52 (a0 : Nat) (x1 : Int32) (Q : Hp → Prop) (K52 : Int32 → Hp → Prop) (x2 : Int32) (h : Hp) : Prop :=
  if (60 : Int32) ≤ x2 then (Q h) else (eX12_goDay_60 a0 x1 x2 K52 Q (0 : Int32) h)
def eX12_goDay_52 (a0 : Nat) (x1 : Int32) (Q : Hp → Prop) (x2 : Int32) (h : Hp) : Prop := ∃ N, lpN (fun (K : Int32 × Hp → Prop) (s : Int32 × Hp) => fX12_goDay_52 a0 x1 Q (fun x2 h => K (x2, h)) s.1 s.2) N (x2, h)
theorem iX12_goDay_52 {a0 : Nat} {x1 : Int32} {Q : Hp → Prop} (I : Int32 → Hp → Prop) (μ : Int32 → Hp → Nat) (hs : ∀ (x2 : Int32) (h : Hp), I x2 h → ∀ K : Int32 → Hp → Prop, (∀ (x2' : Int32) (h' : Hp), I x2' h' → μ x2' h' < μ x2 h → K x2' h') → fX12_goDay_52 a0 x1 Q K x2 h) : ∀ (x2 : Int32) (h : Hp), I x2 h → eX12_goDay_52 a0 x1 Q x2 h := fun x2 h hI => lp_ind (fun s => I s.1 s.2) (fun s => μ s.1 s.2) (fun s hs' K hK => hs s.1 s.2 hs' _ (fun x2' h' h1 h2 => hK (x2', h') h1 h2)) (x2, h) hI
set_option maxRecDepth 20000 in
theorem tX12_goDay_52 {G : GG} {X : XX} {a0 : Nat} {x1 : Int32} {x2 : Int32} {h : Hp}  {Q : Hp → Prop} (C : Cx G RX12 cX12_goDay 6 none 122 0 0 X) (k0 : kd a0 = 12) (hw : eX12_goDay_52 a0 x1 Q x2 h) : R0 G X 0 0 (ZM G (fun r h' => r = none ∧ Q h') X) 52 [some (.ref (G.1 a0)), some (.int x1), some (.int x2), none, none, none] [] h := by
  obtain ⟨N, hw⟩ := hw
  induction N generalizing x2 h with
  | zero => exact hw.elim
  | succ N ih =>
    obtain ⟨K52, eK⟩ : ∃ K : Int32 → Hp → Prop, K = (fun x2 h => lpN (fun (K : Int32 × Hp → Prop) (s : Int32 × Hp) => fX12_goDay_52 a0 x1 Q (fun x2 h => K (x2, h)) s.1 s.2) N (x2, h)) := ⟨_, rfl⟩
    have hw : fX12_goDay_52 a0 x1 Q (fun x2 h => lpN (fun (K : Int32 × Hp → Prop) (s : Int32 × Hp) => fX12_goDay_52 a0 x1 Q (fun x2 h => K (x2, h)) s.1 s.2) N (x2, h)) x2 h := hw
    have hK52 : ∀ (x2 : Int32) (h : Hp), K52 x2 h → R0 G X 0 0 (ZM G (fun r h' => r = none ∧ Q h') X) 52 [some (.ref (G.1 a0)), some (.int x1), some (.int x2), none, none, none] [] h := fun x2 h q => ih (by rw [eK] at q; exact q)
    rw [← eK] at hw
    clear eK ih
    unfold fX12_goDay_52 at hw
    refine r_iload_n C dX12_goDay_52 rfl ?_
    refine r_bipush (60) C dX12_goDay_53 (by decide) ?_
    refine r_icmp_ge 165 C dX12_goDay_55 (by decide) (fun hc => ?_) (fun hc => ?_)
    · replace hw := it_t hc hw
      exact r_vret C dX12_goDay_165 ⟨rfl, hw⟩
    · replace hw := it_f hc hw
      refine r_iconst (0) C dX12_goDay_58 (by decide) ?_
      refine r_istore_n [some (.ref (G.1 a0)), some (.int x1), some (.int x2), some (.int (0 : Int32)), none, none] C dX12_goDay_59 (Nat.le_of_ble_eq_true rfl) rfl rfl ?_
      exact tX12_goDay_60 C (k0) hK52 hw
def fX12_goDay_22 (a0 : Nat) (x1 : Int32) (Q : Hp → Prop) (K22 : Int32 → Hp → Prop) (x2 : Int32) (h : Hp) : Prop :=
  if (12 : Int32) ≤ x2 then (eX12_goDay_52 a0 x1 Q (0 : Int32) h) else (vp_in x2 (ln (rf a0 31)) ∧ (∀ h2 : Hp, h2 = sI h (rf a0 31) x2.toNatClampNeg (-2 : Int32) → (vp_in x2 (ln (rf a0 32)) ∧ (∀ h4 : Hp, h4 = sI h2 (rf a0 32) x2.toNatClampNeg (-2 : Int32) → (∀ v5 : Int32, v5 = x2 + (1 : Int32) → (K22 v5 h4))))))
def eX12_goDay_22 (a0 : Nat) (x1 : Int32) (Q : Hp → Prop) (x2 : Int32) (h : Hp) : Prop := ∃ N, lpN (fun (K : Int32 × Hp → Prop) (s : Int32 × Hp) => fX12_goDay_22 a0 x1 Q (fun x2 h => K (x2, h)) s.1 s.2) N (x2, h)
theorem iX12_goDay_22 {a0 : Nat} {x1 : Int32} {Q : Hp → Prop} (I : Int32 → Hp → Prop) (μ : Int32 → Hp → Nat) (hs : ∀ (x2 : Int32) (h : Hp), I x2 h → ∀ K : Int32 → Hp → Prop, (∀ (x2' : Int32) (h' : Hp), I x2' h' → μ x2' h' < μ x2 h → K x2' h') → fX12_goDay_22 a0 x1 Q K x2 h) : ∀ (x2 : Int32) (h : Hp), I x2 h → eX12_goDay_22 a0 x1 Q x2 h := fun x2 h hI => lp_ind (fun s => I s.1 s.2) (fun s => μ s.1 s.2) (fun s hs' K hK => hs s.1 s.2 hs' _ (fun x2' h' h1 h2 => hK (x2', h') h1 h2)) (x2, h) hI
set_option maxRecDepth 20000 in
theorem tX12_goDay_22 {G : GG} {X : XX} {a0 : Nat} {x1 : Int32} {x2 : Int32} {h : Hp}  {Q : Hp → Prop} (C : Cx G RX12 cX12_goDay 6 none 122 0 0 X) (k0 : kd a0 = 12) (hw : eX12_goDay_22 a0 x1 Q x2 h) : R0 G X 0 0 (ZM G (fun r h' => r = none ∧ Q h') X) 22 [some (.ref (G.1 a0)), some (.int x1), some (.int x2), none, none, none] [] h := by
  obtain ⟨N, hw⟩ := hw
  induction N generalizing x2 h with
  | zero => exact hw.elim
  | succ N ih =>
    obtain ⟨K22, eK⟩ : ∃ K : Int32 → Hp → Prop, K = (fun x2 h => lpN (fun (K : Int32 × Hp → Prop) (s : Int32 × Hp) => fX12_goDay_22 a0 x1 Q (fun x2 h => K (x2, h)) s.1 s.2) N (x2, h)) := ⟨_, rfl⟩
    have hw : fX12_goDay_22 a0 x1 Q (fun x2 h => lpN (fun (K : Int32 × Hp → Prop) (s : Int32 × Hp) => fX12_goDay_22 a0 x1 Q (fun x2 h => K (x2, h)) s.1 s.2) N (x2, h)) x2 h := hw
    have hK22 : ∀ (x2 : Int32) (h : Hp), K22 x2 h → R0 G X 0 0 (ZM G (fun r h' => r = none ∧ Q h') X) 22 [some (.ref (G.1 a0)), some (.int x1), some (.int x2), none, none, none] [] h := fun x2 h q => ih (by rw [eK] at q; exact q)
    rw [← eK] at hw
    clear eK ih
    unfold fX12_goDay_22 at hw
    refine r_iload_n C dX12_goDay_22 rfl ?_
    refine r_bipush (12) C dX12_goDay_23 (by decide) ?_
    refine r_icmp_ge 50 C dX12_goDay_25 (by decide) (fun hc => ?_) (fun hc => ?_)
    · replace hw := it_t hc hw
      refine r_iconst (0) C dX12_goDay_50 (by decide) ?_
      refine r_istore_n [some (.ref (G.1 a0)), some (.int x1), some (.int (0 : Int32)), none, none, none] C dX12_goDay_51 (Nat.le_of_ble_eq_true rfl) rfl rfl ?_
      exact tX12_goDay_52 C (k0) hw
    · replace hw := it_f hc hw
      refine r_aload_n C dX12_goDay_28 rfl ?_
      refine gX12_67 C (k0) dX12_goDay_29 ?_
      refine r_iload_n C dX12_goDay_32 rfl ?_
      refine r_bipush (-2) C dX12_goDay_33 (by decide) ?_
      obtain ⟨hi1, hw⟩ := hw
      refine r_iast C (kr12_31 (k0)) hi1 dX12_goDay_35 ?_
      refine r_toph (fun h2 eh2 => ?_)
      replace hw := hw h2 eh2
      refine r_aload_n C dX12_goDay_36 rfl ?_
      refine gX12_70 C (k0) dX12_goDay_37 ?_
      refine r_iload_n C dX12_goDay_40 rfl ?_
      refine r_bipush (-2) C dX12_goDay_41 (by decide) ?_
      obtain ⟨hi3, hw⟩ := hw
      refine r_iast C (kr12_32 (k0)) hi3 dX12_goDay_43 ?_
      refine r_toph (fun h4 eh4 => ?_)
      replace hw := hw h4 eh4
      obtain ⟨v5, ev5⟩ : ∃ v : Int32, v = x2 + (1 : Int32) := ⟨_, rfl⟩
      replace hw := hw v5 ev5
      refine r_iinc v5 [some (.ref (G.1 a0)), some (.int x1), some (.int v5), none, none, none] C dX12_goDay_44 rfl (by rw [ev5]; rfl) rfl rfl ?_
      refine r_goto 22 C dX12_goDay_47 (by decide) ?_
      exact hK22 _ _ hw
def wX12_goDay (a0 : Nat) (x1 : Int32) (h : Hp) (Q : Hp → Prop) : Prop :=
  ∀ h1 : Hp, h1 = sI h a0 33 (0 : Int32) → (∀ h2 : Hp, h2 = sI h1 a0 34 (0 : Int32) → (∀ h3 : Hp, h3 = sI h2 a0 35 (0 : Int32) → (∀ h4 : Hp, h4 = sI h3 a0 36 (0 : Int32) → (eX12_goDay_22 a0 x1 Q (0 : Int32) h4))))
set_option maxRecDepth 20000 in
theorem sX12_goDay {G : GG} {a0 : Nat} {x1 : Int32} {h : Hp} {Q : Hp → Prop} (k0 : kd a0 = 12) (hw : wX12_goDay a0 x1 h Q) : CV G 122 yX12_goDay cX12_goDay 6 none [.ref (G.1 a0), .int x1] h Q := by
  refine CO_of [some (.ref (G.1 a0)), some (.int x1), none, none, none, none] (by decide) (Nat.le_of_ble_eq_true rfl) rfl (fun X C => ?_)
  unfold wX12_goDay at hw
  refine r_aload_n C dX12_goDay_0 rfl ?_
  refine r_iconst (0) C dX12_goDay_1 (by decide) ?_
  refine pX12_261 C (k0) dX12_goDay_2 ?_
  refine r_toph (fun h1 eh1 => ?_)
  replace hw := hw h1 eh1
  refine r_aload_n C dX12_goDay_5 rfl ?_
  refine r_iconst (0) C dX12_goDay_6 (by decide) ?_
  refine pX12_264 C (k0) dX12_goDay_7 ?_
  refine r_toph (fun h2 eh2 => ?_)
  replace hw := hw h2 eh2
  refine r_aload_n C dX12_goDay_10 rfl ?_
  refine r_iconst (0) C dX12_goDay_11 (by decide) ?_
  refine pX12_277 C (k0) dX12_goDay_12 ?_
  refine r_toph (fun h3 eh3 => ?_)
  replace hw := hw h3 eh3
  refine r_aload_n C dX12_goDay_15 rfl ?_
  refine r_iconst (0) C dX12_goDay_16 (by decide) ?_
  refine pX12_274 C (k0) dX12_goDay_17 ?_
  refine r_toph (fun h4 eh4 => ?_)
  replace hw := hw h4 eh4
  refine r_iconst (0) C dX12_goDay_20 (by decide) ?_
  refine r_istore_n [some (.ref (G.1 a0)), some (.int x1), some (.int (0 : Int32)), none, none, none] C dX12_goDay_21 (Nat.le_of_ble_eq_true rfl) rfl rfl ?_
  exact tX12_goDay_22 C (k0) hw
def wX12_day (a0 : Nat) (x1 : Int32) (x2 : Int32) (x3 : Int32) (h : Hp) (Q : Int32 → Hp → Prop) : Prop :=
  wX12_in x1 (0 : Int32) (2 : Int32) h (fun v1 => if v1 = 0 then (Q (-1 : Int32) h) else (wX12_isPerson a0 x2 h (fun v2 => if v2 = 0 then (Q (-1 : Int32) h) else (wX12_in x3 (0 : Int32) (1 : Int32) h (fun v3 => if v3 = 0 then (Q (-1 : Int32) h) else (wX12_goDay a0 x1 h (fun h5 => if x3 = 0 then (vp_in x2 (ln (rf a0 31)) ∧ (Q (gI h5 (rf a0 31) x2.toNatClampNeg) h5)) else (vp_in x2 (ln (rf a0 32)) ∧ (Q (gI h5 (rf a0 32) x2.toNatClampNeg) h5)))))))))
set_option maxRecDepth 20000 in
theorem sX12_day {G : GG} {a0 : Nat} {x1 : Int32} {x2 : Int32} {x3 : Int32} {h : Hp} {Q : Int32 → Hp → Prop} (k0 : kd a0 = 12) (hw : wX12_day a0 x1 x2 x3 h Q) : CI G 123 yX12_day cX12_day 4 (some .int) [.ref (G.1 a0), .int x1, .int x2, .int x3] h Q := by
  refine CO_of [some (.ref (G.1 a0)), some (.int x1), some (.int x2), some (.int x3)] (by decide) (Nat.le_of_ble_eq_true rfl) rfl (fun X C => ?_)
  unfold wX12_day at hw
  refine r_iload_n C dX12_day_0 rfl ?_
  refine r_iconst (0) C dX12_day_1 (by decide) ?_
  refine r_iconst (2) C dX12_day_2 (by decide) ?_
  refine kX12_114 C (sX12_in hw) dX12_day_3 (Nat.le_of_ble_eq_true rfl) rfl (Nat.le_of_ble_eq_true rfl) (fun v1 hw => ?_)
  refine r_if_eq 26 C dX12_day_6 (by decide) (fun hc => ?_) (fun hc => ?_)
  · replace hw := it_t hc hw
    refine r_iconst (-1) C dX12_day_26 (by decide) ?_
    exact r_iret C dX12_day_27 ⟨_, rfl, hw⟩
  · replace hw := it_f hc hw
    refine r_aload_n C dX12_day_9 rfl ?_
    refine r_iload_n C dX12_day_10 rfl ?_
    refine kX12_151 C (k0) (sX12_isPerson (k0) hw) dX12_day_11 (Nat.le_of_ble_eq_true rfl) rfl (Nat.le_of_ble_eq_true rfl) (fun v2 hw => ?_)
    refine r_if_eq 26 C dX12_day_14 (by decide) (fun hc => ?_) (fun hc => ?_)
    · replace hw := it_t hc hw
      refine r_iconst (-1) C dX12_day_26 (by decide) ?_
      exact r_iret C dX12_day_27 ⟨_, rfl, hw⟩
    · replace hw := it_f hc hw
      refine r_iload_n C dX12_day_17 rfl ?_
      refine r_iconst (0) C dX12_day_18 (by decide) ?_
      refine r_iconst (1) C dX12_day_19 (by decide) ?_
      refine kX12_114 C (sX12_in hw) dX12_day_20 (Nat.le_of_ble_eq_true rfl) rfl (Nat.le_of_ble_eq_true rfl) (fun v3 hw => ?_)
      refine r_if_ne 28 C dX12_day_23 (by decide) (fun hc => ?_) (fun hc => ?_)
      · replace hw := it_f hc hw
        refine r_aload_n C dX12_day_28 rfl ?_
        refine r_iload_n C dX12_day_29 rfl ?_
        refine kX12_283 C (k0) (sX12_goDay (k0) hw) dX12_day_30 (Nat.le_of_ble_eq_true rfl) rfl (Nat.le_of_ble_eq_true rfl) (fun h5 hw => ?_)
        refine r_iload_n C dX12_day_33 rfl ?_
        refine r_if_ne 46 C dX12_day_34 (by decide) (fun hc => ?_) (fun hc => ?_)
        · replace hw := it_f hc hw
          refine r_aload_n C dX12_day_46 rfl ?_
          refine gX12_70 C (k0) dX12_day_47 ?_
          refine r_iload_n C dX12_day_50 rfl ?_
          obtain ⟨hi6, hw⟩ := hw
          refine r_iald C (kr12_32 (k0)) hi6 dX12_day_51 ?_
          exact r_iret C dX12_day_52 ⟨_, rfl, hw⟩
        · replace hw := it_t hc hw
          refine r_aload_n C dX12_day_37 rfl ?_
          refine gX12_67 C (k0) dX12_day_38 ?_
          refine r_iload_n C dX12_day_41 rfl ?_
          obtain ⟨hi7, hw⟩ := hw
          refine r_iald C (kr12_31 (k0)) hi7 dX12_day_42 ?_
          refine r_goto 52 C dX12_day_43 (by decide) ?_
          exact r_iret C dX12_day_52 ⟨_, rfl, hw⟩
      · replace hw := it_t hc hw
        refine r_iconst (-1) C dX12_day_26 (by decide) ?_
        exact r_iret C dX12_day_27 ⟨_, rfl, hw⟩
def wX12_sum (a0 : Nat) (x1 : Int32) (x2 : Int32) (h : Hp) (Q : Int32 → Hp → Prop) : Prop :=
  wX12_in x1 (0 : Int32) (2 : Int32) h (fun v1 => if v1 = 0 then (Q (-1 : Int32) h) else (wX12_in x2 (0 : Int32) (2 : Int32) h (fun v2 => if v2 = 0 then (Q (-1 : Int32) h) else (wX12_goDay a0 x1 h (fun h4 => if x2 = 0 then (Q (gI h4 a0 35) h4) else (if x2 = (1 : Int32) then (Q (gI h4 a0 36) h4) else (wX12_bitsOf (gI h4 a0 33) h4 (fun v5 => Q v5 h4))))))))
set_option maxRecDepth 20000 in
theorem sX12_sum {G : GG} {a0 : Nat} {x1 : Int32} {x2 : Int32} {h : Hp} {Q : Int32 → Hp → Prop} (k0 : kd a0 = 12) (hw : wX12_sum a0 x1 x2 h Q) : CI G 123 yX12_sum cX12_sum 3 (some .int) [.ref (G.1 a0), .int x1, .int x2] h Q := by
  refine CO_of [some (.ref (G.1 a0)), some (.int x1), some (.int x2)] (by decide) (Nat.le_of_ble_eq_true rfl) rfl (fun X C => ?_)
  unfold wX12_sum at hw
  refine r_iload_n C dX12_sum_0 rfl ?_
  refine r_iconst (0) C dX12_sum_1 (by decide) ?_
  refine r_iconst (2) C dX12_sum_2 (by decide) ?_
  refine kX12_114 C (sX12_in hw) dX12_sum_3 (Nat.le_of_ble_eq_true rfl) rfl (Nat.le_of_ble_eq_true rfl) (fun v1 hw => ?_)
  refine r_if_eq 18 C dX12_sum_6 (by decide) (fun hc => ?_) (fun hc => ?_)
  · replace hw := it_t hc hw
    refine r_iconst (-1) C dX12_sum_18 (by decide) ?_
    exact r_iret C dX12_sum_19 ⟨_, rfl, hw⟩
  · replace hw := it_f hc hw
    refine r_iload_n C dX12_sum_9 rfl ?_
    refine r_iconst (0) C dX12_sum_10 (by decide) ?_
    refine r_iconst (2) C dX12_sum_11 (by decide) ?_
    refine kX12_114 C (sX12_in hw) dX12_sum_12 (Nat.le_of_ble_eq_true rfl) rfl (Nat.le_of_ble_eq_true rfl) (fun v2 hw => ?_)
    refine r_if_ne 20 C dX12_sum_15 (by decide) (fun hc => ?_) (fun hc => ?_)
    · replace hw := it_f hc hw
      refine r_aload_n C dX12_sum_20 rfl ?_
      refine r_iload_n C dX12_sum_21 rfl ?_
      refine kX12_283 C (k0) (sX12_goDay (k0) hw) dX12_sum_22 (Nat.le_of_ble_eq_true rfl) rfl (Nat.le_of_ble_eq_true rfl) (fun h4 hw => ?_)
      refine r_iload_n C dX12_sum_25 rfl ?_
      refine r_if_ne 36 C dX12_sum_26 (by decide) (fun hc => ?_) (fun hc => ?_)
      · replace hw := it_f hc hw
        refine r_iload_n C dX12_sum_36 rfl ?_
        refine r_iconst (1) C dX12_sum_37 (by decide) ?_
        refine r_icmp_ne 48 C dX12_sum_38 (by decide) (fun hc => ?_) (fun hc => ?_)
        · replace hw := it_f hc hw
          refine r_aload_n C dX12_sum_48 rfl ?_
          refine gX12_261 C (k0) dX12_sum_49 ?_
          refine kX12_252 C (sX12_bitsOf hw) dX12_sum_52 (Nat.le_of_ble_eq_true rfl) rfl (Nat.le_of_ble_eq_true rfl) (fun v5 hw => ?_)
          exact r_iret C dX12_sum_55 ⟨_, rfl, hw⟩
        · replace hw := it_t hc hw
          refine r_aload_n C dX12_sum_41 rfl ?_
          refine gX12_274 C (k0) dX12_sum_42 ?_
          refine r_goto 55 C dX12_sum_45 (by decide) ?_
          exact r_iret C dX12_sum_55 ⟨_, rfl, hw⟩
      · replace hw := it_t hc hw
        refine r_aload_n C dX12_sum_29 rfl ?_
        refine gX12_277 C (k0) dX12_sum_30 ?_
        refine r_goto 55 C dX12_sum_33 (by decide) ?_
        exact r_iret C dX12_sum_55 ⟨_, rfl, hw⟩
    · replace hw := it_t hc hw
      refine r_iconst (-1) C dX12_sum_18 (by decide) ?_
      exact r_iret C dX12_sum_19 ⟨_, rfl, hw⟩
def fX12_waitingCost_6 (a0 : Nat) (x1 : Int32) (x2 : Int32) (x3 : Int32) (h : Hp) (Q : Int32 → Prop) (K6 : Int32 → Int32 → Prop) (x4 : Int32) (x5 : Int32) : Prop :=
  if (gI h a0 3) ≤ x5 then (Q x4) else (wX12_waitsIn a0 x5 x1 x2 x3 h (fun v1 => if v1 = 0 then (∀ v2 : Int32, v2 = x5 + (1 : Int32) → (K6 x4 v2)) else (vp_in x5 (ln (rf a0 6)) ∧ (∀ v4 : Int32, v4 = (x4 + (gI h (rf a0 6) x5.toNatClampNeg)) → (∀ v5 : Int32, v5 = x5 + (1 : Int32) → (K6 v4 v5))))))
def eX12_waitingCost_6 (a0 : Nat) (x1 : Int32) (x2 : Int32) (x3 : Int32) (h : Hp) (Q : Int32 → Prop) (x4 : Int32) (x5 : Int32) : Prop := ∃ N, lpN (fun (K : Int32 × Int32 → Prop) (s : Int32 × Int32) => fX12_waitingCost_6 a0 x1 x2 x3 h Q (fun x4 x5 => K (x4, x5)) s.1 s.2) N (x4, x5)
theorem iX12_waitingCost_6 {a0 : Nat} {x1 : Int32} {x2 : Int32} {x3 : Int32} {h : Hp} {Q : Int32 → Prop} (I : Int32 → Int32 → Prop) (μ : Int32 → Int32 → Nat) (hs : ∀ (x4 : Int32) (x5 : Int32), I x4 x5 → ∀ K : Int32 → Int32 → Prop, (∀ (x4' : Int32) (x5' : Int32), I x4' x5' → μ x4' x5' < μ x4 x5 → K x4' x5') → fX12_waitingCost_6 a0 x1 x2 x3 h Q K x4 x5) : ∀ (x4 : Int32) (x5 : Int32), I x4 x5 → eX12_waitingCost_6 a0 x1 x2 x3 h Q x4 x5 := fun x4 x5 hI => lp_ind (fun s => I s.1 s.2) (fun s => μ s.1 s.2) (fun s hs' K hK => hs s.1 s.2 hs' _ (fun x4' x5' h1 h2 => hK (x4', x5') h1 h2)) (x4, x5) hI
set_option maxRecDepth 20000 in
theorem tX12_waitingCost_6 {G : GG} {X : XX} {a0 : Nat} {x1 : Int32} {x2 : Int32} {x3 : Int32} {x4 : Int32} {x5 : Int32} {h : Hp}  {Q : Int32 → Prop} (C : Cx G RX12 cX12_waitingCost 6 (some .int) 1 0 0 X) (k0 : kd a0 = 12) (hw : eX12_waitingCost_6 a0 x1 x2 x3 h Q x4 x5) : R0 G X 0 0 (ZM G (fun r h' => ∃ v, r = some (.int v) ∧ h' = h ∧ Q v) X) 6 [some (.ref (G.1 a0)), some (.int x1), some (.int x2), some (.int x3), some (.int x4), some (.int x5)] [] h := by
  obtain ⟨N, hw⟩ := hw
  induction N generalizing x4 x5 with
  | zero => exact hw.elim
  | succ N ih =>
    obtain ⟨K6, eK⟩ : ∃ K : Int32 → Int32 → Prop, K = (fun x4 x5 => lpN (fun (K : Int32 × Int32 → Prop) (s : Int32 × Int32) => fX12_waitingCost_6 a0 x1 x2 x3 h Q (fun x4 x5 => K (x4, x5)) s.1 s.2) N (x4, x5)) := ⟨_, rfl⟩
    have hw : fX12_waitingCost_6 a0 x1 x2 x3 h Q (fun x4 x5 => lpN (fun (K : Int32 × Int32 → Prop) (s : Int32 × Int32) => fX12_waitingCost_6 a0 x1 x2 x3 h Q (fun x4 x5 => K (x4, x5)) s.1 s.2) N (x4, x5)) x4 x5 := hw
    have hK6 : ∀ (x4 : Int32) (x5 : Int32), K6 x4 x5 → R0 G X 0 0 (ZM G (fun r h' => ∃ v, r = some (.int v) ∧ h' = h ∧ Q v) X) 6 [some (.ref (G.1 a0)), some (.int x1), some (.int x2), some (.int x3), some (.int x4), some (.int x5)] [] h := fun x4 x5 q => ih (by rw [eK] at q; exact q)
    rw [← eK] at hw
    clear eK ih
    unfold fX12_waitingCost_6 at hw
    refine r_iload C dX12_waitingCost_6 rfl ?_
    refine r_aload_n C dX12_waitingCost_8 rfl ?_
    refine gX12_118 C (k0) dX12_waitingCost_9 ?_
    refine r_icmp_ge 45 C dX12_waitingCost_12 (by decide) (fun hc => ?_) (fun hc => ?_)
    · replace hw := it_t hc hw
      refine r_iload C dX12_waitingCost_45 rfl ?_
      exact r_iret C dX12_waitingCost_47 ⟨_, rfl, rfl, hw⟩
    · replace hw := it_f hc hw
      refine r_aload_n C dX12_waitingCost_15 rfl ?_
      refine r_iload C dX12_waitingCost_16 rfl ?_
      refine r_iload_n C dX12_waitingCost_18 rfl ?_
      refine r_iload_n C dX12_waitingCost_19 rfl ?_
      refine r_iload_n C dX12_waitingCost_20 rfl ?_
      refine kX12_249 C (k0) (sX12_waitsIn (k0) hw) dX12_waitingCost_21 (Nat.le_of_ble_eq_true rfl) rfl (Nat.le_of_ble_eq_true rfl) (fun v1 hw => ?_)
      refine r_if_eq 39 C dX12_waitingCost_24 (by decide) (fun hc => ?_) (fun hc => ?_)
      · replace hw := it_t hc hw
        obtain ⟨v2, ev2⟩ : ∃ v : Int32, v = x5 + (1 : Int32) := ⟨_, rfl⟩
        replace hw := hw v2 ev2
        refine r_iinc v2 [some (.ref (G.1 a0)), some (.int x1), some (.int x2), some (.int x3), some (.int x4), some (.int v2)] C dX12_waitingCost_39 rfl (by rw [ev2]; rfl) rfl rfl ?_
        refine r_goto 6 C dX12_waitingCost_42 (by decide) ?_
        exact hK6 _ _ hw
      · replace hw := it_f hc hw
        refine r_iload C dX12_waitingCost_27 rfl ?_
        refine r_aload_n C dX12_waitingCost_29 rfl ?_
        refine gX12_19 C (k0) dX12_waitingCost_30 ?_
        refine r_iload C dX12_waitingCost_33 rfl ?_
        obtain ⟨hi3, hw⟩ := hw
        refine r_iald C (kr12_6 (k0)) hi3 dX12_waitingCost_35 ?_
        refine r_iadd C dX12_waitingCost_36 ?_
        refine r_topi (fun v4 ev4 => ?_)
        replace hw := hw v4 ev4
        refine r_istore [some (.ref (G.1 a0)), some (.int x1), some (.int x2), some (.int x3), some (.int v4), some (.int x5)] C dX12_waitingCost_37 (Nat.le_of_ble_eq_true rfl) rfl rfl ?_
        obtain ⟨v5, ev5⟩ : ∃ v : Int32, v = x5 + (1 : Int32) := ⟨_, rfl⟩
        replace hw := hw v5 ev5
        refine r_iinc v5 [some (.ref (G.1 a0)), some (.int x1), some (.int x2), some (.int x3), some (.int v4), some (.int v5)] C dX12_waitingCost_39 rfl (by rw [ev5]; rfl) rfl rfl ?_
        refine r_goto 6 C dX12_waitingCost_42 (by decide) ?_
        exact hK6 _ _ hw
def wX12_waitingCost (a0 : Nat) (x1 : Int32) (x2 : Int32) (x3 : Int32) (h : Hp) (Q : Int32 → Prop) : Prop :=
  eX12_waitingCost_6 a0 x1 x2 x3 h Q (0 : Int32) (0 : Int32)
set_option maxRecDepth 20000 in
theorem sX12_waitingCost {G : GG} {a0 : Nat} {x1 : Int32} {x2 : Int32} {x3 : Int32} {h : Hp} {Q : Int32 → Prop} (k0 : kd a0 = 12) (hw : wX12_waitingCost a0 x1 x2 x3 h Q) : PI G 1 yX12_waitingCost cX12_waitingCost 6 (some .int) [.ref (G.1 a0), .int x1, .int x2, .int x3] h Q := by
  refine CO_of [some (.ref (G.1 a0)), some (.int x1), some (.int x2), some (.int x3), none, none] (by decide) (Nat.le_of_ble_eq_true rfl) rfl (fun X C => ?_)
  unfold wX12_waitingCost at hw
  refine r_iconst (0) C dX12_waitingCost_0 (by decide) ?_
  refine r_istore [some (.ref (G.1 a0)), some (.int x1), some (.int x2), some (.int x3), some (.int (0 : Int32)), none] C dX12_waitingCost_1 (Nat.le_of_ble_eq_true rfl) rfl rfl ?_
  refine r_iconst (0) C dX12_waitingCost_3 (by decide) ?_
  refine r_istore [some (.ref (G.1 a0)), some (.int x1), some (.int x2), some (.int x3), some (.int (0 : Int32)), some (.int (0 : Int32))] C dX12_waitingCost_4 (Nat.le_of_ble_eq_true rfl) rfl rfl ?_
  exact tX12_waitingCost_6 C (k0) hw
def fX12_mayOf_5 (a0 : Nat) (x1 : Int32) (x2 : Int32) (Q : Int32 → Hp → Prop) (K5 : Int32 → Int32 → Hp → Prop) (x3 : Int32) (x4 : Int32) (h : Hp) : Prop :=
  if (gI h a0 3) ≤ x4 then (Q x3 h) else (wX12_mayGo a0 x4 (0 : Int32) x1 x2 h (fun v1 h2 => if v1 = 0 then (∀ v3 : Int32, v3 = x4 + (1 : Int32) → (K5 x3 v3 h2)) else (∀ v4 : Int32, v4 = (x3 ||| (shl (1 : Int32) x4)) → (∀ v5 : Int32, v5 = x4 + (1 : Int32) → (K5 v4 v5 h2)))))
def eX12_mayOf_5 (a0 : Nat) (x1 : Int32) (x2 : Int32) (Q : Int32 → Hp → Prop) (x3 : Int32) (x4 : Int32) (h : Hp) : Prop := ∃ N, lpN (fun (K : Int32 × Int32 × Hp → Prop) (s : Int32 × Int32 × Hp) => fX12_mayOf_5 a0 x1 x2 Q (fun x3 x4 h => K (x3, x4, h)) s.1 s.2.1 s.2.2) N (x3, x4, h)
theorem iX12_mayOf_5 {a0 : Nat} {x1 : Int32} {x2 : Int32} {Q : Int32 → Hp → Prop} (I : Int32 → Int32 → Hp → Prop) (μ : Int32 → Int32 → Hp → Nat) (hs : ∀ (x3 : Int32) (x4 : Int32) (h : Hp), I x3 x4 h → ∀ K : Int32 → Int32 → Hp → Prop, (∀ (x3' : Int32) (x4' : Int32) (h' : Hp), I x3' x4' h' → μ x3' x4' h' < μ x3 x4 h → K x3' x4' h') → fX12_mayOf_5 a0 x1 x2 Q K x3 x4 h) : ∀ (x3 : Int32) (x4 : Int32) (h : Hp), I x3 x4 h → eX12_mayOf_5 a0 x1 x2 Q x3 x4 h := fun x3 x4 h hI => lp_ind (fun s => I s.1 s.2.1 s.2.2) (fun s => μ s.1 s.2.1 s.2.2) (fun s hs' K hK => hs s.1 s.2.1 s.2.2 hs' _ (fun x3' x4' h' h1 h2 => hK (x3', x4', h') h1 h2)) (x3, x4, h) hI
set_option maxRecDepth 20000 in
theorem tX12_mayOf_5 {G : GG} {X : XX} {a0 : Nat} {x1 : Int32} {x2 : Int32} {x3 : Int32} {x4 : Int32} {h : Hp}  {Q : Int32 → Hp → Prop} (C : Cx G RX12 cX12_mayOf 5 (some .int) 4 0 0 X) (k0 : kd a0 = 12) (hw : eX12_mayOf_5 a0 x1 x2 Q x3 x4 h) : R0 G X 0 0 (ZM G (fun r h' => ∃ v, r = some (.int v) ∧ Q v h') X) 5 [some (.ref (G.1 a0)), some (.int x1), some (.int x2), some (.int x3), some (.int x4)] [] h := by
  obtain ⟨N, hw⟩ := hw
  induction N generalizing x3 x4 h with
  | zero => exact hw.elim
  | succ N ih =>
    obtain ⟨K5, eK⟩ : ∃ K : Int32 → Int32 → Hp → Prop, K = (fun x3 x4 h => lpN (fun (K : Int32 × Int32 × Hp → Prop) (s : Int32 × Int32 × Hp) => fX12_mayOf_5 a0 x1 x2 Q (fun x3 x4 h => K (x3, x4, h)) s.1 s.2.1 s.2.2) N (x3, x4, h)) := ⟨_, rfl⟩
    have hw : fX12_mayOf_5 a0 x1 x2 Q (fun x3 x4 h => lpN (fun (K : Int32 × Int32 × Hp → Prop) (s : Int32 × Int32 × Hp) => fX12_mayOf_5 a0 x1 x2 Q (fun x3 x4 h => K (x3, x4, h)) s.1 s.2.1 s.2.2) N (x3, x4, h)) x3 x4 h := hw
    have hK5 : ∀ (x3 : Int32) (x4 : Int32) (h : Hp), K5 x3 x4 h → R0 G X 0 0 (ZM G (fun r h' => ∃ v, r = some (.int v) ∧ Q v h') X) 5 [some (.ref (G.1 a0)), some (.int x1), some (.int x2), some (.int x3), some (.int x4)] [] h := fun x3 x4 h q => ih (by rw [eK] at q; exact q)
    rw [← eK] at hw
    clear eK ih
    unfold fX12_mayOf_5 at hw
    refine r_iload C dX12_mayOf_5 rfl ?_
    refine r_aload_n C dX12_mayOf_7 rfl ?_
    refine gX12_118 C (k0) dX12_mayOf_8 ?_
    refine r_icmp_ge 39 C dX12_mayOf_11 (by decide) (fun hc => ?_) (fun hc => ?_)
    · replace hw := it_t hc hw
      refine r_iload_n C dX12_mayOf_39 rfl ?_
      exact r_iret C dX12_mayOf_40 ⟨_, rfl, hw⟩
    · replace hw := it_f hc hw
      refine r_aload_n C dX12_mayOf_14 rfl ?_
      refine r_iload C dX12_mayOf_15 rfl ?_
      refine r_iconst (0) C dX12_mayOf_17 (by decide) ?_
      refine r_iload_n C dX12_mayOf_18 rfl ?_
      refine r_iload_n C dX12_mayOf_19 rfl ?_
      refine kX12_233 C (k0) (sX12_mayGo (k0) hw) dX12_mayOf_20 (Nat.le_of_ble_eq_true rfl) rfl (Nat.le_of_ble_eq_true rfl) (fun v1 h2 hw => ?_)
      refine r_if_eq 33 C dX12_mayOf_23 (by decide) (fun hc => ?_) (fun hc => ?_)
      · replace hw := it_t hc hw
        obtain ⟨v3, ev3⟩ : ∃ v : Int32, v = x4 + (1 : Int32) := ⟨_, rfl⟩
        replace hw := hw v3 ev3
        refine r_iinc v3 [some (.ref (G.1 a0)), some (.int x1), some (.int x2), some (.int x3), some (.int v3)] C dX12_mayOf_33 rfl (by rw [ev3]; rfl) rfl rfl ?_
        refine r_goto 5 C dX12_mayOf_36 (by decide) ?_
        exact hK5 _ _ _ hw
      · replace hw := it_f hc hw
        refine r_iload_n C dX12_mayOf_26 rfl ?_
        refine r_iconst (1) C dX12_mayOf_27 (by decide) ?_
        refine r_iload C dX12_mayOf_28 rfl ?_
        refine r_ishl C dX12_mayOf_30 ?_
        refine r_ior C dX12_mayOf_31 ?_
        refine r_topi (fun v4 ev4 => ?_)
        replace hw := hw v4 ev4
        refine r_istore_n [some (.ref (G.1 a0)), some (.int x1), some (.int x2), some (.int v4), some (.int x4)] C dX12_mayOf_32 (Nat.le_of_ble_eq_true rfl) rfl rfl ?_
        obtain ⟨v5, ev5⟩ : ∃ v : Int32, v = x4 + (1 : Int32) := ⟨_, rfl⟩
        replace hw := hw v5 ev5
        refine r_iinc v5 [some (.ref (G.1 a0)), some (.int x1), some (.int x2), some (.int v4), some (.int v5)] C dX12_mayOf_33 rfl (by rw [ev5]; rfl) rfl rfl ?_
        refine r_goto 5 C dX12_mayOf_36 (by decide) ?_
        exact hK5 _ _ _ hw
def wX12_mayOf (a0 : Nat) (x1 : Int32) (x2 : Int32) (h : Hp) (Q : Int32 → Hp → Prop) : Prop :=
  eX12_mayOf_5 a0 x1 x2 Q (0 : Int32) (0 : Int32) h
set_option maxRecDepth 20000 in
theorem sX12_mayOf {G : GG} {a0 : Nat} {x1 : Int32} {x2 : Int32} {h : Hp} {Q : Int32 → Hp → Prop} (k0 : kd a0 = 12) (hw : wX12_mayOf a0 x1 x2 h Q) : CI G 4 yX12_mayOf cX12_mayOf 5 (some .int) [.ref (G.1 a0), .int x1, .int x2] h Q := by
  refine CO_of [some (.ref (G.1 a0)), some (.int x1), some (.int x2), none, none] (by decide) (Nat.le_of_ble_eq_true rfl) rfl (fun X C => ?_)
  unfold wX12_mayOf at hw
  refine r_iconst (0) C dX12_mayOf_0 (by decide) ?_
  refine r_istore_n [some (.ref (G.1 a0)), some (.int x1), some (.int x2), some (.int (0 : Int32)), none] C dX12_mayOf_1 (Nat.le_of_ble_eq_true rfl) rfl rfl ?_
  refine r_iconst (0) C dX12_mayOf_2 (by decide) ?_
  refine r_istore [some (.ref (G.1 a0)), some (.int x1), some (.int x2), some (.int (0 : Int32)), some (.int (0 : Int32))] C dX12_mayOf_3 (Nat.le_of_ble_eq_true rfl) rfl rfl ?_
  exact tX12_mayOf_5 C (k0) hw
def fX12_waitingFor_6 (a0 : Nat) (x1 : Int32) (x2 : Int32) (x3 : Int32) (x4 : Int32) (h : Hp) (Q : Int32 → Prop) (K6 : Int32 → Int32 → Prop) (x5 : Int32) (x6 : Int32) : Prop :=
  if (gI h a0 3) ≤ x6 then (Q x5) else (if ((shr x3 x6) &&& (1 : Int32)) = x1 then (wX12_waitsIn a0 x6 x2 x3 x4 h (fun v2 => if v2 = 0 then (∀ v3 : Int32, v3 = x6 + (1 : Int32) → (K6 x5 v3)) else (∀ v4 : Int32, v4 = (x5 ||| (shl (1 : Int32) x6)) → (∀ v5 : Int32, v5 = x6 + (1 : Int32) → (K6 v4 v5))))) else (∀ v1 : Int32, v1 = x6 + (1 : Int32) → (K6 x5 v1)))
def eX12_waitingFor_6 (a0 : Nat) (x1 : Int32) (x2 : Int32) (x3 : Int32) (x4 : Int32) (h : Hp) (Q : Int32 → Prop) (x5 : Int32) (x6 : Int32) : Prop := ∃ N, lpN (fun (K : Int32 × Int32 → Prop) (s : Int32 × Int32) => fX12_waitingFor_6 a0 x1 x2 x3 x4 h Q (fun x5 x6 => K (x5, x6)) s.1 s.2) N (x5, x6)
theorem iX12_waitingFor_6 {a0 : Nat} {x1 : Int32} {x2 : Int32} {x3 : Int32} {x4 : Int32} {h : Hp} {Q : Int32 → Prop} (I : Int32 → Int32 → Prop) (μ : Int32 → Int32 → Nat) (hs : ∀ (x5 : Int32) (x6 : Int32), I x5 x6 → ∀ K : Int32 → Int32 → Prop, (∀ (x5' : Int32) (x6' : Int32), I x5' x6' → μ x5' x6' < μ x5 x6 → K x5' x6') → fX12_waitingFor_6 a0 x1 x2 x3 x4 h Q K x5 x6) : ∀ (x5 : Int32) (x6 : Int32), I x5 x6 → eX12_waitingFor_6 a0 x1 x2 x3 x4 h Q x5 x6 := fun x5 x6 hI => lp_ind (fun s => I s.1 s.2) (fun s => μ s.1 s.2) (fun s hs' K hK => hs s.1 s.2 hs' _ (fun x5' x6' h1 h2 => hK (x5', x6') h1 h2)) (x5, x6) hI
set_option maxRecDepth 20000 in
theorem tX12_waitingFor_6 {G : GG} {X : XX} {a0 : Nat} {x1 : Int32} {x2 : Int32} {x3 : Int32} {x4 : Int32} {x5 : Int32} {x6 : Int32} {h : Hp}  {Q : Int32 → Prop} (C : Cx G RX12 cX12_waitingFor 7 (some .int) 1 0 0 X) (k0 : kd a0 = 12) (hw : eX12_waitingFor_6 a0 x1 x2 x3 x4 h Q x5 x6) : R0 G X 0 0 (ZM G (fun r h' => ∃ v, r = some (.int v) ∧ h' = h ∧ Q v) X) 6 [some (.ref (G.1 a0)), some (.int x1), some (.int x2), some (.int x3), some (.int x4), some (.int x5), some (.int x6)] [] h := by
  obtain ⟨N, hw⟩ := hw
  induction N generalizing x5 x6 with
  | zero => exact hw.elim
  | succ N ih =>
    obtain ⟨K6, eK⟩ : ∃ K : Int32 → Int32 → Prop, K = (fun x5 x6 => lpN (fun (K : Int32 × Int32 → Prop) (s : Int32 × Int32) => fX12_waitingFor_6 a0 x1 x2 x3 x4 h Q (fun x5 x6 => K (x5, x6)) s.1 s.2) N (x5, x6)) := ⟨_, rfl⟩
    have hw : fX12_waitingFor_6 a0 x1 x2 x3 x4 h Q (fun x5 x6 => lpN (fun (K : Int32 × Int32 → Prop) (s : Int32 × Int32) => fX12_waitingFor_6 a0 x1 x2 x3 x4 h Q (fun x5 x6 => K (x5, x6)) s.1 s.2) N (x5, x6)) x5 x6 := hw
    have hK6 : ∀ (x5 : Int32) (x6 : Int32), K6 x5 x6 → R0 G X 0 0 (ZM G (fun r h' => ∃ v, r = some (.int v) ∧ h' = h ∧ Q v) X) 6 [some (.ref (G.1 a0)), some (.int x1), some (.int x2), some (.int x3), some (.int x4), some (.int x5), some (.int x6)] [] h := fun x5 x6 q => ih (by rw [eK] at q; exact q)
    rw [← eK] at hw
    clear eK ih
    unfold fX12_waitingFor_6 at hw
    refine r_iload C dX12_waitingFor_6 rfl ?_
    refine r_aload_n C dX12_waitingFor_8 rfl ?_
    refine gX12_118 C (k0) dX12_waitingFor_9 ?_
    refine r_icmp_ge 53 C dX12_waitingFor_12 (by decide) (fun hc => ?_) (fun hc => ?_)
    · replace hw := it_t hc hw
      refine r_iload C dX12_waitingFor_53 rfl ?_
      exact r_iret C dX12_waitingFor_55 ⟨_, rfl, rfl, hw⟩
    · replace hw := it_f hc hw
      refine r_iload_n C dX12_waitingFor_15 rfl ?_
      refine r_iload C dX12_waitingFor_16 rfl ?_
      refine r_ishr C dX12_waitingFor_18 ?_
      refine r_iconst (1) C dX12_waitingFor_19 (by decide) ?_
      refine r_iand C dX12_waitingFor_20 ?_
      refine r_iload_n C dX12_waitingFor_21 rfl ?_
      refine r_icmp_ne 47 C dX12_waitingFor_22 (by decide) (fun hc => ?_) (fun hc => ?_)
      · replace hw := it_f hc hw
        obtain ⟨v1, ev1⟩ : ∃ v : Int32, v = x6 + (1 : Int32) := ⟨_, rfl⟩
        replace hw := hw v1 ev1
        refine r_iinc v1 [some (.ref (G.1 a0)), some (.int x1), some (.int x2), some (.int x3), some (.int x4), some (.int x5), some (.int v1)] C dX12_waitingFor_47 rfl (by rw [ev1]; rfl) rfl rfl ?_
        refine r_goto 6 C dX12_waitingFor_50 (by decide) ?_
        exact hK6 _ _ hw
      · replace hw := it_t hc hw
        refine r_aload_n C dX12_waitingFor_25 rfl ?_
        refine r_iload C dX12_waitingFor_26 rfl ?_
        refine r_iload_n C dX12_waitingFor_28 rfl ?_
        refine r_iload_n C dX12_waitingFor_29 rfl ?_
        refine r_iload C dX12_waitingFor_30 rfl ?_
        refine kX12_249 C (k0) (sX12_waitsIn (k0) hw) dX12_waitingFor_32 (Nat.le_of_ble_eq_true rfl) rfl (Nat.le_of_ble_eq_true rfl) (fun v2 hw => ?_)
        refine r_if_eq 47 C dX12_waitingFor_35 (by decide) (fun hc => ?_) (fun hc => ?_)
        · replace hw := it_t hc hw
          obtain ⟨v3, ev3⟩ : ∃ v : Int32, v = x6 + (1 : Int32) := ⟨_, rfl⟩
          replace hw := hw v3 ev3
          refine r_iinc v3 [some (.ref (G.1 a0)), some (.int x1), some (.int x2), some (.int x3), some (.int x4), some (.int x5), some (.int v3)] C dX12_waitingFor_47 rfl (by rw [ev3]; rfl) rfl rfl ?_
          refine r_goto 6 C dX12_waitingFor_50 (by decide) ?_
          exact hK6 _ _ hw
        · replace hw := it_f hc hw
          refine r_iload C dX12_waitingFor_38 rfl ?_
          refine r_iconst (1) C dX12_waitingFor_40 (by decide) ?_
          refine r_iload C dX12_waitingFor_41 rfl ?_
          refine r_ishl C dX12_waitingFor_43 ?_
          refine r_ior C dX12_waitingFor_44 ?_
          refine r_topi (fun v4 ev4 => ?_)
          replace hw := hw v4 ev4
          refine r_istore [some (.ref (G.1 a0)), some (.int x1), some (.int x2), some (.int x3), some (.int x4), some (.int v4), some (.int x6)] C dX12_waitingFor_45 (Nat.le_of_ble_eq_true rfl) rfl rfl ?_
          obtain ⟨v5, ev5⟩ : ∃ v : Int32, v = x6 + (1 : Int32) := ⟨_, rfl⟩
          replace hw := hw v5 ev5
          refine r_iinc v5 [some (.ref (G.1 a0)), some (.int x1), some (.int x2), some (.int x3), some (.int x4), some (.int v4), some (.int v5)] C dX12_waitingFor_47 rfl (by rw [ev5]; rfl) rfl rfl ?_
          refine r_goto 6 C dX12_waitingFor_50 (by decide) ?_
          exact hK6 _ _ hw
def wX12_waitingFor (a0 : Nat) (x1 : Int32) (x2 : Int32) (x3 : Int32) (x4 : Int32) (h : Hp) (Q : Int32 → Prop) : Prop :=
  eX12_waitingFor_6 a0 x1 x2 x3 x4 h Q (0 : Int32) (0 : Int32)
set_option maxRecDepth 20000 in
theorem sX12_waitingFor {G : GG} {a0 : Nat} {x1 : Int32} {x2 : Int32} {x3 : Int32} {x4 : Int32} {h : Hp} {Q : Int32 → Prop} (k0 : kd a0 = 12) (hw : wX12_waitingFor a0 x1 x2 x3 x4 h Q) : PI G 1 yX12_waitingFor cX12_waitingFor 7 (some .int) [.ref (G.1 a0), .int x1, .int x2, .int x3, .int x4] h Q := by
  refine CO_of [some (.ref (G.1 a0)), some (.int x1), some (.int x2), some (.int x3), some (.int x4), none, none] (by decide) (Nat.le_of_ble_eq_true rfl) rfl (fun X C => ?_)
  unfold wX12_waitingFor at hw
  refine r_iconst (0) C dX12_waitingFor_0 (by decide) ?_
  refine r_istore [some (.ref (G.1 a0)), some (.int x1), some (.int x2), some (.int x3), some (.int x4), some (.int (0 : Int32)), none] C dX12_waitingFor_1 (Nat.le_of_ble_eq_true rfl) rfl rfl ?_
  refine r_iconst (0) C dX12_waitingFor_3 (by decide) ?_
  refine r_istore [some (.ref (G.1 a0)), some (.int x1), some (.int x2), some (.int x3), some (.int x4), some (.int (0 : Int32)), some (.int (0 : Int32))] C dX12_waitingFor_4 (Nat.le_of_ble_eq_true rfl) rfl rfl ?_
  exact tX12_waitingFor_6 C (k0) hw
