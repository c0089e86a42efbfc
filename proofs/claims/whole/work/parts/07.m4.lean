def fX12_bestIn_21 (a0 : Nat) (x1 : Int32) (x2 : Int32) (x3 : Int32) (x5 : Int32) (h : Hp) (Q : Int32 → Prop) (K21 : Int32 → Int32 → Prop) (x6 : Int32) (x7 : Int32) : Prop :=
  if x5 < x7 then (Q x6) else (if (x7 &&& (x5 ^^^ (-1 : Int32))) = 0 then (wX12_bitsOf x7 h (fun v2 => vp_in (0 : Int32) (ln (rf a0 2)) ∧ (¬ (gI h (rf a0 2) (0 : Int32).toNatClampNeg) = 0 ∧ (if (rm v2 (gI h (rf a0 2) (0 : Int32).toNatClampNeg)) = 0 then (wX12_waitingCost a0 x1 (x2 ^^^ x7) x3 h (fun v5 => vp_in (((32 : Int32) * (x2 ^^^ x7)) + x3) (ln (rf a0 38)) ∧ (∀ v7 : Int32, v7 = (v5 + (gI h (rf a0 38) (((32 : Int32) * (x2 ^^^ x7)) + x3).toNatClampNeg)) → (if x6 ≤ v7 then (∀ v8 : Int32, v8 = x7 + (1 : Int32) → (K21 x6 v8)) else (∀ v9 : Int32, v9 = x7 + (1 : Int32) → (K21 v7 v9)))))) else (∀ v10 : Int32, v10 = x7 + (1 : Int32) → (K21 x6 v10)))))) else (∀ v1 : Int32, v1 = x7 + (1 : Int32) → (K21 x6 v1)))
def eX12_bestIn_21 (a0 : Nat) (x1 : Int32) (x2 : Int32) (x3 : Int32) (x5 : Int32) (h : Hp) (Q : Int32 → Prop) (x6 : Int32) (x7 : Int32) : Prop := ∃ N, lpN (fun (K : Int32 × Int32 → Prop) (s : Int32 × Int32) => fX12_bestIn_21 a0 x1 x2 x3 x5 h Q (fun x6 x7 => K (x6, x7)) s.1 s.2) N (x6, x7)
theorem iX12_bestIn_21 {a0 : Nat} {x1 : Int32} {x2 : Int32} {x3 : Int32} {x5 : Int32} {h : Hp} {Q : Int32 → Prop} (I : Int32 → Int32 → Prop) (μ : Int32 → Int32 → Nat) (hs : ∀ (x6 : Int32) (x7 : Int32), I x6 x7 → ∀ K : Int32 → Int32 → Prop, (∀ (x6' : Int32) (x7' : Int32), I x6' x7' → μ x6' x7' < μ x6 x7 → K x6' x7') → fX12_bestIn_21 a0 x1 x2 x3 x5 h Q K x6 x7) : ∀ (x6 : Int32) (x7 : Int32), I x6 x7 → eX12_bestIn_21 a0 x1 x2 x3 x5 h Q x6 x7 := fun x6 x7 hI => lp_ind (fun s => I s.1 s.2) (fun s => μ s.1 s.2) (fun s hs' K hK => hs s.1 s.2 hs' _ (fun x6' x7' h1 h2 => hK (x6', x7') h1 h2)) (x6, x7) hI
set_option maxRecDepth 20000 in
theorem tX12_bestIn_21 {G : GG} {X : XX} {a0 : Nat} {x1 : Int32} {x2 : Int32} {x3 : Int32} {x5 : Int32} {x6 : Int32} {x7 : Int32} {h : Hp}  {Q : Int32 → Prop} (C : Cx G RX12 cX12_bestIn 9 (some .int) 2 0 0 X) (k0 : kd a0 = 12) (hw : eX12_bestIn_21 a0 x1 x2 x3 x5 h Q x6 x7) : R0 G X 0 0 (ZM G (fun r h' => ∃ v, r = some (.int v) ∧ h' = h ∧ Q v) X) 21 [some (.ref (G.1 a0)), some (.int x1), some (.int x2), some (.int x3), none, some (.int x5), some (.int x6), some (.int x7), none] [] h := by
  obtain ⟨N, hw⟩ := hw
  induction N generalizing x6 x7 with
  | zero => exact hw.elim
  | succ N ih =>
    obtain ⟨K21, eK⟩ : ∃ K : Int32 → Int32 → Prop, K = (fun x6 x7 => lpN (fun (K : Int32 × Int32 → Prop) (s : Int32 × Int32) => fX12_bestIn_21 a0 x1 x2 x3 x5 h Q (fun x6 x7 => K (x6, x7)) s.1 s.2) N (x6, x7)) := ⟨_, rfl⟩
    have hw : fX12_bestIn_21 a0 x1 x2 x3 x5 h Q (fun x6 x7 => lpN (fun (K : Int32 × Int32 → Prop) (s : Int32 × Int32) => fX12_bestIn_21 a0 x1 x2 x3 x5 h Q (fun x6 x7 => K (x6, x7)) s.1 s.2) N (x6, x7)) x6 x7 := hw
    have hK21 : ∀ (x6 : Int32) (x7 : Int32), K21 x6 x7 → R0 G X 0 0 (ZM G (fun r h' => ∃ v, r = some (.int v) ∧ h' = h ∧ Q v) X) 21 [some (.ref (G.1 a0)), some (.int x1), some (.int x2), some (.int x3), none, some (.int x5), some (.int x6), some (.int x7), none] [] h := fun x6 x7 q => ih (by rw [eK] at q; exact q)
    rw [← eK] at hw
    clear eK ih
    unfold fX12_bestIn_21 at hw
    refine r_iload C dX12_bestIn_21 rfl ?_
    refine r_iload C dX12_bestIn_23 rfl ?_
    refine r_icmp_gt 100 C dX12_bestIn_25 (by decide) (fun hc => ?_) (fun hc => ?_)
    · replace hw := it_t hc hw
      refine r_iload C dX12_bestIn_100 rfl ?_
      exact r_iret C dX12_bestIn_102 ⟨_, rfl, rfl, hw⟩
    · replace hw := it_f hc hw
      refine r_iload C dX12_bestIn_28 rfl ?_
      refine r_iload C dX12_bestIn_30 rfl ?_
      refine r_iconst (-1) C dX12_bestIn_32 (by decide) ?_
      refine r_ixor C dX12_bestIn_33 ?_
      refine r_iand C dX12_bestIn_34 ?_
      refine r_if_ne 94 C dX12_bestIn_35 (by decide) (fun hc => ?_) (fun hc => ?_)
      · replace hw := it_f hc hw
        obtain ⟨v1, ev1⟩ : ∃ v : Int32, v = x7 + (1 : Int32) := ⟨_, rfl⟩
        replace hw := hw v1 ev1
        refine r_iinc v1 [some (.ref (G.1 a0)), some (.int x1), some (.int x2), some (.int x3), none, some (.int x5), some (.int x6), some (.int v1), none] C dX12_bestIn_94 rfl (by rw [ev1]; rfl) rfl rfl ?_
        refine r_goto 21 C dX12_bestIn_97 (by decide) ?_
        exact hK21 _ _ hw
      · replace hw := it_t hc hw
        refine r_iload C dX12_bestIn_38 rfl ?_
        refine kX12_252 C (sX12_bitsOf hw) dX12_bestIn_40 (Nat.le_of_ble_eq_true rfl) rfl (Nat.le_of_ble_eq_true rfl) (fun v2 hw => ?_)
        refine r_aload_n C dX12_bestIn_43 rfl ?_
        refine gX12_7 C (k0) dX12_bestIn_44 ?_
        refine r_iconst (0) C dX12_bestIn_47 (by decide) ?_
        obtain ⟨hi3, hw⟩ := hw
        refine r_iald C (kr12_2 (k0)) hi3 dX12_bestIn_48 ?_
        obtain ⟨hz4, hw⟩ := hw
        refine r_irem C dX12_bestIn_49 hz4 ?_
        refine r_if_eq 56 C dX12_bestIn_50 (by decide) (fun hc => ?_) (fun hc => ?_)
        · replace hw := it_t hc hw
          refine r_aload_n C dX12_bestIn_56 rfl ?_
          refine r_iload_n C dX12_bestIn_57 rfl ?_
          refine r_iload_n C dX12_bestIn_58 rfl ?_
          refine r_iload C dX12_bestIn_59 rfl ?_
          refine r_ixor C dX12_bestIn_61 ?_
          refine r_iload_n C dX12_bestIn_62 rfl ?_
          refine kX12_291 C (k0) (sX12_waitingCost (k0) hw) dX12_bestIn_63 (Nat.le_of_ble_eq_true rfl) rfl (Nat.le_of_ble_eq_true rfl) (fun v5 hw => ?_)
          refine r_aload_n C dX12_bestIn_66 rfl ?_
          refine gX12_76 C (k0) dX12_bestIn_67 ?_
          refine r_bipush (32) C dX12_bestIn_70 (by decide) ?_
          refine r_iload_n C dX12_bestIn_72 rfl ?_
          refine r_iload C dX12_bestIn_73 rfl ?_
          refine r_ixor C dX12_bestIn_75 ?_
          refine r_imul C dX12_bestIn_76 ?_
          refine r_iload_n C dX12_bestIn_77 rfl ?_
          refine r_iadd C dX12_bestIn_78 ?_
          obtain ⟨hi6, hw⟩ := hw
          refine r_iald C (kr12_38 (k0)) hi6 dX12_bestIn_79 ?_
          refine r_iadd C dX12_bestIn_80 ?_
          refine r_topi (fun v7 ev7 => ?_)
          replace hw := hw v7 ev7
          refine r_istore [some (.ref (G.1 a0)), some (.int x1), some (.int x2), some (.int x3), none, some (.int x5), some (.int x6), some (.int x7), some (.int v7)] C dX12_bestIn_81 (Nat.le_of_ble_eq_true rfl) rfl rfl ?_
          refine r_iload C dX12_bestIn_83 rfl ?_
          refine r_iload C dX12_bestIn_85 rfl ?_
          refine r_icmp_ge 94 C dX12_bestIn_87 (by decide) (fun hc => ?_) (fun hc => ?_)
          · replace hw := it_t hc hw
            obtain ⟨v8, ev8⟩ : ∃ v : Int32, v = x7 + (1 : Int32) := ⟨_, rfl⟩
            replace hw := hw v8 ev8
            refine r_iinc v8 [some (.ref (G.1 a0)), some (.int x1), some (.int x2), some (.int x3), none, some (.int x5), some (.int x6), some (.int v8), some (.int v7)] C dX12_bestIn_94 rfl (by rw [ev8]; rfl) rfl rfl ?_
            refine r_goto 21 C dX12_bestIn_97 (by decide) ?_
            refine r_weak [some (.ref (G.1 a0)), some (.int x1), some (.int x2), some (.int x3), none, some (.int x5), some (.int x6), some (.int v8), none] (lw_k (lw_k (lw_k (lw_k (lw_k (lw_k (lw_k (lw_k (lw_d (lw_n)))))))))) ?_
            exact hK21 _ _ hw
          · replace hw := it_f hc hw
            refine r_iload C dX12_bestIn_90 rfl ?_
            refine r_istore [some (.ref (G.1 a0)), some (.int x1), some (.int x2), some (.int x3), none, some (.int x5), some (.int v7), some (.int x7), some (.int v7)] C dX12_bestIn_92 (Nat.le_of_ble_eq_true rfl) rfl rfl ?_
            obtain ⟨v9, ev9⟩ : ∃ v : Int32, v = x7 + (1 : Int32) := ⟨_, rfl⟩
            replace hw := hw v9 ev9
            refine r_iinc v9 [some (.ref (G.1 a0)), some (.int x1), some (.int x2), some (.int x3), none, some (.int x5), some (.int v7), some (.int v9), some (.int v7)] C dX12_bestIn_94 rfl (by rw [ev9]; rfl) rfl rfl ?_
            refine r_goto 21 C dX12_bestIn_97 (by decide) ?_
            refine r_weak [some (.ref (G.1 a0)), some (.int x1), some (.int x2), some (.int x3), none, some (.int x5), some (.int v7), some (.int v9), none] (lw_k (lw_k (lw_k (lw_k (lw_k (lw_k (lw_k (lw_k (lw_d (lw_n)))))))))) ?_
            exact hK21 _ _ hw
        · replace hw := it_f hc hw
          refine r_goto 94 C dX12_bestIn_53 (by decide) ?_
          obtain ⟨v10, ev10⟩ : ∃ v : Int32, v = x7 + (1 : Int32) := ⟨_, rfl⟩
          replace hw := hw v10 ev10
          refine r_iinc v10 [some (.ref (G.1 a0)), some (.int x1), some (.int x2), some (.int x3), none, some (.int x5), some (.int x6), some (.int v10), none] C dX12_bestIn_94 rfl (by rw [ev10]; rfl) rfl rfl ?_
          refine r_goto 21 C dX12_bestIn_97 (by decide) ?_
          exact hK21 _ _ hw
def wX12_bestIn (a0 : Nat) (x1 : Int32) (x2 : Int32) (x3 : Int32) (x4 : Int32) (h : Hp) (Q : Int32 → Prop) : Prop :=
  wX12_waitingFor a0 (1 : Int32) x1 x2 x3 h (fun v1 => ∀ v2 : Int32, v2 = (v1 &&& x4) → (eX12_bestIn_21 a0 x1 x2 x3 v2 h Q (1000000 : Int32) (0 : Int32)))
set_option maxRecDepth 20000 in
theorem sX12_bestIn {G : GG} {a0 : Nat} {x1 : Int32} {x2 : Int32} {x3 : Int32} {x4 : Int32} {h : Hp} {Q : Int32 → Prop} (k0 : kd a0 = 12) (hw : wX12_bestIn a0 x1 x2 x3 x4 h Q) : PI G 2 yX12_bestIn cX12_bestIn 9 (some .int) [.ref (G.1 a0), .int x1, .int x2, .int x3, .int x4] h Q := by
  refine CO_of [some (.ref (G.1 a0)), some (.int x1), some (.int x2), some (.int x3), some (.int x4), none, none, none, none] (by decide) (Nat.le_of_ble_eq_true rfl) rfl (fun X C => ?_)
  unfold wX12_bestIn at hw
  refine r_aload_n C dX12_bestIn_0 rfl ?_
  refine r_iconst (1) C dX12_bestIn_1 (by decide) ?_
  refine r_iload_n C dX12_bestIn_2 rfl ?_
  refine r_iload_n C dX12_bestIn_3 rfl ?_
  refine r_iload_n C dX12_bestIn_4 rfl ?_
  refine kX12_287 C (k0) (sX12_waitingFor (k0) hw) dX12_bestIn_5 (Nat.le_of_ble_eq_true rfl) rfl (Nat.le_of_ble_eq_true rfl) (fun v1 hw => ?_)
  refine r_iload C dX12_bestIn_8 rfl ?_
  refine r_iand C dX12_bestIn_10 ?_
  refine r_topi (fun v2 ev2 => ?_)
  replace hw := hw v2 ev2
  refine r_istore [some (.ref (G.1 a0)), some (.int x1), some (.int x2), some (.int x3), some (.int x4), some (.int v2), none, none, none] C dX12_bestIn_11 (Nat.le_of_ble_eq_true rfl) rfl rfl ?_
  refine r_ldc_w (1000000) C wd1453 dX12_bestIn_13 ?_
  refine r_istore [some (.ref (G.1 a0)), some (.int x1), some (.int x2), some (.int x3), some (.int x4), some (.int v2), some (.int (1000000 : Int32)), none, none] C dX12_bestIn_16 (Nat.le_of_ble_eq_true rfl) rfl rfl ?_
  refine r_iconst (0) C dX12_bestIn_18 (by decide) ?_
  refine r_istore [some (.ref (G.1 a0)), some (.int x1), some (.int x2), some (.int x3), some (.int x4), some (.int v2), some (.int (1000000 : Int32)), some (.int (0 : Int32)), none] C dX12_bestIn_19 (Nat.le_of_ble_eq_true rfl) rfl rfl ?_
  refine r_weak [some (.ref (G.1 a0)), some (.int x1), some (.int x2), some (.int x3), none, some (.int v2), some (.int (1000000 : Int32)), some (.int (0 : Int32)), none] (lw_k (lw_k (lw_k (lw_k (lw_d (lw_k (lw_k (lw_k (lw_k (lw_n)))))))))) ?_
  exact tX12_bestIn_21 C (k0) hw
def fX12_bestOut_21 (a0 : Nat) (x1 : Int32) (x2 : Int32) (x3 : Int32) (x5 : Int32) (x6 : Int32) (h : Hp) (Q : Int32 → Prop) (K21 : Int32 → Int32 → Prop) (x7 : Int32) (x8 : Int32) : Prop :=
  if x6 < x8 then (Q x7) else (if (x8 &&& (x6 ^^^ (-1 : Int32))) = 0 then (wX12_bitsOf x8 h (fun v2 => vp_in (0 : Int32) (ln (rf a0 2)) ∧ (¬ (gI h (rf a0 2) (0 : Int32).toNatClampNeg) = 0 ∧ (if (rm v2 (gI h (rf a0 2) (0 : Int32).toNatClampNeg)) = 0 then (wX12_bestIn a0 x1 (x2 ||| x8) (x3 ||| x8) x5 h (fun v5 => if x7 ≤ v5 then (∀ v6 : Int32, v6 = x8 + (1 : Int32) → (K21 x7 v6)) else (∀ v7 : Int32, v7 = x8 + (1 : Int32) → (K21 v5 v7)))) else (∀ v8 : Int32, v8 = x8 + (1 : Int32) → (K21 x7 v8)))))) else (∀ v1 : Int32, v1 = x8 + (1 : Int32) → (K21 x7 v1)))
def eX12_bestOut_21 (a0 : Nat) (x1 : Int32) (x2 : Int32) (x3 : Int32) (x5 : Int32) (x6 : Int32) (h : Hp) (Q : Int32 → Prop) (x7 : Int32) (x8 : Int32) : Prop := ∃ N, lpN (fun (K : Int32 × Int32 → Prop) (s : Int32 × Int32) => fX12_bestOut_21 a0 x1 x2 x3 x5 x6 h Q (fun x7 x8 => K (x7, x8)) s.1 s.2) N (x7, x8)
theorem iX12_bestOut_21 {a0 : Nat} {x1 : Int32} {x2 : Int32} {x3 : Int32} {x5 : Int32} {x6 : Int32} {h : Hp} {Q : Int32 → Prop} (I : Int32 → Int32 → Prop) (μ : Int32 → Int32 → Nat) (hs : ∀ (x7 : Int32) (x8 : Int32), I x7 x8 → ∀ K : Int32 → Int32 → Prop, (∀ (x7' : Int32) (x8' : Int32), I x7' x8' → μ x7' x8' < μ x7 x8 → K x7' x8') → fX12_bestOut_21 a0 x1 x2 x3 x5 x6 h Q K x7 x8) : ∀ (x7 : Int32) (x8 : Int32), I x7 x8 → eX12_bestOut_21 a0 x1 x2 x3 x5 x6 h Q x7 x8 := fun x7 x8 hI => lp_ind (fun s => I s.1 s.2) (fun s => μ s.1 s.2) (fun s hs' K hK => hs s.1 s.2 hs' _ (fun x7' x8' h1 h2 => hK (x7', x8') h1 h2)) (x7, x8) hI
set_option maxRecDepth 20000 in
theorem tX12_bestOut_21 {G : GG} {X : XX} {a0 : Nat} {x1 : Int32} {x2 : Int32} {x3 : Int32} {x5 : Int32} {x6 : Int32} {x7 : Int32} {x8 : Int32} {h : Hp}  {Q : Int32 → Prop} (C : Cx G RX12 cX12_bestOut 10 (some .int) 3 0 0 X) (k0 : kd a0 = 12) (hw : eX12_bestOut_21 a0 x1 x2 x3 x5 x6 h Q x7 x8) : R0 G X 0 0 (ZM G (fun r h' => ∃ v, r = some (.int v) ∧ h' = h ∧ Q v) X) 21 [some (.ref (G.1 a0)), some (.int x1), some (.int x2), some (.int x3), none, some (.int x5), some (.int x6), some (.int x7), some (.int x8), none] [] h := by
  obtain ⟨N, hw⟩ := hw
  induction N generalizing x7 x8 with
  | zero => exact hw.elim
  | succ N ih =>
    obtain ⟨K21, eK⟩ : ∃ K : Int32 → Int32 → Prop, K = (fun x7 x8 => lpN (fun (K : Int32 × Int32 → Prop) (s : Int32 × Int32) => fX12_bestOut_21 a0 x1 x2 x3 x5 x6 h Q (fun x7 x8 => K (x7, x8)) s.1 s.2) N (x7, x8)) := ⟨_, rfl⟩
    have hw : fX12_bestOut_21 a0 x1 x2 x3 x5 x6 h Q (fun x7 x8 => lpN (fun (K : Int32 × Int32 → Prop) (s : Int32 × Int32) => fX12_bestOut_21 a0 x1 x2 x3 x5 x6 h Q (fun x7 x8 => K (x7, x8)) s.1 s.2) N (x7, x8)) x7 x8 := hw
    have hK21 : ∀ (x7 : Int32) (x8 : Int32), K21 x7 x8 → R0 G X 0 0 (ZM G (fun r h' => ∃ v, r = some (.int v) ∧ h' = h ∧ Q v) X) 21 [some (.ref (G.1 a0)), some (.int x1), some (.int x2), some (.int x3), none, some (.int x5), some (.int x6), some (.int x7), some (.int x8), none] [] h := fun x7 x8 q => ih (by rw [eK] at q; exact q)
    rw [← eK] at hw
    clear eK ih
    unfold fX12_bestOut_21 at hw
    refine r_iload C dX12_bestOut_21 rfl ?_
    refine r_iload C dX12_bestOut_23 rfl ?_
    refine r_icmp_gt 90 C dX12_bestOut_25 (by decide) (fun hc => ?_) (fun hc => ?_)
    · replace hw := it_t hc hw
      refine r_iload C dX12_bestOut_90 rfl ?_
      exact r_iret C dX12_bestOut_92 ⟨_, rfl, rfl, hw⟩
    · replace hw := it_f hc hw
      refine r_iload C dX12_bestOut_28 rfl ?_
      refine r_iload C dX12_bestOut_30 rfl ?_
      refine r_iconst (-1) C dX12_bestOut_32 (by decide) ?_
      refine r_ixor C dX12_bestOut_33 ?_
      refine r_iand C dX12_bestOut_34 ?_
      refine r_if_ne 84 C dX12_bestOut_35 (by decide) (fun hc => ?_) (fun hc => ?_)
      · replace hw := it_f hc hw
        obtain ⟨v1, ev1⟩ : ∃ v : Int32, v = x8 + (1 : Int32) := ⟨_, rfl⟩
        replace hw := hw v1 ev1
        refine r_iinc v1 [some (.ref (G.1 a0)), some (.int x1), some (.int x2), some (.int x3), none, some (.int x5), some (.int x6), some (.int x7), some (.int v1), none] C dX12_bestOut_84 rfl (by rw [ev1]; rfl) rfl rfl ?_
        refine r_goto 21 C dX12_bestOut_87 (by decide) ?_
        exact hK21 _ _ hw
      · replace hw := it_t hc hw
        refine r_iload C dX12_bestOut_38 rfl ?_
        refine kX12_252 C (sX12_bitsOf hw) dX12_bestOut_40 (Nat.le_of_ble_eq_true rfl) rfl (Nat.le_of_ble_eq_true rfl) (fun v2 hw => ?_)
        refine r_aload_n C dX12_bestOut_43 rfl ?_
        refine gX12_7 C (k0) dX12_bestOut_44 ?_
        refine r_iconst (0) C dX12_bestOut_47 (by decide) ?_
        obtain ⟨hi3, hw⟩ := hw
        refine r_iald C (kr12_2 (k0)) hi3 dX12_bestOut_48 ?_
        obtain ⟨hz4, hw⟩ := hw
        refine r_irem C dX12_bestOut_49 hz4 ?_
        refine r_if_eq 56 C dX12_bestOut_50 (by decide) (fun hc => ?_) (fun hc => ?_)
        · replace hw := it_t hc hw
          refine r_aload_n C dX12_bestOut_56 rfl ?_
          refine r_iload_n C dX12_bestOut_57 rfl ?_
          refine r_iload_n C dX12_bestOut_58 rfl ?_
          refine r_iload C dX12_bestOut_59 rfl ?_
          refine r_ior C dX12_bestOut_61 ?_
          refine r_iload_n C dX12_bestOut_62 rfl ?_
          refine r_iload C dX12_bestOut_63 rfl ?_
          refine r_ior C dX12_bestOut_65 ?_
          refine r_iload C dX12_bestOut_66 rfl ?_
          refine kX12_294 C (k0) (sX12_bestIn (k0) hw) dX12_bestOut_68 (Nat.le_of_ble_eq_true rfl) rfl (Nat.le_of_ble_eq_true rfl) (fun v5 hw => ?_)
          refine r_istore [some (.ref (G.1 a0)), some (.int x1), some (.int x2), some (.int x3), none, some (.int x5), some (.int x6), some (.int x7), some (.int x8), some (.int v5)] C dX12_bestOut_71 (Nat.le_of_ble_eq_true rfl) rfl rfl ?_
          refine r_iload C dX12_bestOut_73 rfl ?_
          refine r_iload C dX12_bestOut_75 rfl ?_
          refine r_icmp_ge 84 C dX12_bestOut_77 (by decide) (fun hc => ?_) (fun hc => ?_)
          · replace hw := it_t hc hw
            obtain ⟨v6, ev6⟩ : ∃ v : Int32, v = x8 + (1 : Int32) := ⟨_, rfl⟩
            replace hw := hw v6 ev6
            refine r_iinc v6 [some (.ref (G.1 a0)), some (.int x1), some (.int x2), some (.int x3), none, some (.int x5), some (.int x6), some (.int x7), some (.int v6), some (.int v5)] C dX12_bestOut_84 rfl (by rw [ev6]; rfl) rfl rfl ?_
            refine r_goto 21 C dX12_bestOut_87 (by decide) ?_
            refine r_weak [some (.ref (G.1 a0)), some (.int x1), some (.int x2), some (.int x3), none, some (.int x5), some (.int x6), some (.int x7), some (.int v6), none] (lw_k (lw_k (lw_k (lw_k (lw_k (lw_k (lw_k (lw_k (lw_k (lw_d (lw_n))))))))))) ?_
            exact hK21 _ _ hw
          · replace hw := it_f hc hw
            refine r_iload C dX12_bestOut_80 rfl ?_
            refine r_istore [some (.ref (G.1 a0)), some (.int x1), some (.int x2), some (.int x3), none, some (.int x5), some (.int x6), some (.int v5), some (.int x8), some (.int v5)] C dX12_bestOut_82 (Nat.le_of_ble_eq_true rfl) rfl rfl ?_
            obtain ⟨v7, ev7⟩ : ∃ v : Int32, v = x8 + (1 : Int32) := ⟨_, rfl⟩
            replace hw := hw v7 ev7
            refine r_iinc v7 [some (.ref (G.1 a0)), some (.int x1), some (.int x2), some (.int x3), none, some (.int x5), some (.int x6), some (.int v5), some (.int v7), some (.int v5)] C dX12_bestOut_84 rfl (by rw [ev7]; rfl) rfl rfl ?_
            refine r_goto 21 C dX12_bestOut_87 (by decide) ?_
            refine r_weak [some (.ref (G.1 a0)), some (.int x1), some (.int x2), some (.int x3), none, some (.int x5), some (.int x6), some (.int v5), some (.int v7), none] (lw_k (lw_k (lw_k (lw_k (lw_k (lw_k (lw_k (lw_k (lw_k (lw_d (lw_n))))))))))) ?_
            exact hK21 _ _ hw
        · replace hw := it_f hc hw
          refine r_goto 84 C dX12_bestOut_53 (by decide) ?_
          obtain ⟨v8, ev8⟩ : ∃ v : Int32, v = x8 + (1 : Int32) := ⟨_, rfl⟩
          replace hw := hw v8 ev8
          refine r_iinc v8 [some (.ref (G.1 a0)), some (.int x1), some (.int x2), some (.int x3), none, some (.int x5), some (.int x6), some (.int x7), some (.int v8), none] C dX12_bestOut_84 rfl (by rw [ev8]; rfl) rfl rfl ?_
          refine r_goto 21 C dX12_bestOut_87 (by decide) ?_
          exact hK21 _ _ hw
def wX12_bestOut (a0 : Nat) (x1 : Int32) (x2 : Int32) (x3 : Int32) (x4 : Int32) (x5 : Int32) (h : Hp) (Q : Int32 → Prop) : Prop :=
  wX12_waitingFor a0 (0 : Int32) x1 x2 x3 h (fun v1 => ∀ v2 : Int32, v2 = (v1 &&& x4) → (eX12_bestOut_21 a0 x1 x2 x3 x5 v2 h Q (1000000 : Int32) (0 : Int32)))
set_option maxRecDepth 20000 in
theorem sX12_bestOut {G : GG} {a0 : Nat} {x1 : Int32} {x2 : Int32} {x3 : Int32} {x4 : Int32} {x5 : Int32} {h : Hp} {Q : Int32 → Prop} (k0 : kd a0 = 12) (hw : wX12_bestOut a0 x1 x2 x3 x4 x5 h Q) : PI G 3 yX12_bestOut cX12_bestOut 10 (some .int) [.ref (G.1 a0), .int x1, .int x2, .int x3, .int x4, .int x5] h Q := by
  refine CO_of [some (.ref (G.1 a0)), some (.int x1), some (.int x2), some (.int x3), some (.int x4), some (.int x5), none, none, none, none] (by decide) (Nat.le_of_ble_eq_true rfl) rfl (fun X C => ?_)
  unfold wX12_bestOut at hw
  refine r_aload_n C dX12_bestOut_0 rfl ?_
  refine r_iconst (0) C dX12_bestOut_1 (by decide) ?_
  refine r_iload_n C dX12_bestOut_2 rfl ?_
  refine r_iload_n C dX12_bestOut_3 rfl ?_
  refine r_iload_n C dX12_bestOut_4 rfl ?_
  refine kX12_287 C (k0) (sX12_waitingFor (k0) hw) dX12_bestOut_5 (Nat.le_of_ble_eq_true rfl) rfl (Nat.le_of_ble_eq_true rfl) (fun v1 hw => ?_)
  refine r_iload C dX12_bestOut_8 rfl ?_
  refine r_iand C dX12_bestOut_10 ?_
  refine r_topi (fun v2 ev2 => ?_)
  replace hw := hw v2 ev2
  refine r_istore [some (.ref (G.1 a0)), some (.int x1), some (.int x2), some (.int x3), some (.int x4), some (.int x5), some (.int v2), none, none, none] C dX12_bestOut_11 (Nat.le_of_ble_eq_true rfl) rfl rfl ?_
  refine r_ldc_w (1000000) C wd1453 dX12_bestOut_13 ?_
  refine r_istore [some (.ref (G.1 a0)), some (.int x1), some (.int x2), some (.int x3), some (.int x4), some (.int x5), some (.int v2), some (.int (1000000 : Int32)), none, none] C dX12_bestOut_16 (Nat.le_of_ble_eq_true rfl) rfl rfl ?_
  refine r_iconst (0) C dX12_bestOut_18 (by decide) ?_
  refine r_istore [some (.ref (G.1 a0)), some (.int x1), some (.int x2), some (.int x3), some (.int x4), some (.int x5), some (.int v2), some (.int (1000000 : Int32)), some (.int (0 : Int32)), none] C dX12_bestOut_19 (Nat.le_of_ble_eq_true rfl) rfl rfl ?_
  refine r_weak [some (.ref (G.1 a0)), some (.int x1), some (.int x2), some (.int x3), none, some (.int x5), some (.int v2), some (.int (1000000 : Int32)), some (.int (0 : Int32)), none] (lw_k (lw_k (lw_k (lw_k (lw_d (lw_k (lw_k (lw_k (lw_k (lw_k (lw_n))))))))))) ?_
  exact tX12_bestOut_21 C (k0) hw
def fX12_best_140 (a0 : Nat) (x1 : Int32) (x2 : Int32) (K52 : Int32 → Hp → Prop) (Q : Int32 → Hp → Prop) (K140 : Int32 → Hp → Prop) (x5 : Int32) (h : Hp) : Prop :=
  if (1024 : Int32) ≤ x5 then (∀ v1 : Int32, v1 = x2 + (-1 : Int32) → (K52 v1 h)) else (vp_in x5 (ln (rf a0 37)) ∧ (vp_in x5 (ln (rf a0 38)) ∧ (∀ h4 : Hp, h4 = sI h (rf a0 38) x5.toNatClampNeg (gI h (rf a0 37) x5.toNatClampNeg) → (∀ v5 : Int32, v5 = x5 + (1 : Int32) → (K140 v5 h4)))))
def eX12_best_140 (a0 : Nat) (x1 : Int32) (x2 : Int32) (K52 : Int32 → Hp → Prop) (Q : Int32 → Hp → Prop) (x5 : Int32) (h : Hp) : Prop := ∃ N, lpN (fun (K : Int32 × Hp → Prop) (s : Int32 × Hp) => fX12_best_140 a0 x1 x2 K52 Q (fun x5 h => K (x5, h)) s.1 s.2) N (x5, h)
theorem iX12_best_140 {a0 : Nat} {x1 : Int32} {x2 : Int32} {K52 : Int32 → Hp → Prop} {Q : Int32 → Hp → Prop} (I : Int32 → Hp → Prop) (μ : Int32 → Hp → Nat) (hs : ∀ (x5 : Int32) (h : Hp), I x5 h → ∀ K : Int32 → Hp → Prop, (∀ (x5' : Int32) (h' : Hp), I x5' h' → μ x5' h' < μ x5 h → K x5' h') → fX12_best_140 a0 x1 x2 K52 Q K x5 h) : ∀ (x5 : Int32) (h : Hp), I x5 h → eX12_best_140 a0 x1 x2 K52 Q x5 h := fun x5 h hI => lp_ind (fun s => I s.1 s.2) (fun s => μ s.1 s.2) (fun s hs' K hK => hs s.1 s.2 hs' _ (fun x5' h' h1 h2 => hK (x5', h') h1 h2)) (x5, h) hI
set_option maxRecDepth 20000 in
theorem tX12_best_140 {G : GG} {X : XX} {a0 : Nat} {x1 : Int32} {x2 : Int32} {x5 : Int32} {h : Hp}  {K52 : Int32 → Hp → Prop} {Q : Int32 → Hp → Prop} (C : Cx G RX12 cX12_best 7 (some .int) 5 0 0 X) (k0 : kd a0 = 12) (hK52 : ∀ (y2 : Int32) (h' : Hp), K52 y2 h' → R0 G X 0 0 (ZM G (fun r h' => ∃ v, r = some (.int v) ∧ Q v h') X) 52 [some (.ref (G.1 a0)), some (.int x1), some (.int y2), none, none, none, none] [] h') (hw : eX12_best_140 a0 x1 x2 K52 Q x5 h) : R0 G X 0 0 (ZM G (fun r h' => ∃ v, r = some (.int v) ∧ Q v h') X) 140 [some (.ref (G.1 a0)), some (.int x1), some (.int x2), none, none, some (.int x5), none] [] h := by
  obtain ⟨N, hw⟩ := hw
  induction N generalizing x5 h with
  | zero => exact hw.elim
  | succ N ih =>
    obtain ⟨K140, eK⟩ : ∃ K : Int32 → Hp → Prop, K = (fun x5 h => lpN (fun (K : Int32 × Hp → Prop) (s : Int32 × Hp) => fX12_best_140 a0 x1 x2 K52 Q (fun x5 h => K (x5, h)) s.1 s.2) N (x5, h)) := ⟨_, rfl⟩
    have hw : fX12_best_140 a0 x1 x2 K52 Q (fun x5 h => lpN (fun (K : Int32 × Hp → Prop) (s : Int32 × Hp) => fX12_best_140 a0 x1 x2 K52 Q (fun x5 h => K (x5, h)) s.1 s.2) N (x5, h)) x5 h := hw
    have hK140 : ∀ (x5 : Int32) (h : Hp), K140 x5 h → R0 G X 0 0 (ZM G (fun r h' => ∃ v, r = some (.int v) ∧ Q v h') X) 140 [some (.ref (G.1 a0)), some (.int x1), some (.int x2), none, none, some (.int x5), none] [] h := fun x5 h q => ih (by rw [eK] at q; exact q)
    rw [← eK] at hw
    clear eK ih
    unfold fX12_best_140 at hw
    refine r_iload C dX12_best_140 rfl ?_
    refine r_sipush (1024) C dX12_best_142 (by decide) ?_
    refine r_icmp_ge 168 C dX12_best_145 (by decide) (fun hc => ?_) (fun hc => ?_)
    · replace hw := it_t hc hw
      obtain ⟨v1, ev1⟩ : ∃ v : Int32, v = x2 + (-1 : Int32) := ⟨_, rfl⟩
      replace hw := hw v1 ev1
      refine r_iinc v1 [some (.ref (G.1 a0)), some (.int x1), some (.int v1), none, none, some (.int x5), none] C dX12_best_168 rfl (by rw [ev1]; rfl) rfl rfl ?_
      refine r_goto 52 C dX12_best_171 (by decide) ?_
      refine r_weak [some (.ref (G.1 a0)), some (.int x1), some (.int v1), none, none, none, none] (lw_k (lw_k (lw_k (lw_k (lw_k (lw_d (lw_k (lw_n)))))))) ?_
      exact hK52 _ _ hw
    · replace hw := it_f hc hw
      refine r_aload_n C dX12_best_148 rfl ?_
      refine gX12_76 C (k0) dX12_best_149 ?_
      refine r_iload C dX12_best_152 rfl ?_
      refine r_aload_n C dX12_best_154 rfl ?_
      refine gX12_73 C (k0) dX12_best_155 ?_
      refine r_iload C dX12_best_158 rfl ?_
      obtain ⟨hi2, hw⟩ := hw
      refine r_iald C (kr12_37 (k0)) hi2 dX12_best_160 ?_
      obtain ⟨hi3, hw⟩ := hw
      refine r_iast C (kr12_38 (k0)) hi3 dX12_best_161 ?_
      refine r_toph (fun h4 eh4 => ?_)
      replace hw := hw h4 eh4
      obtain ⟨v5, ev5⟩ : ∃ v : Int32, v = x5 + (1 : Int32) := ⟨_, rfl⟩
      replace hw := hw v5 ev5
      refine r_iinc v5 [some (.ref (G.1 a0)), some (.int x1), some (.int x2), none, none, some (.int v5), none] C dX12_best_162 rfl (by rw [ev5]; rfl) rfl rfl ?_
      refine r_goto 140 C dX12_best_165 (by decide) ?_
      exact hK140 _ _ hw
def fX12_best_83 (a0 : Nat) (x1 : Int32) (x2 : Int32) (x3 : Int32) (x4 : Int32) (x5 : Int32) (K52 : Int32 → Hp → Prop) (K74 : Int32 → Hp → Prop) (Q : Int32 → Hp → Prop) (K83 : Int32 → Hp → Prop) (x6 : Int32) (h : Hp) : Prop :=
  if x5 < x6 then (∀ v1 : Int32, v1 = x5 + (1 : Int32) → (K74 v1 h)) else (if (x6 &&& (x5 ^^^ (-1 : Int32))) = 0 then (wX12_bestOut a0 x2 x6 x5 x3 x4 h (fun v3 => vp_in (((32 : Int32) * x6) + x5) (ln (rf a0 37)) ∧ (∀ h5 : Hp, h5 = sI h (rf a0 37) (((32 : Int32) * x6) + x5).toNatClampNeg v3 → (∀ v6 : Int32, v6 = x6 + (1 : Int32) → (K83 v6 h5))))) else (∀ v2 : Int32, v2 = x6 + (1 : Int32) → (K83 v2 h)))
def eX12_best_83 (a0 : Nat) (x1 : Int32) (x2 : Int32) (x3 : Int32) (x4 : Int32) (x5 : Int32) (K52 : Int32 → Hp → Prop) (K74 : Int32 → Hp → Prop) (Q : Int32 → Hp → Prop) (x6 : Int32) (h : Hp) : Prop := ∃ N, lpN (fun (K : Int32 × Hp → Prop) (s : Int32 × Hp) => fX12_best_83 a0 x1 x2 x3 x4 x5 K52 K74 Q (fun x6 h => K (x6, h)) s.1 s.2) N (x6, h)
theorem iX12_best_83 {a0 : Nat} {x1 : Int32} {x2 : Int32} {x3 : Int32} {x4 : Int32} {x5 : Int32} {K52 : Int32 → Hp → Prop} {K74 : Int32 → Hp → Prop} {Q : Int32 → Hp → Prop} (I : Int32 → Hp → Prop) (μ : Int32 → Hp → Nat) (hs : ∀ (x6 : Int32) (h : Hp), I x6 h → ∀ K : Int32 → Hp → Prop, (∀ (x6' : Int32) (h' : Hp), I x6' h' → μ x6' h' < μ x6 h → K x6' h') → fX12_best_83 a0 x1 x2 x3 x4 x5 K52 K74 Q K x6 h) : ∀ (x6 : Int32) (h : Hp), I x6 h → eX12_best_83 a0 x1 x2 x3 x4 x5 K52 K74 Q x6 h := fun x6 h hI => lp_ind (fun s => I s.1 s.2) (fun s => μ s.1 s.2) (fun s hs' K hK => hs s.1 s.2 hs' _ (fun x6' h' h1 h2 => hK (x6', h') h1 h2)) (x6, h) hI
set_option maxRecDepth 20000 in
theorem tX12_best_83 {G : GG} {X : XX} {a0 : Nat} {x1 : Int32} {x2 : Int32} {x3 : Int32} {x4 : Int32} {x5 : Int32} {x6 : Int32} {h : Hp}  {K52 : Int32 → Hp → Prop} {K74 : Int32 → Hp → Prop} {Q : Int32 → Hp → Prop} (C : Cx G RX12 cX12_best 7 (some .int) 5 0 0 X) (k0 : kd a0 = 12) (hK52 : ∀ (y2 : Int32) (h' : Hp), K52 y2 h' → R0 G X 0 0 (ZM G (fun r h' => ∃ v, r = some (.int v) ∧ Q v h') X) 52 [some (.ref (G.1 a0)), some (.int x1), some (.int y2), none, none, none, none] [] h') (hK74 : ∀ (y5 : Int32) (h' : Hp), K74 y5 h' → R0 G X 0 0 (ZM G (fun r h' => ∃ v, r = some (.int v) ∧ Q v h') X) 74 [some (.ref (G.1 a0)), some (.int x1), some (.int x2), some (.int x3), some (.int x4), some (.int y5), none] [] h') (hw : eX12_best_83 a0 x1 x2 x3 x4 x5 K52 K74 Q x6 h) : R0 G X 0 0 (ZM G (fun r h' => ∃ v, r = some (.int v) ∧ Q v h') X) 83 [some (.ref (G.1 a0)), some (.int x1), some (.int x2), some (.int x3), some (.int x4), some (.int x5), some (.int x6)] [] h := by
  obtain ⟨N, hw⟩ := hw
  induction N generalizing x6 h with
  | zero => exact hw.elim
  | succ N ih =>
    obtain ⟨K83, eK⟩ : ∃ K : Int32 → Hp → Prop, K = (fun x6 h => lpN (fun (K : Int32 × Hp → Prop) (s : Int32 × Hp) => fX12_best_83 a0 x1 x2 x3 x4 x5 K52 K74 Q (fun x6 h => K (x6, h)) s.1 s.2) N (x6, h)) := ⟨_, rfl⟩
    have hw : fX12_best_83 a0 x1 x2 x3 x4 x5 K52 K74 Q (fun x6 h => lpN (fun (K : Int32 × Hp → Prop) (s : Int32 × Hp) => fX12_best_83 a0 x1 x2 x3 x4 x5 K52 K74 Q (fun x6 h => K (x6, h)) s.1 s.2) N (x6, h)) x6 h := hw
    have hK83 : ∀ (x6 : Int32) (h : Hp), K83 x6 h → R0 G X 0 0 (ZM G (fun r h' => ∃ v, r = some (.int v) ∧ Q v h') X) 83 [some (.ref (G.1 a0)), some (.int x1), some (.int x2), some (.int x3), some (.int x4), some (.int x5), some (.int x6)] [] h := fun x6 h q => ih (by rw [eK] at q; exact q)
    rw [← eK] at hw
    clear eK ih
    unfold fX12_best_83 at hw
    refine r_iload C dX12_best_83 rfl ?_
    refine r_iload C dX12_best_85 rfl ?_
    refine r_icmp_gt 131 C dX12_best_87 (by decide) (fun hc => ?_) (fun hc => ?_)
    · replace hw := it_t hc hw
      obtain ⟨v1, ev1⟩ : ∃ v : Int32, v = x5 + (1 : Int32) := ⟨_, rfl⟩
      replace hw := hw v1 ev1
      refine r_iinc v1 [some (.ref (G.1 a0)), some (.int x1), some (.int x2), some (.int x3), some (.int x4), some (.int v1), some (.int x6)] C dX12_best_131 rfl (by rw [ev1]; rfl) rfl rfl ?_
      refine r_goto 74 C dX12_best_134 (by decide) ?_
      refine r_weak [some (.ref (G.1 a0)), some (.int x1), some (.int x2), some (.int x3), some (.int x4), some (.int v1), none] (lw_k (lw_k (lw_k (lw_k (lw_k (lw_k (lw_d (lw_n)))))))) ?_
      exact hK74 _ _ hw
    · replace hw := it_f hc hw
      refine r_iload C dX12_best_90 rfl ?_
      refine r_iload C dX12_best_92 rfl ?_
      refine r_iconst (-1) C dX12_best_94 (by decide) ?_
      refine r_ixor C dX12_best_95 ?_
      refine r_iand C dX12_best_96 ?_
      refine r_if_ne 125 C dX12_best_97 (by decide) (fun hc => ?_) (fun hc => ?_)
      · replace hw := it_f hc hw
        obtain ⟨v2, ev2⟩ : ∃ v : Int32, v = x6 + (1 : Int32) := ⟨_, rfl⟩
        replace hw := hw v2 ev2
        refine r_iinc v2 [some (.ref (G.1 a0)), some (.int x1), some (.int x2), some (.int x3), some (.int x4), some (.int x5), some (.int v2)] C dX12_best_125 rfl (by rw [ev2]; rfl) rfl rfl ?_
        refine r_goto 83 C dX12_best_128 (by decide) ?_
        exact hK83 _ _ hw
      · replace hw := it_t hc hw
        refine r_aload_n C dX12_best_100 rfl ?_
        refine gX12_73 C (k0) dX12_best_101 ?_
        refine r_bipush (32) C dX12_best_104 (by decide) ?_
        refine r_iload C dX12_best_106 rfl ?_
        refine r_imul C dX12_best_108 ?_
        refine r_iload C dX12_best_109 rfl ?_
        refine r_iadd C dX12_best_111 ?_
        refine r_aload_n C dX12_best_112 rfl ?_
        refine r_iload_n C dX12_best_113 rfl ?_
        refine r_iload C dX12_best_114 rfl ?_
        refine r_iload C dX12_best_116 rfl ?_
        refine r_iload_n C dX12_best_118 rfl ?_
        refine r_iload C dX12_best_119 rfl ?_
        refine kX12_300 C (k0) (sX12_bestOut (k0) hw) dX12_best_121 (Nat.le_of_ble_eq_true rfl) rfl (Nat.le_of_ble_eq_true rfl) (fun v3 hw => ?_)
        obtain ⟨hi4, hw⟩ := hw
        refine r_iast C (kr12_37 (k0)) hi4 dX12_best_124 ?_
        refine r_toph (fun h5 eh5 => ?_)
        replace hw := hw h5 eh5
        obtain ⟨v6, ev6⟩ : ∃ v : Int32, v = x6 + (1 : Int32) := ⟨_, rfl⟩
        replace hw := hw v6 ev6
        refine r_iinc v6 [some (.ref (G.1 a0)), some (.int x1), some (.int x2), some (.int x3), some (.int x4), some (.int x5), some (.int v6)] C dX12_best_125 rfl (by rw [ev6]; rfl) rfl rfl ?_
        refine r_goto 83 C dX12_best_128 (by decide) ?_
        exact hK83 _ _ hw
def fX12_best_74 (a0 : Nat) (x1 : Int32) (x2 : Int32) (x3 : Int32) (x4 : Int32) (K52 : Int32 → Hp → Prop) (Q : Int32 → Hp → Prop) (K74 : Int32 → Hp → Prop) (x5 : Int32) (h : Hp) : Prop :=
  if x1 < x5 then (eX12_best_140 a0 x1 x2 K52 Q (0 : Int32) h) else (eX12_best_83 a0 x1 x2 x3 x4 x5 K52 K74 Q (0 : Int32) h)
def eX12_best_74 (a0 : Nat) (x1 : Int32) (x2 : Int32) (x3 : Int32) (x4 : Int32) (K52 : Int32 → Hp → Prop) (Q : Int32 → Hp → Prop) (x5 : Int32) (h : Hp) : Prop := ∃ N, lpN (fun (K : Int32 × Hp → Prop) (s : Int32 × Hp) => fX12_best_74 a0 x1 x2 x3 x4 K52 Q (fun x5 h => K (x5, h)) s.1 s.2) N (x5, h)
theorem iX12_best_74 {a0 : Nat} {x1 : Int32} {x2 : Int32} {x3 : Int32} {x4 : Int32} {K52 : Int32 → Hp → Prop} {Q : Int32 → Hp → Prop} (I : Int32 → Hp → Prop) (μ : Int32 → Hp → Nat) (hs : ∀ (x5 : Int32) (h : Hp), I x5 h → ∀ K : Int32 → Hp → Prop, (∀ (x5' : Int32) (h' : Hp), I x5' h' → μ x5' h' < μ x5 h → K x5' h') → fX12_best_74 a0 x1 x2 x3 x4 K52 Q K x5 h) : ∀ (x5 : Int32) (h : Hp), I x5 h → eX12_best_74 a0 x1 x2 x3 x4 K52 Q x5 h := fun x5 h hI => lp_ind (fun s => I s.1 s.2) (fun s => μ s.1 s.2) (fun s hs' K hK => hs s.1 s.2 hs' _ (fun x5' h' h1 h2 => hK (x5', h') h1 h2)) (x5, h) hI
set_option maxRecDepth 20000 in
theorem tX12_best_74 {G : GG} {X : XX} {a0 : Nat} {x1 : Int32} {x2 : Int32} {x3 : Int32} {x4 : Int32} {x5 : Int32} {h : Hp}  {K52 : Int32 → Hp → Prop} {Q : Int32 → Hp → Prop} (C : Cx G RX12 cX12_best 7 (some .int) 5 0 0 X) (k0 : kd a0 = 12) (hK52 : ∀ (y2 : Int32) (h' : Hp), K52 y2 h' → R0 G X 0 0 (ZM G (fun r h' => ∃ v, r = some (.int v) ∧ Q v h') X) 52 [some (.ref (G.1 a0)), some (.int x1), some (.int y2), none, none, none, none] [] h') (hw : eX12_best_74 a0 x1 x2 x3 x4 K52 Q x5 h) : R0 G X 0 0 (ZM G (fun r h' => ∃ v, r = some (.int v) ∧ Q v h') X) 74 [some (.ref (G.1 a0)), some (.int x1), some (.int x2), some (.int x3), some (.int x4), some (.int x5), none] [] h := by
  obtain ⟨N, hw⟩ := hw
  induction N generalizing x5 h with
  | zero => exact hw.elim
  | succ N ih =>
    obtain ⟨K74, eK⟩ : ∃ K : Int32 → Hp → Prop, K = (fun x5 h => lpN (fun (K : Int32 × Hp → Prop) (s : Int32 × Hp) => fX12_best_74 a0 x1 x2 x3 x4 K52 Q (fun x5 h => K (x5, h)) s.1 s.2) N (x5, h)) := ⟨_, rfl⟩
    have hw : fX12_best_74 a0 x1 x2 x3 x4 K52 Q (fun x5 h => lpN (fun (K : Int32 × Hp → Prop) (s : Int32 × Hp) => fX12_best_74 a0 x1 x2 x3 x4 K52 Q (fun x5 h => K (x5, h)) s.1 s.2) N (x5, h)) x5 h := hw
    have hK74 : ∀ (x5 : Int32) (h : Hp), K74 x5 h → R0 G X 0 0 (ZM G (fun r h' => ∃ v, r = some (.int v) ∧ Q v h') X) 74 [some (.ref (G.1 a0)), some (.int x1), some (.int x2), some (.int x3), some (.int x4), some (.int x5), none] [] h := fun x5 h q => ih (by rw [eK] at q; exact q)
    rw [← eK] at hw
    clear eK ih
    unfold fX12_best_74 at hw
    refine r_iload C dX12_best_74 rfl ?_
    refine r_iload_n C dX12_best_76 rfl ?_
    refine r_icmp_gt 137 C dX12_best_77 (by decide) (fun hc => ?_) (fun hc => ?_)
    · replace hw := it_t hc hw
      refine r_iconst (0) C dX12_best_137 (by decide) ?_
      refine r_istore [some (.ref (G.1 a0)), some (.int x1), some (.int x2), some (.int x3), some (.int x4), some (.int (0 : Int32)), none] C dX12_best_138 (Nat.le_of_ble_eq_true rfl) rfl rfl ?_
      refine r_weak [some (.ref (G.1 a0)), some (.int x1), some (.int x2), none, none, some (.int (0 : Int32)), none] (lw_k (lw_k (lw_k (lw_d (lw_d (lw_k (lw_k (lw_n)))))))) ?_
      exact tX12_best_140 C (k0) hK52 hw
    · replace hw := it_f hc hw
      refine r_iconst (0) C dX12_best_80 (by decide) ?_
      refine r_istore [some (.ref (G.1 a0)), some (.int x1), some (.int x2), some (.int x3), some (.int x4), some (.int x5), some (.int (0 : Int32))] C dX12_best_81 (Nat.le_of_ble_eq_true rfl) rfl rfl ?_
      exact tX12_best_83 C (k0) hK52 hK74 hw
def fX12_best_52 (a0 : Nat) (x1 : Int32) (Q : Int32 → Hp → Prop) (K52 : Int32 → Hp → Prop) (x2 : Int32) (h : Hp) : Prop :=
  if x2 < 0 then (vp_in (0 : Int32) (ln (rf a0 38)) ∧ (Q (gI h (rf a0 38) (0 : Int32).toNatClampNeg) h)) else (wX12_mayOf a0 (0 : Int32) x2 h (fun v2 h3 => wX12_mayOf a0 (1 : Int32) x2 h3 (fun v4 h5 => eX12_best_74 a0 x1 x2 v2 v4 K52 Q (0 : Int32) h5)))
def eX12_best_52 (a0 : Nat) (x1 : Int32) (Q : Int32 → Hp → Prop) (x2 : Int32) (h : Hp) : Prop := ∃ N, lpN (fun (K : Int32 × Hp → Prop) (s : Int32 × Hp) => fX12_best_52 a0 x1 Q (fun x2 h => K (x2, h)) s.1 s.2) N (x2, h)
theorem iX12_best_52 {a0 : Nat} {x1 : Int32} {Q : Int32 → Hp → Prop} (I : Int32 → Hp → Prop) (μ : Int32 → Hp → Nat) (hs : ∀ (x2 : Int32) (h : Hp), I x2 h → ∀ K : Int32 → Hp → Prop, (∀ (x2' : Int32) (h' : Hp), I x2' h' → μ x2' h' < μ x2 h → K x2' h') → fX12_best_52 a0 x1 Q K x2 h) : ∀ (x2 : Int32) (h : Hp), I x2 h → eX12_best_52 a0 x1 Q x2 h := fun x2 h hI => lp_ind (fun s => I s.1 s.2) (fun s => μ s.1 s.2) (fun s hs' K hK => hs s.1 s.2 hs' _ (fun x2' h' h1 h2 => hK (x2', h') h1 h2)) (x2, h) hI
set_option maxRecDepth 20000 in
theorem tX12_best_52 {G : GG} {X : XX} {a0 : Nat} {x1 : Int32} {x2 : Int32} {h : Hp}  {Q : Int32 → Hp → Prop} (C : Cx G RX12 cX12_best 7 (some .int) 5 0 0 X) (k0 : kd a0 = 12) (hw : eX12_best_52 a0 x1 Q x2 h) : R0 G X 0 0 (ZM G (fun r h' => ∃ v, r = some (.int v) ∧ Q v h') X) 52 [some (.ref (G.1 a0)), some (.int x1), some (.int x2), none, none, none, none] [] h := by
  obtain ⟨N, hw⟩ := hw
  induction N generalizing x2 h with
  | zero => exact hw.elim
  | succ N ih =>
    obtain ⟨K52, eK⟩ : ∃ K : Int32 → Hp → Prop, K = (fun x2 h => lpN (fun (K : Int32 × Hp → Prop) (s : Int32 × Hp) => fX12_best_52 a0 x1 Q (fun x2 h => K (x2, h)) s.1 s.2) N (x2, h)) := ⟨_, rfl⟩
    have hw : fX12_best_52 a0 x1 Q (fun x2 h => lpN (fun (K : Int32 × Hp → Prop) (s : Int32 × Hp) => fX12_best_52 a0 x1 Q (fun x2 h => K (x2, h)) s.1 s.2) N (x2, h)) x2 h := hw
    have hK52 : ∀ (x2 : Int32) (h : Hp), K52 x2 h → R0 G X 0 0 (ZM G (fun r h' => ∃ v, r = some (.int v) ∧ Q v h') X) 52 [some (.ref (G.1 a0)), some (.int x1), some (.int x2), none, none, none, none] [] h := fun x2 h q => ih (by rw [eK] at q; exact q)
    rw [← eK] at hw
    clear eK ih
    unfold fX12_best_52 at hw
    refine r_iload_n C dX12_best_52 rfl ?_
    refine r_if_lt 174 C dX12_best_53 (by decide) (fun hc => ?_) (fun hc => ?_)
    · replace hw := it_t hc hw
      refine r_aload_n C dX12_best_174 rfl ?_
      refine gX12_76 C (k0) dX12_best_175 ?_
      refine r_iconst (0) C dX12_best_178 (by decide) ?_
      obtain ⟨hi1, hw⟩ := hw
      refine r_iald C (kr12_38 (k0)) hi1 dX12_best_179 ?_
      exact r_iret C dX12_best_180 ⟨_, rfl, hw⟩
    · replace hw := it_f hc hw
      refine r_aload_n C dX12_best_56 rfl ?_
      refine r_iconst (0) C dX12_best_57 (by decide) ?_
      refine r_iload_n C dX12_best_58 rfl ?_
      refine kX12_297 C (k0) (sX12_mayOf (k0) hw) dX12_best_59 (Nat.le_of_ble_eq_true rfl) rfl (Nat.le_of_ble_eq_true rfl) (fun v2 h3 hw => ?_)
      refine r_istore_n [some (.ref (G.1 a0)), some (.int x1), some (.int x2), some (.int v2), none, none, none] C dX12_best_62 (Nat.le_of_ble_eq_true rfl) rfl rfl ?_
      refine r_aload_n C dX12_best_63 rfl ?_
      refine r_iconst (1) C dX12_best_64 (by decide) ?_
      refine r_iload_n C dX12_best_65 rfl ?_
      refine kX12_297 C (k0) (sX12_mayOf (k0) hw) dX12_best_66 (Nat.le_of_ble_eq_true rfl) rfl (Nat.le_of_ble_eq_true rfl) (fun v4 h5 hw => ?_)
      refine r_istore [some (.ref (G.1 a0)), some (.int x1), some (.int x2), some (.int v2), some (.int v4), none, none] C dX12_best_69 (Nat.le_of_ble_eq_true rfl) rfl rfl ?_
      refine r_iconst (0) C dX12_best_71 (by decide) ?_
      refine r_istore [some (.ref (G.1 a0)), some (.int x1), some (.int x2), some (.int v2), some (.int v4), some (.int (0 : Int32)), none] C dX12_best_72 (Nat.le_of_ble_eq_true rfl) rfl rfl ?_
      exact tX12_best_74 C (k0) hK52 hw
def fX12_best_20 (a0 : Nat) (Q : Int32 → Hp → Prop) (K20 : Int32 → Hp → Prop) (x1 : Int32) (h : Hp) : Prop :=
  if (1024 : Int32) ≤ x1 then (∀ v1 : Int32, v1 = ((shl (1 : Int32) (gI h a0 3)) - (1 : Int32)) → (eX12_best_52 a0 v1 Q (59 : Int32) h)) else (vp_in x1 (ln (rf a0 38)) ∧ (∀ h3 : Hp, h3 = sI h (rf a0 38) x1.toNatClampNeg (0 : Int32) → (∀ v4 : Int32, v4 = x1 + (1 : Int32) → (K20 v4 h3))))
def eX12_best_20 (a0 : Nat) (Q : Int32 → Hp → Prop) (x1 : Int32) (h : Hp) : Prop := ∃ N, lpN (fun (K : Int32 × Hp → Prop) (s : Int32 × Hp) => fX12_best_20 a0 Q (fun x1 h => K (x1, h)) s.1 s.2) N (x1, h)
theorem iX12_best_20 {a0 : Nat} {Q : Int32 → Hp → Prop} (I : Int32 → Hp → Prop) (μ : Int32 → Hp → Nat) (hs : ∀ (x1 : Int32) (h : Hp), I x1 h → ∀ K : Int32 → Hp → Prop, (∀ (x1' : Int32) (h' : Hp), I x1' h' → μ x1' h' < μ x1 h → K x1' h') → fX12_best_20 a0 Q K x1 h) : ∀ (x1 : Int32) (h : Hp), I x1 h → eX12_best_20 a0 Q x1 h := fun x1 h hI => lp_ind (fun s => I s.1 s.2) (fun s => μ s.1 s.2) (fun s hs' K hK => hs s.1 s.2 hs' _ (fun x1' h' h1 h2 => hK (x1', h') h1 h2)) (x1, h) hI
set_option maxRecDepth 20000 in
theorem tX12_best_20 {G : GG} {X : XX} {a0 : Nat} {x1 : Int32} {h : Hp}  {Q : Int32 → Hp → Prop} (C : Cx G RX12 cX12_best 7 (some .int) 5 0 0 X) (k0 : kd a0 = 12) (hw : eX12_best_20 a0 Q x1 h) : R0 G X 0 0 (ZM G (fun r h' => ∃ v, r = some (.int v) ∧ Q v h') X) 20 [some (.ref (G.1 a0)), some (.int x1), none, none, none, none, none] [] h := by
  obtain ⟨N, hw⟩ := hw
  induction N generalizing x1 h with
  | zero => exact hw.elim
  | succ N ih =>
    obtain ⟨K20, eK⟩ : ∃ K : Int32 → Hp → Prop, K = (fun x1 h => lpN (fun (K : Int32 × Hp → Prop) (s : Int32 × Hp) => fX12_best_20 a0 Q (fun x1 h => K (x1, h)) s.1 s.2) N (x1, h)) := ⟨_, rfl⟩
    have hw : fX12_best_20 a0 Q (fun x1 h => lpN (fun (K : Int32 × Hp → Prop) (s : Int32 × Hp) => fX12_best_20 a0 Q (fun x1 h => K (x1, h)) s.1 s.2) N (x1, h)) x1 h := hw
    have hK20 : ∀ (x1 : Int32) (h : Hp), K20 x1 h → R0 G X 0 0 (ZM G (fun r h' => ∃ v, r = some (.int v) ∧ Q v h') X) 20 [some (.ref (G.1 a0)), some (.int x1), none, none, none, none, none] [] h := fun x1 h q => ih (by rw [eK] at q; exact q)
    rw [← eK] at hw
    clear eK ih
    unfold fX12_best_20 at hw
    refine r_iload_n C dX12_best_20 rfl ?_
    refine r_sipush (1024) C dX12_best_21 (by decide) ?_
    refine r_icmp_ge 40 C dX12_best_24 (by decide) (fun hc => ?_) (fun hc => ?_)
    · replace hw := it_t hc hw
      refine r_iconst (1) C dX12_best_40 (by decide) ?_
      refine r_aload_n C dX12_best_41 rfl ?_
      refine gX12_118 C (k0) dX12_best_42 ?_
      refine r_ishl C dX12_best_45 ?_
      refine r_iconst (1) C dX12_best_46 (by decide) ?_
      refine r_isub C dX12_best_47 ?_
      refine r_topi (fun v1 ev1 => ?_)
      replace hw := hw v1 ev1
      refine r_istore_n [some (.ref (G.1 a0)), some (.int v1), none, none, none, none, none] C dX12_best_48 (Nat.le_of_ble_eq_true rfl) rfl rfl ?_
      refine r_bipush (59) C dX12_best_49 (by decide) ?_
      refine r_istore_n [some (.ref (G.1 a0)), some (.int v1), some (.int (59 : Int32)), none, none, none, none] C dX12_best_51 (Nat.le_of_ble_eq_true rfl) rfl rfl ?_
      exact tX12_best_52 C (k0) hw
    · replace hw := it_f hc hw
      refine r_aload_n C dX12_best_27 rfl ?_
      refine gX12_76 C (k0) dX12_best_28 ?_
      refine r_iload_n C dX12_best_31 rfl ?_
      refine r_iconst (0) C dX12_best_32 (by decide) ?_
      obtain ⟨hi2, hw⟩ := hw
      refine r_iast C (kr12_38 (k0)) hi2 dX12_best_33 ?_
      refine r_toph (fun h3 eh3 => ?_)
      replace hw := hw h3 eh3
      obtain ⟨v4, ev4⟩ : ∃ v : Int32, v = x1 + (1 : Int32) := ⟨_, rfl⟩
      replace hw := hw v4 ev4
      refine r_iinc v4 [some (.ref (G.1 a0)), some (.int v4), none, none, none, none, none] C dX12_best_34 rfl (by rw [ev4]; rfl) rfl rfl ?_
      refine r_goto 20 C dX12_best_37 (by decide) ?_
      exact hK20 _ _ hw
def wX12_best (a0 : Nat) (h : Hp) (Q : Int32 → Hp → Prop) : Prop :=
  if (5 : Int32) < (gI h a0 3) then (Q (-5 : Int32) h) else (if (gI h a0 1) = 0 then (Q (-5 : Int32) h) else (eX12_best_20 a0 Q (0 : Int32) h))
set_option maxRecDepth 20000 in
theorem sX12_best {G : GG} {a0 : Nat} {h : Hp} {Q : Int32 → Hp → Prop} (k0 : kd a0 = 12) (hw : wX12_best a0 h Q) : CI G 5 yX12_best cX12_best 7 (some .int) [.ref (G.1 a0)] h Q := by
  refine CO_of [some (.ref (G.1 a0)), none, none, none, none, none, none] (by decide) (Nat.le_of_ble_eq_true rfl) rfl (fun X C => ?_)
  unfold wX12_best at hw
  refine r_aload_n C dX12_best_0 rfl ?_
  refine gX12_118 C (k0) dX12_best_1 ?_
  refine r_iconst (5) C dX12_best_4 (by decide) ?_
  refine r_icmp_gt 15 C dX12_best_5 (by decide) (fun hc => ?_) (fun hc => ?_)
  · replace hw := it_t hc hw
    refine r_bipush (-5) C dX12_best_15 (by decide) ?_
    exact r_iret C dX12_best_17 ⟨_, rfl, hw⟩
  · replace hw := it_f hc hw
    refine r_aload_n C dX12_best_8 rfl ?_
    refine gX12_111 C (k0) dX12_best_9 ?_
    refine r_if_ne 18 C dX12_best_12 (by decide) (fun hc => ?_) (fun hc => ?_)
    · replace hw := it_f hc hw
      refine r_iconst (0) C dX12_best_18 (by decide) ?_
      refine r_istore_n [some (.ref (G.1 a0)), some (.int (0 : Int32)), none, none, none, none, none] C dX12_best_19 (Nat.le_of_ble_eq_true rfl) rfl rfl ?_
      exact tX12_best_20 C (k0) hw
    · replace hw := it_t hc hw
      refine r_bipush (-5) C dX12_best_15 (by decide) ?_
      exact r_iret C dX12_best_17 ⟨_, rfl, hw⟩
def wX12_isCounts (a0 : Nat) (x1 : Int32) (h : Hp) (Q : Int32 → Prop) : Prop :=
  if x1 < 0 then (Q (0 : Int32)) else (if (40 : Int32) < (rm x1 (100 : Int32)) then (Q (0 : Int32)) else (if (rm x1 (100 : Int32)) < (x1 / (100 : Int32)) then (Q (0 : Int32)) else (Q (1 : Int32))))
set_option maxRecDepth 20000 in
theorem sX12_isCounts {G : GG} {a0 : Nat} {x1 : Int32} {h : Hp} {Q : Int32 → Prop} (k0 : kd a0 = 12) (hw : wX12_isCounts a0 x1 h Q) : PI G 0 yX12_isCounts cX12_isCounts 2 (some .boolean) [.ref (G.1 a0), .int x1] h Q := by
  refine CO_of [some (.ref (G.1 a0)), some (.int x1)] (by decide) (Nat.le_of_ble_eq_true rfl) rfl (fun X C => ?_)
  unfold wX12_isCounts at hw
  refine r_iload_n C dX12_isCounts_0 rfl ?_
  refine r_if_lt 28 C dX12_isCounts_1 (by decide) (fun hc => ?_) (fun hc => ?_)
  · replace hw := it_t hc hw
    refine r_iconst (0) C dX12_isCounts_28 (by decide) ?_
    exact r_zret C dX12_isCounts_29 rfl ⟨_, rfl, rfl, hw⟩
  · replace hw := it_f hc hw
    refine r_iload_n C dX12_isCounts_4 rfl ?_
    refine r_bipush (100) C dX12_isCounts_5 (by decide) ?_
    refine r_irem C dX12_isCounts_7 (by decide) ?_
    refine r_bipush (40) C dX12_isCounts_8 (by decide) ?_
    refine r_icmp_gt 28 C dX12_isCounts_10 (by decide) (fun hc => ?_) (fun hc => ?_)
    · replace hw := it_t hc hw
      refine r_iconst (0) C dX12_isCounts_28 (by decide) ?_
      exact r_zret C dX12_isCounts_29 rfl ⟨_, rfl, rfl, hw⟩
    · replace hw := it_f hc hw
      refine r_iload_n C dX12_isCounts_13 rfl ?_
      refine r_bipush (100) C dX12_isCounts_14 (by decide) ?_
      refine r_idiv C dX12_isCounts_16 (by decide) ?_
      refine r_iload_n C dX12_isCounts_17 rfl ?_
      refine r_bipush (100) C dX12_isCounts_18 (by decide) ?_
      refine r_irem C dX12_isCounts_20 (by decide) ?_
      refine r_icmp_gt 28 C dX12_isCounts_21 (by decide) (fun hc => ?_) (fun hc => ?_)
      · replace hw := it_t hc hw
        refine r_iconst (0) C dX12_isCounts_28 (by decide) ?_
        exact r_zret C dX12_isCounts_29 rfl ⟨_, rfl, rfl, hw⟩
      · replace hw := it_f hc hw
        refine r_iconst (1) C dX12_isCounts_24 (by decide) ?_
        refine r_goto 29 C dX12_isCounts_25 (by decide) ?_
        exact r_zret C dX12_isCounts_29 rfl ⟨_, rfl, rfl, hw⟩
def jX12_findLevels_118 (a0 : Nat) (x2 : Int32) (x3 : Int32) (x4 : Int32) (x5 : Int32) (x6 : Int32) (h : Hp) (K32 : Int32 → Hp → Prop) (K41 : Int32 → Int32 → Hp → Prop) (K50 : Int32 → Int32 → Hp → Prop) (Q : Hp → Prop) : Prop :=
  if x2 < (x4 + x6) then (∀ v1 : Int32, v1 = x5 + (1 : Int32) → (K50 x3 v1 h)) else (vp_in x4 (ln (rf a0 39)) ∧ (vp_in (x4 + x6) (ln (rf a0 39)) ∧ (if (gI h (rf a0 39) (x4 + x6).toNatClampNeg) ≤ ((gI h (rf a0 39) x4.toNatClampNeg) + (1 : Int32)) then (∀ v4 : Int32, v4 = x5 + (1 : Int32) → (K50 x3 v4 h)) else (vp_in x4 (ln (rf a0 39)) ∧ (vp_in (x4 + x6) (ln (rf a0 39)) ∧ (∀ h7 : Hp, h7 = sI h (rf a0 39) (x4 + x6).toNatClampNeg ((gI h (rf a0 39) x4.toNatClampNeg) + (1 : Int32)) → (∀ v8 : Int32, v8 = x5 + (1 : Int32) → (K50 (1 : Int32) v8 h7))))))))
set_option maxRecDepth 20000 in
theorem tX12_findLevels_118 {G : GG} {X : XX} {a0 : Nat} {x2 : Int32} {x3 : Int32} {x4 : Int32} {x5 : Int32} {x6 : Int32} {h : Hp}  {K32 : Int32 → Hp → Prop} {K41 : Int32 → Int32 → Hp → Prop} {K50 : Int32 → Int32 → Hp → Prop} {Q : Hp → Prop} (C : Cx G RX12 cX12_findLevels 7 none 0 0 0 X) (k0 : kd a0 = 12) (hK32 : ∀ (y3 : Int32) (h' : Hp), K32 y3 h' → R0 G X 0 0 (ZM G (fun r h' => r = none ∧ Q h') X) 32 [some (.ref (G.1 a0)), none, some (.int x2), some (.int y3), none, none, none] [] h') (hK41 : ∀ (y3 : Int32) (y4 : Int32) (h' : Hp), K41 y3 y4 h' → R0 G X 0 0 (ZM G (fun r h' => r = none ∧ Q h') X) 41 [some (.ref (G.1 a0)), none, some (.int x2), some (.int y3), some (.int y4), none, none] [] h') (hK50 : ∀ (y3 : Int32) (y5 : Int32) (h' : Hp), K50 y3 y5 h' → R0 G X 0 0 (ZM G (fun r h' => r = none ∧ Q h') X) 50 [some (.ref (G.1 a0)), none, some (.int x2), some (.int y3), some (.int x4), some (.int y5), none] [] h') (hw : jX12_findLevels_118 a0 x2 x3 x4 x5 x6 h K32 K41 K50 Q) : R0 G X 0 0 (ZM G (fun r h' => r = none ∧ Q h') X) 118 [some (.ref (G.1 a0)), none, some (.int x2), some (.int x3), some (.int x4), some (.int x5), some (.int x6)] [] h := by
  unfold jX12_findLevels_118 at hw
  refine r_iload C dX12_findLevels_118 rfl ?_
  refine r_iload C dX12_findLevels_120 rfl ?_
  refine r_iadd C dX12_findLevels_122 ?_
  refine r_iload_n C dX12_findLevels_123 rfl ?_
  refine r_icmp_gt 170 C dX12_findLevels_124 (by decide) (fun hc => ?_) (fun hc => ?_)
  · replace hw := it_t hc hw
    obtain ⟨v1, ev1⟩ : ∃ v : Int32, v = x5 + (1 : Int32) := ⟨_, rfl⟩
    replace hw := hw v1 ev1
    refine r_iinc v1 [some (.ref (G.1 a0)), none, some (.int x2), some (.int x3), some (.int x4), some (.int v1), some (.int x6)] C dX12_findLevels_170 rfl (by rw [ev1]; rfl) rfl rfl ?_
    refine r_goto 50 C dX12_findLevels_173 (by decide) ?_
    refine r_weak [some (.ref (G.1 a0)), none, some (.int x2), some (.int x3), some (.int x4), some (.int v1), none] (lw_k (lw_k (lw_k (lw_k (lw_k (lw_k (lw_d (lw_n)))))))) ?_
    exact hK50 _ _ _ hw
  · replace hw := it_f hc hw
    refine r_aload_n C dX12_findLevels_127 rfl ?_
    refine gX12_79 C (k0) dX12_findLevels_128 ?_
    refine r_iload C dX12_findLevels_131 rfl ?_
    obtain ⟨hi2, hw⟩ := hw
    refine r_iald C (kr12_39 (k0)) hi2 dX12_findLevels_133 ?_
    refine r_iconst (1) C dX12_findLevels_134 (by decide) ?_
    refine r_iadd C dX12_findLevels_135 ?_
    refine r_aload_n C dX12_findLevels_136 rfl ?_
    refine gX12_79 C (k0) dX12_findLevels_137 ?_
    refine r_iload C dX12_findLevels_140 rfl ?_
    refine r_iload C dX12_findLevels_142 rfl ?_
    refine r_iadd C dX12_findLevels_144 ?_
    obtain ⟨hi3, hw⟩ := hw
    refine r_iald C (kr12_39 (k0)) hi3 dX12_findLevels_145 ?_
    refine r_icmp_ge 170 C dX12_findLevels_146 (by decide) (fun hc => ?_) (fun hc => ?_)
    · replace hw := it_t hc hw
      obtain ⟨v4, ev4⟩ : ∃ v : Int32, v = x5 + (1 : Int32) := ⟨_, rfl⟩
      replace hw := hw v4 ev4
      refine r_iinc v4 [some (.ref (G.1 a0)), none, some (.int x2), some (.int x3), some (.int x4), some (.int v4), some (.int x6)] C dX12_findLevels_170 rfl (by rw [ev4]; rfl) rfl rfl ?_
      refine r_goto 50 C dX12_findLevels_173 (by decide) ?_
      refine r_weak [some (.ref (G.1 a0)), none, some (.int x2), some (.int x3), some (.int x4), some (.int v4), none] (lw_k (lw_k (lw_k (lw_k (lw_k (lw_k (lw_d (lw_n)))))))) ?_
      exact hK50 _ _ _ hw
    · replace hw := it_f hc hw
      refine r_aload_n C dX12_findLevels_149 rfl ?_
      refine gX12_79 C (k0) dX12_findLevels_150 ?_
      refine r_iload C dX12_findLevels_153 rfl ?_
      refine r_iload C dX12_findLevels_155 rfl ?_
      refine r_iadd C dX12_findLevels_157 ?_
      refine r_aload_n C dX12_findLevels_158 rfl ?_
      refine gX12_79 C (k0) dX12_findLevels_159 ?_
      refine r_iload C dX12_findLevels_162 rfl ?_
      obtain ⟨hi5, hw⟩ := hw
      refine r_iald C (kr12_39 (k0)) hi5 dX12_findLevels_164 ?_
      refine r_iconst (1) C dX12_findLevels_165 (by decide) ?_
      refine r_iadd C dX12_findLevels_166 ?_
      obtain ⟨hi6, hw⟩ := hw
      refine r_iast C (kr12_39 (k0)) hi6 dX12_findLevels_167 ?_
      refine r_toph (fun h7 eh7 => ?_)
      replace hw := hw h7 eh7
      refine r_iconst (1) C dX12_findLevels_168 (by decide) ?_
      refine r_istore_n [some (.ref (G.1 a0)), none, some (.int x2), some (.int (1 : Int32)), some (.int x4), some (.int x5), some (.int x6)] C dX12_findLevels_169 (Nat.le_of_ble_eq_true rfl) rfl rfl ?_
      obtain ⟨v8, ev8⟩ : ∃ v : Int32, v = x5 + (1 : Int32) := ⟨_, rfl⟩
      replace hw := hw v8 ev8
      refine r_iinc v8 [some (.ref (G.1 a0)), none, some (.int x2), some (.int (1 : Int32)), some (.int x4), some (.int v8), some (.int x6)] C dX12_findLevels_170 rfl (by rw [ev8]; rfl) rfl rfl ?_
      refine r_goto 50 C dX12_findLevels_173 (by decide) ?_
      refine r_weak [some (.ref (G.1 a0)), none, some (.int x2), some (.int (1 : Int32)), some (.int x4), some (.int v8), none] (lw_k (lw_k (lw_k (lw_k (lw_k (lw_k (lw_d (lw_n)))))))) ?_
      exact hK50 _ _ _ hw
def fX12_findLevels_50 (a0 : Nat) (x2 : Int32) (x4 : Int32) (K32 : Int32 → Hp → Prop) (K41 : Int32 → Int32 → Hp → Prop) (Q : Hp → Prop) (K50 : Int32 → Int32 → Hp → Prop) (x3 : Int32) (x5 : Int32) (h : Hp) : Prop :=
  if (gI h a0 1) ≤ x5 then (∀ v1 : Int32, v1 = x4 + (1 : Int32) → (K41 x3 v1 h)) else (vp_in x5 (ln (rf a0 2)) ∧ (∀ v3 : Int32, v3 = (gI h (rf a0 2) x5.toNatClampNeg) → (if x4 < v3 then (jX12_findLevels_118 a0 x2 x3 x4 x5 v3 h K32 K41 K50 Q) else (vp_in x4 (ln (rf a0 39)) ∧ (vp_in (x4 - v3) (ln (rf a0 39)) ∧ (if (gI h (rf a0 39) (x4 - v3).toNatClampNeg) ≤ ((gI h (rf a0 39) x4.toNatClampNeg) + (1 : Int32)) then (jX12_findLevels_118 a0 x2 x3 x4 x5 v3 h K32 K41 K50 Q) else (vp_in x4 (ln (rf a0 39)) ∧ (vp_in (x4 - v3) (ln (rf a0 39)) ∧ (∀ h8 : Hp, h8 = sI h (rf a0 39) (x4 - v3).toNatClampNeg ((gI h (rf a0 39) x4.toNatClampNeg) + (1 : Int32)) → (jX12_findLevels_118 a0 x2 (1 : Int32) x4 x5 v3 h8 K32 K41 K50 Q))))))))))
def eX12_findLevels_50 (a0 : Nat) (x2 : Int32) (x4 : Int32) (K32 : Int32 → Hp → Prop) (K41 : Int32 → Int32 → Hp → Prop) (Q : Hp → Prop) (x3 : Int32) (x5 : Int32) (h : Hp) : Prop := ∃ N, lpN (fun (K : Int32 × Int32 × Hp → Prop) (s : Int32 × Int32 × Hp) => fX12_findLevels_50 a0 x2 x4 K32 K41 Q (fun x3 x5 h => K (x3, x5, h)) s.1 s.2.1 s.2.2) N (x3, x5, h)
theorem iX12_findLevels_50 {a0 : Nat} {x2 : Int32} {x4 : Int32} {K32 : Int32 → Hp → Prop} {K41 : Int32 → Int32 → Hp → Prop} {Q : Hp → Prop} (I : Int32 → Int32 → Hp → Prop) (μ : Int32 → Int32 → Hp → Nat) (hs : ∀ (x3 : Int32) (x5 : Int32) (h : Hp), I x3 x5 h → ∀ K : Int32 → Int32 → Hp → Prop, (∀ (x3' : Int32) (x5' : Int32) (h' : Hp), I x3' x5' h' → μ x3' x5' h' < μ x3 x5 h → K x3' x5' h') → fX12_findLevels_50 a0 x2 x4 K32 K41 Q K x3 x5 h) : ∀ (x3 : Int32) (x5 : Int32) (h : Hp), I x3 x5 h → eX12_findLevels_50 a0 x2 x4 K32 K41 Q x3 x5 h := fun x3 x5 h hI => lp_ind (fun s => I s.1 s.2.1 s.2.2) (fun s => μ s.1 s.2.1 s.2.2) (fun s hs' K hK => hs s.1 s.2.1 s.2.2 hs' _ (fun x3' x5' h' h1 h2 => hK (x3', x5', h') h1 h2)) (x3, x5, h) hI
set_option maxRecDepth 20000 in
theorem tX12_findLevels_50 {G : GG} {X : XX} {a0 : Nat} {x2 : Int32} {x3 : Int32} {x4 : Int32} {x5 : Int32} {h : Hp}  {K32 : Int32 → Hp → Prop} {K41 : Int32 → Int32 → Hp → Prop} {Q : Hp → Prop} (C : Cx G RX12 cX12_findLevels 7 none 0 0 0 X) (k0 : kd a0 = 12) (hK32 : ∀ (y3 : Int32) (h' : Hp), K32 y3 h' → R0 G X 0 0 (ZM G (fun r h' => r = none ∧ Q h') X) 32 [some (.ref (G.1 a0)), none, some (.int x2), some (.int y3), none, none, none] [] h') (hK41 : ∀ (y3 : Int32) (y4 : Int32) (h' : Hp), K41 y3 y4 h' → R0 G X 0 0 (ZM G (fun r h' => r = none ∧ Q h') X) 41 [some (.ref (G.1 a0)), none, some (.int x2), some (.int y3), some (.int y4), none, none] [] h') (hw : eX12_findLevels_50 a0 x2 x4 K32 K41 Q x3 x5 h) : R0 G X 0 0 (ZM G (fun r h' => r = none ∧ Q h') X) 50 [some (.ref (G.1 a0)), none, some (.int x2), some (.int x3), some (.int x4), some (.int x5), none] [] h := by
  obtain ⟨N, hw⟩ := hw
  induction N generalizing x3 x5 h with
  | zero => exact hw.elim
  | succ N ih =>
    obtain ⟨K50, eK⟩ : ∃ K : Int32 → Int32 → Hp → Prop, K = (fun x3 x5 h => lpN (fun (K : Int32 × Int32 × Hp → Prop) (s : Int32 × Int32 × Hp) => fX12_findLevels_50 a0 x2 x4 K32 K41 Q (fun x3 x5 h => K (x3, x5, h)) s.1 s.2.1 s.2.2) N (x3, x5, h)) := ⟨_, rfl⟩
    have hw : fX12_findLevels_50 a0 x2 x4 K32 K41 Q (fun x3 x5 h => lpN (fun (K : Int32 × Int32 × Hp → Prop) (s : Int32 × Int32 × Hp) => fX12_findLevels_50 a0 x2 x4 K32 K41 Q (fun x3 x5 h => K (x3, x5, h)) s.1 s.2.1 s.2.2) N (x3, x5, h)) x3 x5 h := hw
    have hK50 : ∀ (x3 : Int32) (x5 : Int32) (h : Hp), K50 x3 x5 h → R0 G X 0 0 (ZM G (fun r h' => r = none ∧ Q h') X) 50 [some (.ref (G.1 a0)), none, some (.int x2), some (.int x3), some (.int x4), some (.int x5), none] [] h := fun x3 x5 h q => ih (by rw [eK] at q; exact q)
    rw [← eK] at hw
    clear eK ih
    unfold fX12_findLevels_50 at hw
    refine r_iload C dX12_findLevels_50 rfl ?_
    refine r_aload_n C dX12_findLevels_52 rfl ?_
    refine gX12_111 C (k0) dX12_findLevels_53 ?_
    refine r_icmp_ge 176 C dX12_findLevels_56 (by decide) (fun hc => ?_) (fun hc => ?_)
    · replace hw := it_t hc hw
      obtain ⟨v1, ev1⟩ : ∃ v : Int32, v = x4 + (1 : Int32) := ⟨_, rfl⟩
      replace hw := hw v1 ev1
      refine r_iinc v1 [some (.ref (G.1 a0)), none, some (.int x2), some (.int x3), some (.int v1), some (.int x5), none] C dX12_findLevels_176 rfl (by rw [ev1]; rfl) rfl rfl ?_
      refine r_goto 41 C dX12_findLevels_179 (by decide) ?_
      refine r_weak [some (.ref (G.1 a0)), none, some (.int x2), some (.int x3), some (.int v1), none, none] (lw_k (lw_k (lw_k (lw_k (lw_k (lw_d (lw_k (lw_n)))))))) ?_
      exact hK41 _ _ _ hw
    · replace hw := it_f hc hw
      refine r_aload_n C dX12_findLevels_59 rfl ?_
      refine gX12_7 C (k0) dX12_findLevels_60 ?_
      refine r_iload C dX12_findLevels_63 rfl ?_
      obtain ⟨hi2, hw⟩ := hw
      refine r_iald C (kr12_2 (k0)) hi2 dX12_findLevels_65 ?_
      refine r_topi (fun v3 ev3 => ?_)
      replace hw := hw v3 ev3
      refine r_istore [some (.ref (G.1 a0)), none, some (.int x2), some (.int x3), some (.int x4), some (.int x5), some (.int v3)] C dX12_findLevels_66 (Nat.le_of_ble_eq_true rfl) rfl rfl ?_
      refine r_iload C dX12_findLevels_68 rfl ?_
      refine r_iload C dX12_findLevels_70 rfl ?_
      refine r_icmp_lt 118 C dX12_findLevels_72 (by decide) (fun hc => ?_) (fun hc => ?_)
      · replace hw := it_t hc hw
        exact tX12_findLevels_118 C (k0) hK32 hK41 hK50 hw
      · replace hw := it_f hc hw
        refine r_aload_n C dX12_findLevels_75 rfl ?_
        refine gX12_79 C (k0) dX12_findLevels_76 ?_
        refine r_iload C dX12_findLevels_79 rfl ?_
        obtain ⟨hi4, hw⟩ := hw
        refine r_iald C (kr12_39 (k0)) hi4 dX12_findLevels_81 ?_
        refine r_iconst (1) C dX12_findLevels_82 (by decide) ?_
        refine r_iadd C dX12_findLevels_83 ?_
        refine r_aload_n C dX12_findLevels_84 rfl ?_
        refine gX12_79 C (k0) dX12_findLevels_85 ?_
        refine r_iload C dX12_findLevels_88 rfl ?_
        refine r_iload C dX12_findLevels_90 rfl ?_
        refine r_isub C dX12_findLevels_92 ?_
        obtain ⟨hi5, hw⟩ := hw
        refine r_iald C (kr12_39 (k0)) hi5 dX12_findLevels_93 ?_
        refine r_icmp_ge 118 C dX12_findLevels_94 (by decide) (fun hc => ?_) (fun hc => ?_)
        · replace hw := it_t hc hw
          exact tX12_findLevels_118 C (k0) hK32 hK41 hK50 hw
        · replace hw := it_f hc hw
          refine r_aload_n C dX12_findLevels_97 rfl ?_
          refine gX12_79 C (k0) dX12_findLevels_98 ?_
          refine r_iload C dX12_findLevels_101 rfl ?_
          refine r_iload C dX12_findLevels_103 rfl ?_
          refine r_isub C dX12_findLevels_105 ?_
          refine r_aload_n C dX12_findLevels_106 rfl ?_
          refine gX12_79 C (k0) dX12_findLevels_107 ?_
          refine r_iload C dX12_findLevels_110 rfl ?_
          obtain ⟨hi6, hw⟩ := hw
          refine r_iald C (kr12_39 (k0)) hi6 dX12_findLevels_112 ?_
          refine r_iconst (1) C dX12_findLevels_113 (by decide) ?_
          refine r_iadd C dX12_findLevels_114 ?_
          obtain ⟨hi7, hw⟩ := hw
          refine r_iast C (kr12_39 (k0)) hi7 dX12_findLevels_115 ?_
          refine r_toph (fun h8 eh8 => ?_)
          replace hw := hw h8 eh8
          refine r_iconst (1) C dX12_findLevels_116 (by decide) ?_
          refine r_istore_n [some (.ref (G.1 a0)), none, some (.int x2), some (.int (1 : Int32)), some (.int x4), some (.int x5), some (.int v3)] C dX12_findLevels_117 (Nat.le_of_ble_eq_true rfl) rfl rfl ?_
          exact tX12_findLevels_118 C (k0) hK32 hK41 hK50 hw
def fX12_findLevels_41 (a0 : Nat) (x2 : Int32) (K32 : Int32 → Hp → Prop) (Q : Hp → Prop) (K41 : Int32 → Int32 → Hp → Prop) (x3 : Int32) (x4 : Int32) (h : Hp) : Prop :=
  if x2 < x4 then (K32 x3 h) else (eX12_findLevels_50 a0 x2 x4 K32 K41 Q x3 (0 : Int32) h)
def eX12_findLevels_41 (a0 : Nat) (x2 : Int32) (K32 : Int32 → Hp → Prop) (Q : Hp → Prop) (x3 : Int32) (x4 : Int32) (h : Hp) : Prop := ∃ N, lpN (fun (K : Int32 × Int32 × Hp → Prop) (s : Int32 × Int32 × Hp) => fX12_findLevels_41 a0 x2 K32 Q (fun x3 x4 h => K (x3, x4, h)) s.1 s.2.1 s.2.2) N (x3, x4, h)
theorem iX12_findLevels_41 {a0 : Nat} {x2 : Int32} {K32 : Int32 → Hp → Prop} {Q : Hp → Prop} (I : Int32 → Int32 → Hp → Prop) (μ : Int32 → Int32 → Hp → Nat) (hs : ∀ (x3 : Int32) (x4 : Int32) (h : Hp), I x3 x4 h → ∀ K : Int32 → Int32 → Hp → Prop, (∀ (x3' : Int32) (x4' : Int32) (h' : Hp), I x3' x4' h' → μ x3' x4' h' < μ x3 x4 h → K x3' x4' h') → fX12_findLevels_41 a0 x2 K32 Q K x3 x4 h) : ∀ (x3 : Int32) (x4 : Int32) (h : Hp), I x3 x4 h → eX12_findLevels_41 a0 x2 K32 Q x3 x4 h := fun x3 x4 h hI => lp_ind (fun s => I s.1 s.2.1 s.2.2) (fun s => μ s.1 s.2.1 s.2.2) (fun s hs' K hK => hs s.1 s.2.1 s.2.2 hs' _ (fun x3' x4' h' h1 h2 => hK (x3', x4', h') h1 h2)) (x3, x4, h) hI
set_option maxRecDepth 20000 in
theorem tX12_findLevels_41 {G : GG} {X : XX} {a0 : Nat} {x2 : Int32} {x3 : Int32} {x4 : Int32} {h : Hp}  {K32 : Int32 → Hp → Prop} {Q : Hp → Prop} (C : Cx G RX12 cX12_findLevels 7 none 0 0 0 X) (k0 : kd a0 = 12) (hK32 : ∀ (y3 : Int32) (h' : Hp), K32 y3 h' → R0 G X 0 0 (ZM G (fun r h' => r = none ∧ Q h') X) 32 [some (.ref (G.1 a0)), none, some (.int x2), some (.int y3), none, none, none] [] h') (hw : eX12_findLevels_41 a0 x2 K32 Q x3 x4 h) : R0 G X 0 0 (ZM G (fun r h' => r = none ∧ Q h') X) 41 [some (.ref (G.1 a0)), none, some (.int x2), some (.int x3), some (.int x4), none, none] [] h := by
  obtain ⟨N, hw⟩ := hw
  induction N generalizing x3 x4 h with
  | zero => exact hw.elim
  | succ N ih =>
    obtain ⟨K41, eK⟩ : ∃ K : Int32 → Int32 → Hp → Prop, K = (fun x3 x4 h => lpN (fun (K : Int32 × Int32 × Hp → Prop) (s : Int32 × Int32 × Hp) => fX12_findLevels_41 a0 x2 K32 Q (fun x3 x4 h => K (x3, x4, h)) s.1 s.2.1 s.2.2) N (x3, x4, h)) := ⟨_, rfl⟩
    have hw : fX12_findLevels_41 a0 x2 K32 Q (fun x3 x4 h => lpN (fun (K : Int32 × Int32 × Hp → Prop) (s : Int32 × Int32 × Hp) => fX12_findLevels_41 a0 x2 K32 Q (fun x3 x4 h => K (x3, x4, h)) s.1 s.2.1 s.2.2) N (x3, x4, h)) x3 x4 h := hw
    have hK41 : ∀ (x3 : Int32) (x4 : Int32) (h : Hp), K41 x3 x4 h → R0 G X 0 0 (ZM G (fun r h' => r = none ∧ Q h') X) 41 [some (.ref (G.1 a0)), none, some (.int x2), some (.int x3), some (.int x4), none, none] [] h := fun x3 x4 h q => ih (by rw [eK] at q; exact q)
    rw [← eK] at hw
    clear eK ih
    unfold fX12_findLevels_41 at hw
    refine r_iload C dX12_findLevels_41 rfl ?_
    refine r_iload_n C dX12_findLevels_43 rfl ?_
    refine r_icmp_gt 182 C dX12_findLevels_44 (by decide) (fun hc => ?_) (fun hc => ?_)
    · replace hw := it_t hc hw
      refine r_goto 32 C dX12_findLevels_182 (by decide) ?_
      refine r_weak [some (.ref (G.1 a0)), none, some (.int x2), some (.int x3), none, none, none] (lw_k (lw_k (lw_k (lw_k (lw_d (lw_k (lw_k (lw_n)))))))) ?_
      exact hK32 _ _ hw
    · replace hw := it_f hc hw
      refine r_iconst (0) C dX12_findLevels_47 (by decide) ?_
      refine r_istore [some (.ref (G.1 a0)), none, some (.int x2), some (.int x3), some (.int x4), some (.int (0 : Int32)), none] C dX12_findLevels_48 (Nat.le_of_ble_eq_true rfl) rfl rfl ?_
      exact tX12_findLevels_50 C (k0) hK32 hK41 hw
def fX12_findLevels_32 (a0 : Nat) (x2 : Int32) (Q : Hp → Prop) (K32 : Int32 → Hp → Prop) (x3 : Int32) (h : Hp) : Prop :=
  if x3 = 0 then (Q h) else (eX12_findLevels_41 a0 x2 K32 Q (0 : Int32) (0 : Int32) h)
def eX12_findLevels_32 (a0 : Nat) (x2 : Int32) (Q : Hp → Prop) (x3 : Int32) (h : Hp) : Prop := ∃ N, lpN (fun (K : Int32 × Hp → Prop) (s : Int32 × Hp) => fX12_findLevels_32 a0 x2 Q (fun x3 h => K (x3, h)) s.1 s.2) N (x3, h)
theorem iX12_findLevels_32 {a0 : Nat} {x2 : Int32} {Q : Hp → Prop} (I : Int32 → Hp → Prop) (μ : Int32 → Hp → Nat) (hs : ∀ (x3 : Int32) (h : Hp), I x3 h → ∀ K : Int32 → Hp → Prop, (∀ (x3' : Int32) (h' : Hp), I x3' h' → μ x3' h' < μ x3 h → K x3' h') → fX12_findLevels_32 a0 x2 Q K x3 h) : ∀ (x3 : Int32) (h : Hp), I x3 h → eX12_findLevels_32 a0 x2 Q x3 h := fun x3 h hI => lp_ind (fun s => I s.1 s.2) (fun s => μ s.1 s.2) (fun s hs' K hK => hs s.1 s.2 hs' _ (fun x3' h' h1 h2 => hK (x3', h') h1 h2)) (x3, h) hI
set_option maxRecDepth 20000 in
theorem tX12_findLevels_32 {G : GG} {X : XX} {a0 : Nat} {x2 : Int32} {x3 : Int32} {h : Hp}  {Q : Hp → Prop} (C : Cx G RX12 cX12_findLevels 7 none 0 0 0 X) (k0 : kd a0 = 12) (hw : eX12_findLevels_32 a0 x2 Q x3 h) : R0 G X 0 0 (ZM G (fun r h' => r = none ∧ Q h') X) 32 [some (.ref (G.1 a0)), none, some (.int x2), some (.int x3), none, none, none] [] h := by
  obtain ⟨N, hw⟩ := hw
  induction N generalizing x3 h with
  | zero => exact hw.elim
  | succ N ih =>
    obtain ⟨K32, eK⟩ : ∃ K : Int32 → Hp → Prop, K = (fun x3 h => lpN (fun (K : Int32 × Hp → Prop) (s : Int32 × Hp) => fX12_findLevels_32 a0 x2 Q (fun x3 h => K (x3, h)) s.1 s.2) N (x3, h)) := ⟨_, rfl⟩
    have hw : fX12_findLevels_32 a0 x2 Q (fun x3 h => lpN (fun (K : Int32 × Hp → Prop) (s : Int32 × Hp) => fX12_findLevels_32 a0 x2 Q (fun x3 h => K (x3, h)) s.1 s.2) N (x3, h)) x3 h := hw
    have hK32 : ∀ (x3 : Int32) (h : Hp), K32 x3 h → R0 G X 0 0 (ZM G (fun r h' => r = none ∧ Q h') X) 32 [some (.ref (G.1 a0)), none, some (.int x2), some (.int x3), none, none, none] [] h := fun x3 h q => ih (by rw [eK] at q; exact q)
    rw [← eK] at hw
    clear eK ih
    unfold fX12_findLevels_32 at hw
    refine r_iload_n C dX12_findLevels_32 rfl ?_
    refine r_if_eq 185 C dX12_findLevels_33 (by decide) (fun hc => ?_) (fun hc => ?_)
    · replace hw := it_t hc hw
      exact r_vret C dX12_findLevels_185 ⟨rfl, hw⟩
    · replace hw := it_f hc hw
      refine r_iconst (0) C dX12_findLevels_36 (by decide) ?_
      refine r_istore_n [some (.ref (G.1 a0)), none, some (.int x2), some (.int (0 : Int32)), none, none, none] C dX12_findLevels_37 (Nat.le_of_ble_eq_true rfl) rfl rfl ?_
      refine r_iconst (0) C dX12_findLevels_38 (by decide) ?_
      refine r_istore [some (.ref (G.1 a0)), none, some (.int x2), some (.int (0 : Int32)), some (.int (0 : Int32)), none, none] C dX12_findLevels_39 (Nat.le_of_ble_eq_true rfl) rfl rfl ?_
      exact tX12_findLevels_41 C (k0) hK32 hw
def fX12_findLevels_2 (a0 : Nat) (x1 : Int32) (x2 : Int32) (Q : Hp → Prop) (K2 : Int32 → Hp → Prop) (x3 : Int32) (h : Hp) : Prop :=
  if (40 : Int32) < x3 then (vp_in x1 (ln (rf a0 39)) ∧ (∀ h2 : Hp, h2 = sI h (rf a0 39) x1.toNatClampNeg (0 : Int32) → (eX12_findLevels_32 a0 x2 Q (1 : Int32) h2))) else (vp_in x3 (ln (rf a0 39)) ∧ (∀ h4 : Hp, h4 = sI h (rf a0 39) x3.toNatClampNeg (1000000 : Int32) → (∀ v5 : Int32, v5 = x3 + (1 : Int32) → (K2 v5 h4))))
def eX12_findLevels_2 (a0 : Nat) (x1 : Int32) (x2 : Int32) (Q : Hp → Prop) (x3 : Int32) (h : Hp) : Prop := ∃ N, lpN (fun (K : Int32 × Hp → Prop) (s : Int32 × Hp) => fX12_findLevels_2 a0 x1 x2 Q (fun x3 h => K (x3, h)) s.1 s.2) N (x3, h)
theorem iX12_findLevels_2 {a0 : Nat} {x1 : Int32} {x2 : Int32} {Q : Hp → Prop} (I : Int32 → Hp → Prop) (μ : Int32 → Hp → Nat) (hs : ∀ (x3 : Int32) (h : Hp), I x3 h → ∀ K : Int32 → Hp → Prop, (∀ (x3' : Int32) (h' : Hp), I x3' h' → μ x3' h' < μ x3 h → K x3' h') → fX12_findLevels_2 a0 x1 x2 Q K x3 h) : ∀ (x3 : Int32) (h : Hp), I x3 h → eX12_findLevels_2 a0 x1 x2 Q x3 h := fun x3 h hI => lp_ind (fun s => I s.1 s.2) (fun s => μ s.1 s.2) (fun s hs' K hK => hs s.1 s.2 hs' _ (fun x3' h' h1 h2 => hK (x3', h') h1 h2)) (x3, h) hI
set_option maxRecDepth 20000 in
theorem tX12_findLevels_2 {G : GG} {X : XX} {a0 : Nat} {x1 : Int32} {x2 : Int32} {x3 : Int32} {h : Hp}  {Q : Hp → Prop} (C : Cx G RX12 cX12_findLevels 7 none 0 0 0 X) (k0 : kd a0 = 12) (hw : eX12_findLevels_2 a0 x1 x2 Q x3 h) : R0 G X 0 0 (ZM G (fun r h' => r = none ∧ Q h') X) 2 [some (.ref (G.1 a0)), some (.int x1), some (.int x2), some (.int x3), none, none, none] [] h := by
  obtain ⟨N, hw⟩ := hw
  induction N generalizing x3 h with
  | zero => exact hw.elim
  | succ N ih =>
    obtain ⟨K2, eK⟩ : ∃ K : Int32 → Hp → Prop, K = (fun x3 h => lpN (fun (K : Int32 × Hp → Prop) (s : Int32 × Hp) => fX12_findLevels_2 a0 x1 x2 Q (fun x3 h => K (x3, h)) s.1 s.2) N (x3, h)) := ⟨_, rfl⟩
    have hw : fX12_findLevels_2 a0 x1 x2 Q (fun x3 h => lpN (fun (K : Int32 × Hp → Prop) (s : Int32 × Hp) => fX12_findLevels_2 a0 x1 x2 Q (fun x3 h => K (x3, h)) s.1 s.2) N (x3, h)) x3 h := hw
    have hK2 : ∀ (x3 : Int32) (h : Hp), K2 x3 h → R0 G X 0 0 (ZM G (fun r h' => r = none ∧ Q h') X) 2 [some (.ref (G.1 a0)), some (.int x1), some (.int x2), some (.int x3), none, none, none] [] h := fun x3 h q => ih (by rw [eK] at q; exact q)
    rw [← eK] at hw
    clear eK ih
    unfold fX12_findLevels_2 at hw
    refine r_iload_n C dX12_findLevels_2 rfl ?_
    refine r_bipush (40) C dX12_findLevels_3 (by decide) ?_
    refine r_icmp_gt 23 C dX12_findLevels_5 (by decide) (fun hc => ?_) (fun hc => ?_)
    · replace hw := it_t hc hw
      refine r_aload_n C dX12_findLevels_23 rfl ?_
      refine gX12_79 C (k0) dX12_findLevels_24 ?_
      refine r_iload_n C dX12_findLevels_27 rfl ?_
      refine r_iconst (0) C dX12_findLevels_28 (by decide) ?_
      obtain ⟨hi1, hw⟩ := hw
      refine r_iast C (kr12_39 (k0)) hi1 dX12_findLevels_29 ?_
      refine r_toph (fun h2 eh2 => ?_)
      replace hw := hw h2 eh2
      refine r_iconst (1) C dX12_findLevels_30 (by decide) ?_
      refine r_istore_n [some (.ref (G.1 a0)), some (.int x1), some (.int x2), some (.int (1 : Int32)), none, none, none] C dX12_findLevels_31 (Nat.le_of_ble_eq_true rfl) rfl rfl ?_
      refine r_weak [some (.ref (G.1 a0)), none, some (.int x2), some (.int (1 : Int32)), none, none, none] (lw_k (lw_d (lw_k (lw_k (lw_k (lw_k (lw_k (lw_n)))))))) ?_
      exact tX12_findLevels_32 C (k0) hw
    · replace hw := it_f hc hw
      refine r_aload_n C dX12_findLevels_8 rfl ?_
      refine gX12_79 C (k0) dX12_findLevels_9 ?_
      refine r_iload_n C dX12_findLevels_12 rfl ?_
      refine r_ldc_w (1000000) C wd1453 dX12_findLevels_13 ?_
      obtain ⟨hi3, hw⟩ := hw
      refine r_iast C (kr12_39 (k0)) hi3 dX12_findLevels_16 ?_
      refine r_toph (fun h4 eh4 => ?_)
      replace hw := hw h4 eh4
      obtain ⟨v5, ev5⟩ : ∃ v : Int32, v = x3 + (1 : Int32) := ⟨_, rfl⟩
      replace hw := hw v5 ev5
      refine r_iinc v5 [some (.ref (G.1 a0)), some (.int x1), some (.int x2), some (.int v5), none, none, none] C dX12_findLevels_17 rfl (by rw [ev5]; rfl) rfl rfl ?_
      refine r_goto 2 C dX12_findLevels_20 (by decide) ?_
      exact hK2 _ _ hw
def wX12_findLevels (a0 : Nat) (x1 : Int32) (x2 : Int32) (h : Hp) (Q : Hp → Prop) : Prop :=
  eX12_findLevels_2 a0 x1 x2 Q (0 : Int32) h
set_option maxRecDepth 20000 in
theorem sX12_findLevels {G : GG} {a0 : Nat} {x1 : Int32} {x2 : Int32} {h : Hp} {Q : Hp → Prop} (k0 : kd a0 = 12) (hw : wX12_findLevels a0 x1 x2 h Q) : CV G 0 yX12_findLevels cX12_findLevels 7 none [.ref (G.1 a0), .int x1, .int x2] h Q := by
  refine CO_of [some (.ref (G.1 a0)), some (.int x1), some (.int x2), none, none, none, none] (by decide) (Nat.le_of_ble_eq_true rfl) rfl (fun X C => ?_)
  unfold wX12_findLevels at hw
  refine r_iconst (0) C dX12_findLevels_0 (by decide) ?_
  refine r_istore_n [some (.ref (G.1 a0)), some (.int x1), some (.int x2), some (.int (0 : Int32)), none, none, none] C dX12_findLevels_1 (Nat.le_of_ble_eq_true rfl) rfl rfl ?_
  exact tX12_findLevels_2 C (k0) hw
def fX12_reach_29 (a0 : Nat) (x1 : Int32) (h : Hp) (Q : Int64 → Hp → Prop) (K29 : Int64 → Int32 → Prop) (x2 : Int64) (x4 : Int32) : Prop :=
  if (rm x1 (100 : Int32)) < x4 then (Q x2 h) else (vp_in x4 (ln (rf a0 39)) ∧ (if (1000000 : Int32) ≤ (gI h (rf a0 39) x4.toNatClampNeg) then (∀ v2 : Int32, v2 = x4 + (1 : Int32) → (K29 x2 v2)) else (∀ v3 : Int64, v3 = (x2 ||| (shlL (1 : Int64) x4)) → (∀ v4 : Int32, v4 = x4 + (1 : Int32) → (K29 v3 v4)))))
def eX12_reach_29 (a0 : Nat) (x1 : Int32) (h : Hp) (Q : Int64 → Hp → Prop) (x2 : Int64) (x4 : Int32) : Prop := ∃ N, lpN (fun (K : Int64 × Int32 → Prop) (s : Int64 × Int32) => fX12_reach_29 a0 x1 h Q (fun x2 x4 => K (x2, x4)) s.1 s.2) N (x2, x4)
theorem iX12_reach_29 {a0 : Nat} {x1 : Int32} {h : Hp} {Q : Int64 → Hp → Prop} (I : Int64 → Int32 → Prop) (μ : Int64 → Int32 → Nat) (hs : ∀ (x2 : Int64) (x4 : Int32), I x2 x4 → ∀ K : Int64 → Int32 → Prop, (∀ (x2' : Int64) (x4' : Int32), I x2' x4' → μ x2' x4' < μ x2 x4 → K x2' x4') → fX12_reach_29 a0 x1 h Q K x2 x4) : ∀ (x2 : Int64) (x4 : Int32), I x2 x4 → eX12_reach_29 a0 x1 h Q x2 x4 := fun x2 x4 hI => lp_ind (fun s => I s.1 s.2) (fun s => μ s.1 s.2) (fun s hs' K hK => hs s.1 s.2 hs' _ (fun x2' x4' h1 h2 => hK (x2', x4') h1 h2)) (x2, x4) hI
set_option maxRecDepth 20000 in
theorem tX12_reach_29 {G : GG} {X : XX} {a0 : Nat} {x1 : Int32} {x2 : Int64} {x4 : Int32} {h : Hp}  {Q : Int64 → Hp → Prop} (C : Cx G RX12 cX12_reach 5 (some .long) 1 0 0 X) (k0 : kd a0 = 12) (hw : eX12_reach_29 a0 x1 h Q x2 x4) : R0 G X 0 0 (ZM G (fun r h' => ∃ v, r = some (.long v) ∧ Q v h') X) 29 [some (.ref (G.1 a0)), some (.int x1), some (.long x2), none, some (.int x4)] [] h := by
  obtain ⟨N, hw⟩ := hw
  induction N generalizing x2 x4 with
  | zero => exact hw.elim
  | succ N ih =>
    obtain ⟨K29, eK⟩ : ∃ K : Int64 → Int32 → Prop, K = (fun x2 x4 => lpN (fun (K : Int64 × Int32 → Prop) (s : Int64 × Int32) => fX12_reach_29 a0 x1 h Q (fun x2 x4 => K (x2, x4)) s.1 s.2) N (x2, x4)) := ⟨_, rfl⟩
    have hw : fX12_reach_29 a0 x1 h Q (fun x2 x4 => lpN (fun (K : Int64 × Int32 → Prop) (s : Int64 × Int32) => fX12_reach_29 a0 x1 h Q (fun x2 x4 => K (x2, x4)) s.1 s.2) N (x2, x4)) x2 x4 := hw
    have hK29 : ∀ (x2 : Int64) (x4 : Int32), K29 x2 x4 → R0 G X 0 0 (ZM G (fun r h' => ∃ v, r = some (.long v) ∧ Q v h') X) 29 [some (.ref (G.1 a0)), some (.int x1), some (.long x2), none, some (.int x4)] [] h := fun x2 x4 q => ih (by rw [eK] at q; exact q)
    rw [← eK] at hw
    clear eK ih
    unfold fX12_reach_29 at hw
    refine r_iload C dX12_reach_29 rfl ?_
    refine r_iload_n C dX12_reach_31 rfl ?_
    refine r_bipush (100) C dX12_reach_32 (by decide) ?_
    refine r_irem C dX12_reach_34 (by decide) ?_
    refine r_icmp_gt 64 C dX12_reach_35 (by decide) (fun hc => ?_) (fun hc => ?_)
    · replace hw := it_t hc hw
      refine r_lload_n C dX12_reach_64 rfl ?_
      exact r_lret C dX12_reach_65 ⟨_, rfl, hw⟩
    · replace hw := it_f hc hw
      refine r_aload_n C dX12_reach_38 rfl ?_
      refine gX12_79 C (k0) dX12_reach_39 ?_
      refine r_iload C dX12_reach_42 rfl ?_
      obtain ⟨hi1, hw⟩ := hw
      refine r_iald C (kr12_39 (k0)) hi1 dX12_reach_44 ?_
      refine r_ldc_w (1000000) C wd1453 dX12_reach_45 ?_
      refine r_icmp_ge 58 C dX12_reach_48 (by decide) (fun hc => ?_) (fun hc => ?_)
      · replace hw := it_t hc hw
        obtain ⟨v2, ev2⟩ : ∃ v : Int32, v = x4 + (1 : Int32) := ⟨_, rfl⟩
        replace hw := hw v2 ev2
        refine r_iinc v2 [some (.ref (G.1 a0)), some (.int x1), some (.long x2), none, some (.int v2)] C dX12_reach_58 rfl (by rw [ev2]; rfl) rfl rfl ?_
        refine r_goto 29 C dX12_reach_61 (by decide) ?_
        exact hK29 _ _ hw
      · replace hw := it_f hc hw
        refine r_lload_n C dX12_reach_51 rfl ?_
        refine r_lconst (1) C dX12_reach_52 (by decide) ?_
        refine r_iload C dX12_reach_53 rfl ?_
        refine r_lshl C dX12_reach_55 ?_
        refine r_lor C dX12_reach_56 ?_
        refine r_topl (fun v3 ev3 => ?_)
        replace hw := hw v3 ev3
        refine r_lstore_n [some (.ref (G.1 a0)), some (.int x1), some (.long v3), none, some (.int x4)] C dX12_reach_57 (Nat.le_of_ble_eq_true rfl) rfl rfl ?_
        obtain ⟨v4, ev4⟩ : ∃ v : Int32, v = x4 + (1 : Int32) := ⟨_, rfl⟩
        replace hw := hw v4 ev4
        refine r_iinc v4 [some (.ref (G.1 a0)), some (.int x1), some (.long v3), none, some (.int v4)] C dX12_reach_58 rfl (by rw [ev4]; rfl) rfl rfl ?_
        refine r_goto 29 C dX12_reach_61 (by decide) ?_
        exact hK29 _ _ hw
def wX12_reach (a0 : Nat) (x1 : Int32) (h : Hp) (Q : Int64 → Hp → Prop) : Prop :=
  wX12_isCounts a0 x1 h (fun v1 => if v1 = 0 then (Q (-1 : Int64) h) else (wX12_findLevels a0 (x1 / (100 : Int32)) (rm x1 (100 : Int32)) h (fun h3 => eX12_reach_29 a0 x1 h3 Q (0 : Int64) (0 : Int32))))
set_option maxRecDepth 20000 in
theorem sX12_reach {G : GG} {a0 : Nat} {x1 : Int32} {h : Hp} {Q : Int64 → Hp → Prop} (k0 : kd a0 = 12) (hw : wX12_reach a0 x1 h Q) : CJ G 1 yX12_reach cX12_reach 5 (some .long) [.ref (G.1 a0), .int x1] h Q := by
  refine CO_of [some (.ref (G.1 a0)), some (.int x1), none, none, none] (by decide) (Nat.le_of_ble_eq_true rfl) rfl (fun X C => ?_)
  unfold wX12_reach at hw
  refine r_aload_n C dX12_reach_0 rfl ?_
  refine r_iload_n C dX12_reach_1 rfl ?_
  refine kX12_304 C (k0) (sX12_isCounts (k0) hw) dX12_reach_2 (Nat.le_of_ble_eq_true rfl) rfl (Nat.le_of_ble_eq_true rfl) (fun v1 hw => ?_)
  refine r_if_ne 12 C dX12_reach_5 (by decide) (fun hc => ?_) (fun hc => ?_)
  · replace hw := it_f hc hw
    refine r_aload_n C dX12_reach_12 rfl ?_
    refine r_iload_n C dX12_reach_13 rfl ?_
    refine r_bipush (100) C dX12_reach_14 (by decide) ?_
    refine r_idiv C dX12_reach_16 (by decide) ?_
    refine r_iload_n C dX12_reach_17 rfl ?_
    refine r_bipush (100) C dX12_reach_18 (by decide) ?_
    refine r_irem C dX12_reach_20 (by decide) ?_
    refine kX12_309 C (k0) (sX12_findLevels (k0) hw) dX12_reach_21 (Nat.le_of_ble_eq_true rfl) rfl (Nat.le_of_ble_eq_true rfl) (fun h3 hw => ?_)
    refine r_lconst (0) C dX12_reach_24 (by decide) ?_
    refine r_lstore_n [some (.ref (G.1 a0)), some (.int x1), some (.long (0 : Int64)), none, none] C dX12_reach_25 (Nat.le_of_ble_eq_true rfl) rfl rfl ?_
    refine r_iconst (0) C dX12_reach_26 (by decide) ?_
    refine r_istore [some (.ref (G.1 a0)), some (.int x1), some (.long (0 : Int64)), none, some (.int (0 : Int32))] C dX12_reach_27 (Nat.le_of_ble_eq_true rfl) rfl rfl ?_
    exact tX12_reach_29 C (k0) hw
  · replace hw := it_t hc hw
    refine r_ldc2_w (-1) C wd1470 dX12_reach_8 ?_
    exact r_lret C dX12_reach_11 ⟨_, rfl, hw⟩
def wX12_steps (a0 : Nat) (x1 : Int32) (x2 : Int32) (h : Hp) (Q : Int32 → Hp → Prop) : Prop :=
  wX12_isCounts a0 x1 h (fun v1 => if v1 = 0 then (Q (-1 : Int32) h) else (wX12_in x2 (0 : Int32) (rm x1 (100 : Int32)) h (fun v2 => if v2 = 0 then (Q (-1 : Int32) h) else (wX12_findLevels a0 (x1 / (100 : Int32)) (rm x1 (100 : Int32)) h (fun h4 => vp_in x2 (ln (rf a0 39)) ∧ (if (1000000 : Int32) ≤ (gI h4 (rf a0 39) x2.toNatClampNeg) then (Q (-2 : Int32) h4) else (vp_in x2 (ln (rf a0 39)) ∧ (Q (gI h4 (rf a0 39) x2.toNatClampNeg) h4))))))))
set_option maxRecDepth 20000 in
theorem sX12_steps {G : GG} {a0 : Nat} {x1 : Int32} {x2 : Int32} {h : Hp} {Q : Int32 → Hp → Prop} (k0 : kd a0 = 12) (hw : wX12_steps a0 x1 x2 h Q) : CI G 1 yX12_steps cX12_steps 3 (some .int) [.ref (G.1 a0), .int x1, .int x2] h Q := by
  refine CO_of [some (.ref (G.1 a0)), some (.int x1), some (.int x2)] (by decide) (Nat.le_of_ble_eq_true rfl) rfl (fun X C => ?_)
  unfold wX12_steps at hw
  refine r_aload_n C dX12_steps_0 rfl ?_
  refine r_iload_n C dX12_steps_1 rfl ?_
  refine kX12_304 C (k0) (sX12_isCounts (k0) hw) dX12_steps_2 (Nat.le_of_ble_eq_true rfl) rfl (Nat.le_of_ble_eq_true rfl) (fun v1 hw => ?_)
  refine r_if_eq 20 C dX12_steps_5 (by decide) (fun hc => ?_) (fun hc => ?_)
  · replace hw := it_t hc hw
    refine r_iconst (-1) C dX12_steps_20 (by decide) ?_
    exact r_iret C dX12_steps_21 ⟨_, rfl, hw⟩
  · replace hw := it_f hc hw
    refine r_iload_n C dX12_steps_8 rfl ?_
    refine r_iconst (0) C dX12_steps_9 (by decide) ?_
    refine r_iload_n C dX12_steps_10 rfl ?_
    refine r_bipush (100) C dX12_steps_11 (by decide) ?_
    refine r_irem C dX12_steps_13 (by decide) ?_
    refine kX12_114 C (sX12_in hw) dX12_steps_14 (Nat.le_of_ble_eq_true rfl) rfl (Nat.le_of_ble_eq_true rfl) (fun v2 hw => ?_)
    refine r_if_ne 22 C dX12_steps_17 (by decide) (fun hc => ?_) (fun hc => ?_)
    · replace hw := it_f hc hw
      refine r_aload_n C dX12_steps_22 rfl ?_
      refine r_iload_n C dX12_steps_23 rfl ?_
      refine r_bipush (100) C dX12_steps_24 (by decide) ?_
      refine r_idiv C dX12_steps_26 (by decide) ?_
      refine r_iload_n C dX12_steps_27 rfl ?_
      refine r_bipush (100) C dX12_steps_28 (by decide) ?_
      refine r_irem C dX12_steps_30 (by decide) ?_
      refine kX12_309 C (k0) (sX12_findLevels (k0) hw) dX12_steps_31 (Nat.le_of_ble_eq_true rfl) rfl (Nat.le_of_ble_eq_true rfl) (fun h4 hw => ?_)
      refine r_aload_n C dX12_steps_34 rfl ?_
      refine gX12_79 C (k0) dX12_steps_35 ?_
      refine r_iload_n C dX12_steps_38 rfl ?_
      obtain ⟨hi5, hw⟩ := hw
      refine r_iald C (kr12_39 (k0)) hi5 dX12_steps_39 ?_
      refine r_ldc_w (1000000) C wd1453 dX12_steps_40 ?_
      refine r_icmp_ge 55 C dX12_steps_43 (by decide) (fun hc => ?_) (fun hc => ?_)
      · replace hw := it_t hc hw
        refine r_bipush (-2) C dX12_steps_55 (by decide) ?_
        exact r_iret C dX12_steps_57 ⟨_, rfl, hw⟩
      · replace hw := it_f hc hw
        refine r_aload_n C dX12_steps_46 rfl ?_
        refine gX12_79 C (k0) dX12_steps_47 ?_
        refine r_iload_n C dX12_steps_50 rfl ?_
        obtain ⟨hi6, hw⟩ := hw
        refine r_iald C (kr12_39 (k0)) hi6 dX12_steps_51 ?_
        refine r_goto 57 C dX12_steps_52 (by decide) ?_
        exact r_iret C dX12_steps_57 ⟨_, rfl, hw⟩
    · replace hw := it_t hc hw
      refine r_iconst (-1) C dX12_steps_20 (by decide) ?_
      exact r_iret C dX12_steps_21 ⟨_, rfl, hw⟩
def fX12_boat_159 (a0 : Nat) (x2 : Int32) (x3 : Int32) (x4 : Int32) (x5 : Int32) (x6 : Int32) (x7 : Int32) (h : Hp) (K82 : Int32 → Hp → Prop) (K93 : Int32 → Int32 → Hp → Prop) (K102 : Int32 → Int32 → Hp → Prop) (Q : Int32 → Hp → Prop) (K159 : Int32 → Int32 → Prop) (x8 : Int32) (x9 : Int32) : Prop :=
  if (gI h a0 1) ≤ x9 then (vp_in x6 (ln (rf a0 39)) ∧ (if x8 < (gI h (rf a0 39) x6.toNatClampNeg) then (vp_in x6 (ln (rf a0 39)) ∧ (∀ h3 : Hp, h3 = sI h (rf a0 39) x6.toNatClampNeg x8 → (∀ v4 : Int32, v4 = x6 + (1 : Int32) → (K102 (1 : Int32) v4 h3)))) else (∀ v5 : Int32, v5 = x6 + (1 : Int32) → (K102 x4 v5 h)))) else (vp_in x9 (ln (rf a0 2)) ∧ (if (gI h (rf a0 2) x9.toNatClampNeg) = x7 then (vp_in x5 (ln (rf a0 39)) ∧ (∀ v9 : Int32, v9 = (gI h (rf a0 39) x5.toNatClampNeg) → (∀ v10 : Int32, v10 = x9 + (1 : Int32) → (K159 v9 v10)))) else (∀ v7 : Int32, v7 = x9 + (1 : Int32) → (K159 x8 v7))))
def eX12_boat_159 (a0 : Nat) (x2 : Int32) (x3 : Int32) (x4 : Int32) (x5 : Int32) (x6 : Int32) (x7 : Int32) (h : Hp) (K82 : Int32 → Hp → Prop) (K93 : Int32 → Int32 → Hp → Prop) (K102 : Int32 → Int32 → Hp → Prop) (Q : Int32 → Hp → Prop) (x8 : Int32) (x9 : Int32) : Prop := ∃ N, lpN (fun (K : Int32 × Int32 → Prop) (s : Int32 × Int32) => fX12_boat_159 a0 x2 x3 x4 x5 x6 x7 h K82 K93 K102 Q (fun x8 x9 => K (x8, x9)) s.1 s.2) N (x8, x9)
theorem iX12_boat_159 {a0 : Nat} {x2 : Int32} {x3 : Int32} {x4 : Int32} {x5 : Int32} {x6 : Int32} {x7 : Int32} {h : Hp} {K82 : Int32 → Hp → Prop} {K93 : Int32 → Int32 → Hp → Prop} {K102 : Int32 → Int32 → Hp → Prop} {Q : Int32 → Hp → Prop} (I : Int32 → Int32 → Prop) (μ : Int32 → Int32 → Nat) (hs : ∀ (x8 : Int32) (x9 : Int32), I x8 x9 → ∀ K : Int32 → Int32 → Prop, (∀ (x8' : Int32) (x9' : Int32), I x8' x9' → μ x8' x9' < μ x8 x9 → K x8' x9') → fX12_boat_159 a0 x2 x3 x4 x5 x6 x7 h K82 K93 K102 Q K x8 x9) : ∀ (x8 : Int32) (x9 : Int32), I x8 x9 → eX12_boat_159 a0 x2 x3 x4 x5 x6 x7 h K82 K93 K102 Q x8 x9 := fun x8 x9 hI => lp_ind (fun s => I s.1 s.2) (fun s => μ s.1 s.2) (fun s hs' K hK => hs s.1 s.2 hs' _ (fun x8' x9' h1 h2 => hK (x8', x9') h1 h2)) (x8, x9) hI
set_option maxRecDepth 20000 in
theorem tX12_boat_159 {G : GG} {X : XX} {a0 : Nat} {x2 : Int32} {x3 : Int32} {x4 : Int32} {x5 : Int32} {x6 : Int32} {x7 : Int32} {x8 : Int32} {x9 : Int32} {h : Hp}  {K82 : Int32 → Hp → Prop} {K93 : Int32 → Int32 → Hp → Prop} {K102 : Int32 → Int32 → Hp → Prop} {Q : Int32 → Hp → Prop} (C : Cx G RX12 cX12_boat 10 (some .int) 1 0 0 X) (k0 : kd a0 = 12) (hK82 : ∀ (y4 : Int32) (h' : Hp), K82 y4 h' → R0 G X 0 0 (ZM G (fun r h' => ∃ v, r = some (.int v) ∧ Q v h') X) 82 [some (.ref (G.1 a0)), none, some (.int x2), some (.int x3), some (.int y4), none, none, none, none, none] [] h') (hK93 : ∀ (y4 : Int32) (y5 : Int32) (h' : Hp), K93 y4 y5 h' → R0 G X 0 0 (ZM G (fun r h' => ∃ v, r = some (.int v) ∧ Q v h') X) 93 [some (.ref (G.1 a0)), none, some (.int x2), some (.int x3), some (.int y4), some (.int y5), none, none, none, none] [] h') (hK102 : ∀ (y4 : Int32) (y6 : Int32) (h' : Hp), K102 y4 y6 h' → R0 G X 0 0 (ZM G (fun r h' => ∃ v, r = some (.int v) ∧ Q v h') X) 102 [some (.ref (G.1 a0)), none, some (.int x2), some (.int x3), some (.int y4), some (.int x5), some (.int y6), none, none, none] [] h') (hw : eX12_boat_159 a0 x2 x3 x4 x5 x6 x7 h K82 K93 K102 Q x8 x9) : R0 G X 0 0 (ZM G (fun r h' => ∃ v, r = some (.int v) ∧ Q v h') X) 159 [some (.ref (G.1 a0)), none, some (.int x2), some (.int x3), some (.int x4), some (.int x5), some (.int x6), some (.int x7), some (.int x8), some (.int x9)] [] h := by
  obtain ⟨N, hw⟩ := hw
  induction N generalizing x8 x9 with
  | zero => exact hw.elim
  | succ N ih =>
    obtain ⟨K159, eK⟩ : ∃ K : Int32 → Int32 → Prop, K = (fun x8 x9 => lpN (fun (K : Int32 × Int32 → Prop) (s : Int32 × Int32) => fX12_boat_159 a0 x2 x3 x4 x5 x6 x7 h K82 K93 K102 Q (fun x8 x9 => K (x8, x9)) s.1 s.2) N (x8, x9)) := ⟨_, rfl⟩
    have hw : fX12_boat_159 a0 x2 x3 x4 x5 x6 x7 h K82 K93 K102 Q (fun x8 x9 => lpN (fun (K : Int32 × Int32 → Prop) (s : Int32 × Int32) => fX12_boat_159 a0 x2 x3 x4 x5 x6 x7 h K82 K93 K102 Q (fun x8 x9 => K (x8, x9)) s.1 s.2) N (x8, x9)) x8 x9 := hw
    have hK159 : ∀ (x8 : Int32) (x9 : Int32), K159 x8 x9 → R0 G X 0 0 (ZM G (fun r h' => ∃ v, r = some (.int v) ∧ Q v h') X) 159 [some (.ref (G.1 a0)), none, some (.int x2), some (.int x3), some (.int x4), some (.int x5), some (.int x6), some (.int x7), some (.int x8), some (.int x9)] [] h := fun x8 x9 q => ih (by rw [eK] at q; exact q)
    rw [← eK] at hw
    clear eK ih
    unfold fX12_boat_159 at hw
    refine r_iload C dX12_boat_159 rfl ?_
    refine r_aload_n C dX12_boat_161 rfl ?_
    refine gX12_111 C (k0) dX12_boat_162 ?_
    refine r_icmp_ge 195 C dX12_boat_165 (by decide) (fun hc => ?_) (fun hc => ?_)
    · replace hw := it_t hc hw
      refine r_iload C dX12_boat_195 rfl ?_
      refine r_aload_n C dX12_boat_197 rfl ?_
      refine gX12_79 C (k0) dX12_boat_198 ?_
      refine r_iload C dX12_boat_201 rfl ?_
      obtain ⟨hi1, hw⟩ := hw
      refine r_iald C (kr12_39 (k0)) hi1 dX12_boat_203 ?_
      refine r_icmp_lt 210 C dX12_boat_204 (by decide) (fun hc => ?_) (fun hc => ?_)
      · replace hw := it_t hc hw
        refine r_aload_n C dX12_boat_210 rfl ?_
        refine gX12_79 C (k0) dX12_boat_211 ?_
        refine r_iload C dX12_boat_214 rfl ?_
        refine r_iload C dX12_boat_216 rfl ?_
        obtain ⟨hi2, hw⟩ := hw
        refine r_iast C (kr12_39 (k0)) hi2 dX12_boat_218 ?_
        refine r_toph (fun h3 eh3 => ?_)
        replace hw := hw h3 eh3
        refine r_iconst (1) C dX12_boat_219 (by decide) ?_
        refine r_istore [some (.ref (G.1 a0)), none, some (.int x2), some (.int x3), some (.int (1 : Int32)), some (.int x5), some (.int x6), some (.int x7), some (.int x8), some (.int x9)] C dX12_boat_220 (Nat.le_of_ble_eq_true rfl) rfl rfl ?_
        obtain ⟨v4, ev4⟩ : ∃ v : Int32, v = x6 + (1 : Int32) := ⟨_, rfl⟩
        replace hw := hw v4 ev4
        refine r_iinc v4 [some (.ref (G.1 a0)), none, some (.int x2), some (.int x3), some (.int (1 : Int32)), some (.int x5), some (.int v4), some (.int x7), some (.int x8), some (.int x9)] C dX12_boat_222 rfl (by rw [ev4]; rfl) rfl rfl ?_
        refine r_goto 102 C dX12_boat_225 (by decide) ?_
        refine r_weak [some (.ref (G.1 a0)), none, some (.int x2), some (.int x3), some (.int (1 : Int32)), some (.int x5), some (.int v4), none, none, none] (lw_k (lw_k (lw_k (lw_k (lw_k (lw_k (lw_k (lw_d (lw_d (lw_d (lw_n))))))))))) ?_
        exact hK102 _ _ _ hw
      · replace hw := it_f hc hw
        refine r_goto 222 C dX12_boat_207 (by decide) ?_
        obtain ⟨v5, ev5⟩ : ∃ v : Int32, v = x6 + (1 : Int32) := ⟨_, rfl⟩
        replace hw := hw v5 ev5
        refine r_iinc v5 [some (.ref (G.1 a0)), none, some (.int x2), some (.int x3), some (.int x4), some (.int x5), some (.int v5), some (.int x7), some (.int x8), some (.int x9)] C dX12_boat_222 rfl (by rw [ev5]; rfl) rfl rfl ?_
        refine r_goto 102 C dX12_boat_225 (by decide) ?_
        refine r_weak [some (.ref (G.1 a0)), none, some (.int x2), some (.int x3), some (.int x4), some (.int x5), some (.int v5), none, none, none] (lw_k (lw_k (lw_k (lw_k (lw_k (lw_k (lw_k (lw_d (lw_d (lw_d (lw_n))))))))))) ?_
        exact hK102 _ _ _ hw
    · replace hw := it_f hc hw
      refine r_aload_n C dX12_boat_168 rfl ?_
      refine gX12_7 C (k0) dX12_boat_169 ?_
      refine r_iload C dX12_boat_172 rfl ?_
      obtain ⟨hi6, hw⟩ := hw
      refine r_iald C (kr12_2 (k0)) hi6 dX12_boat_174 ?_
      refine r_iload C dX12_boat_175 rfl ?_
      refine r_icmp_ne 189 C dX12_boat_177 (by decide) (fun hc => ?_) (fun hc => ?_)
      · replace hw := it_f hc hw
        obtain ⟨v7, ev7⟩ : ∃ v : Int32, v = x9 + (1 : Int32) := ⟨_, rfl⟩
        replace hw := hw v7 ev7
        refine r_iinc v7 [some (.ref (G.1 a0)), none, some (.int x2), some (.int x3), some (.int x4), some (.int x5), some (.int x6), some (.int x7), some (.int x8), some (.int v7)] C dX12_boat_189 rfl (by rw [ev7]; rfl) rfl rfl ?_
        refine r_goto 159 C dX12_boat_192 (by decide) ?_
        exact hK159 _ _ hw
      · replace hw := it_t hc hw
        refine r_aload_n C dX12_boat_180 rfl ?_
        refine gX12_79 C (k0) dX12_boat_181 ?_
        refine r_iload C dX12_boat_184 rfl ?_
        obtain ⟨hi8, hw⟩ := hw
        refine r_iald C (kr12_39 (k0)) hi8 dX12_boat_186 ?_
        refine r_topi (fun v9 ev9 => ?_)
        replace hw := hw v9 ev9
        refine r_istore [some (.ref (G.1 a0)), none, some (.int x2), some (.int x3), some (.int x4), some (.int x5), some (.int x6), some (.int x7), some (.int v9), some (.int x9)] C dX12_boat_187 (Nat.le_of_ble_eq_true rfl) rfl rfl ?_
        obtain ⟨v10, ev10⟩ : ∃ v : Int32, v = x9 + (1 : Int32) := ⟨_, rfl⟩
        replace hw := hw v10 ev10
        refine r_iinc v10 [some (.ref (G.1 a0)), none, some (.int x2), some (.int x3), some (.int x4), some (.int x5), some (.int x6), some (.int x7), some (.int v9), some (.int v10)] C dX12_boat_189 rfl (by rw [ev10]; rfl) rfl rfl ?_
        refine r_goto 159 C dX12_boat_192 (by decide) ?_
        exact hK159 _ _ hw
def jX12_boat_128 (a0 : Nat) (x2 : Int32) (x3 : Int32) (x4 : Int32) (x5 : Int32) (x6 : Int32) (s0 : Int32) (h : Hp) (K82 : Int32 → Hp → Prop) (K93 : Int32 → Int32 → Hp → Prop) (K102 : Int32 → Int32 → Hp → Prop) (Q : Int32 → Hp → Prop) : Prop :=
  if (x2 / (100 : Int32)) < s0 then (eX12_boat_159 a0 x2 x3 x4 x5 x6 s0 h K82 K93 K102 Q (1000000 : Int32) (0 : Int32)) else (vp_in x5 (ln (rf a0 39)) ∧ (∀ v2 : Int32, v2 = ((gI h (rf a0 39) x5.toNatClampNeg) + (1 : Int32)) → (eX12_boat_159 a0 x2 x3 x4 x5 x6 s0 h K82 K93 K102 Q v2 (0 : Int32))))
set_option maxRecDepth 20000 in
theorem tX12_boat_128 {G : GG} {X : XX} {a0 : Nat} {x2 : Int32} {x3 : Int32} {x4 : Int32} {x5 : Int32} {x6 : Int32} {s0 : Int32} {h : Hp}  {K82 : Int32 → Hp → Prop} {K93 : Int32 → Int32 → Hp → Prop} {K102 : Int32 → Int32 → Hp → Prop} {Q : Int32 → Hp → Prop} (C : Cx G RX12 cX12_boat 10 (some .int) 1 0 0 X) (k0 : kd a0 = 12) (hK82 : ∀ (y4 : Int32) (h' : Hp), K82 y4 h' → R0 G X 0 0 (ZM G (fun r h' => ∃ v, r = some (.int v) ∧ Q v h') X) 82 [some (.ref (G.1 a0)), none, some (.int x2), some (.int x3), some (.int y4), none, none, none, none, none] [] h') (hK93 : ∀ (y4 : Int32) (y5 : Int32) (h' : Hp), K93 y4 y5 h' → R0 G X 0 0 (ZM G (fun r h' => ∃ v, r = some (.int v) ∧ Q v h') X) 93 [some (.ref (G.1 a0)), none, some (.int x2), some (.int x3), some (.int y4), some (.int y5), none, none, none, none] [] h') (hK102 : ∀ (y4 : Int32) (y6 : Int32) (h' : Hp), K102 y4 y6 h' → R0 G X 0 0 (ZM G (fun r h' => ∃ v, r = some (.int v) ∧ Q v h') X) 102 [some (.ref (G.1 a0)), none, some (.int x2), some (.int x3), some (.int y4), some (.int x5), some (.int y6), none, none, none] [] h') (hw : jX12_boat_128 a0 x2 x3 x4 x5 x6 s0 h K82 K93 K102 Q) : R0 G X 0 0 (ZM G (fun r h' => ∃ v, r = some (.int v) ∧ Q v h') X) 128 [some (.ref (G.1 a0)), none, some (.int x2), some (.int x3), some (.int x4), some (.int x5), some (.int x6), none, none, none] [.int s0] h := by
  unfold jX12_boat_128 at hw
  refine r_istore [some (.ref (G.1 a0)), none, some (.int x2), some (.int x3), some (.int x4), some (.int x5), some (.int x6), some (.int s0), none, none] C dX12_boat_128 (Nat.le_of_ble_eq_true rfl) rfl rfl ?_
  refine r_iload C dX12_boat_130 rfl ?_
  refine r_iload_n C dX12_boat_132 rfl ?_
  refine r_bipush (100) C dX12_boat_133 (by decide) ?_
  refine r_idiv C dX12_boat_135 (by decide) ?_
  refine r_icmp_gt 151 C dX12_boat_136 (by decide) (fun hc => ?_) (fun hc => ?_)
  · replace hw := it_t hc hw
    refine r_ldc_w (1000000) C wd1453 dX12_boat_151 ?_
    refine r_istore [some (.ref (G.1 a0)), none, some (.int x2), some (.int x3), some (.int x4), some (.int x5), some (.int x6), some (.int s0), some (.int (1000000 : Int32)), none] C dX12_boat_154 (Nat.le_of_ble_eq_true rfl) rfl rfl ?_
    refine r_iconst (0) C dX12_boat_156 (by decide) ?_
    refine r_istore [some (.ref (G.1 a0)), none, some (.int x2), some (.int x3), some (.int x4), some (.int x5), some (.int x6), some (.int s0), some (.int (1000000 : Int32)), some (.int (0 : Int32))] C dX12_boat_157 (Nat.le_of_ble_eq_true rfl) rfl rfl ?_
    exact tX12_boat_159 C (k0) hK82 hK93 hK102 hw
  · replace hw := it_f hc hw
    refine r_aload_n C dX12_boat_139 rfl ?_
    refine gX12_79 C (k0) dX12_boat_140 ?_
    refine r_iload C dX12_boat_143 rfl ?_
    obtain ⟨hi1, hw⟩ := hw
    refine r_iald C (kr12_39 (k0)) hi1 dX12_boat_145 ?_
    refine r_iconst (1) C dX12_boat_146 (by decide) ?_
    refine r_iadd C dX12_boat_147 ?_
    refine r_goto 154 C dX12_boat_148 (by decide) ?_
    refine r_topi (fun v2 ev2 => ?_)
    replace hw := hw v2 ev2
    refine r_istore [some (.ref (G.1 a0)), none, some (.int x2), some (.int x3), some (.int x4), some (.int x5), some (.int x6), some (.int s0), some (.int v2), none] C dX12_boat_154 (Nat.le_of_ble_eq_true rfl) rfl rfl ?_
    refine r_iconst (0) C dX12_boat_156 (by decide) ?_
    refine r_istore [some (.ref (G.1 a0)), none, some (.int x2), some (.int x3), some (.int x4), some (.int x5), some (.int x6), some (.int s0), some (.int v2), some (.int (0 : Int32))] C dX12_boat_157 (Nat.le_of_ble_eq_true rfl) rfl rfl ?_
    exact tX12_boat_159 C (k0) hK82 hK93 hK102 hw
def fX12_boat_102 (a0 : Nat) (x2 : Int32) (x3 : Int32) (x5 : Int32) (K82 : Int32 → Hp → Prop) (K93 : Int32 → Int32 → Hp → Prop) (Q : Int32 → Hp → Prop) (K102 : Int32 → Int32 → Hp → Prop) (x4 : Int32) (x6 : Int32) (h : Hp) : Prop :=
  if x3 < x6 then (∀ v1 : Int32, v1 = x5 + (1 : Int32) → (K93 x4 v1 h)) else (if x6 ≤ x5 then (jX12_boat_128 a0 x2 x3 x4 x5 x6 (x5 - x6) h K82 K93 K102 Q) else (jX12_boat_128 a0 x2 x3 x4 x5 x6 (x6 - x5) h K82 K93 K102 Q))
def eX12_boat_102 (a0 : Nat) (x2 : Int32) (x3 : Int32) (x5 : Int32) (K82 : Int32 → Hp → Prop) (K93 : Int32 → Int32 → Hp → Prop) (Q : Int32 → Hp → Prop) (x4 : Int32) (x6 : Int32) (h : Hp) : Prop := ∃ N, lpN (fun (K : Int32 × Int32 × Hp → Prop) (s : Int32 × Int32 × Hp) => fX12_boat_102 a0 x2 x3 x5 K82 K93 Q (fun x4 x6 h => K (x4, x6, h)) s.1 s.2.1 s.2.2) N (x4, x6, h)
theorem iX12_boat_102 {a0 : Nat} {x2 : Int32} {x3 : Int32} {x5 : Int32} {K82 : Int32 → Hp → Prop} {K93 : Int32 → Int32 → Hp → Prop} {Q : Int32 → Hp → Prop} (I : Int32 → Int32 → Hp → Prop) (μ : Int32 → Int32 → Hp → Nat) (hs : ∀ (x4 : Int32) (x6 : Int32) (h : Hp), I x4 x6 h → ∀ K : Int32 → Int32 → Hp → Prop, (∀ (x4' : Int32) (x6' : Int32) (h' : Hp), I x4' x6' h' → μ x4' x6' h' < μ x4 x6 h → K x4' x6' h') → fX12_boat_102 a0 x2 x3 x5 K82 K93 Q K x4 x6 h) : ∀ (x4 : Int32) (x6 : Int32) (h : Hp), I x4 x6 h → eX12_boat_102 a0 x2 x3 x5 K82 K93 Q x4 x6 h := fun x4 x6 h hI => lp_ind (fun s => I s.1 s.2.1 s.2.2) (fun s => μ s.1 s.2.1 s.2.2) (fun s hs' K hK => hs s.1 s.2.1 s.2.2 hs' _ (fun x4' x6' h' h1 h2 => hK (x4', x6', h') h1 h2)) (x4, x6, h) hI
set_option maxRecDepth 20000 in
theorem tX12_boat_102 {G : GG} {X : XX} {a0 : Nat} {x2 : Int32} {x3 : Int32} {x4 : Int32} {x5 : Int32} {x6 : Int32} {h : Hp}  {K82 : Int32 → Hp → Prop} {K93 : Int32 → Int32 → Hp → Prop} {Q : Int32 → Hp → Prop} (C : Cx G RX12 cX12_boat 10 (some .int) 1 0 0 X) (k0 : kd a0 = 12) (hK82 : ∀ (y4 : Int32) (h' : Hp), K82 y4 h' → R0 G X 0 0 (ZM G (fun r h' => ∃ v, r = some (.int v) ∧ Q v h') X) 82 [some (.ref (G.1 a0)), none, some (.int x2), some (.int x3), some (.int y4), none, none, none, none, none] [] h') (hK93 : ∀ (y4 : Int32) (y5 : Int32) (h' : Hp), K93 y4 y5 h' → R0 G X 0 0 (ZM G (fun r h' => ∃ v, r = some (.int v) ∧ Q v h') X) 93 [some (.ref (G.1 a0)), none, some (.int x2), some (.int x3), some (.int y4), some (.int y5), none, none, none, none] [] h') (hw : eX12_boat_102 a0 x2 x3 x5 K82 K93 Q x4 x6 h) : R0 G X 0 0 (ZM G (fun r h' => ∃ v, r = some (.int v) ∧ Q v h') X) 102 [some (.ref (G.1 a0)), none, some (.int x2), some (.int x3), some (.int x4), some (.int x5), some (.int x6), none, none, none] [] h := by
  obtain ⟨N, hw⟩ := hw
  induction N generalizing x4 x6 h with
  | zero => exact hw.elim
  | succ N ih =>
    obtain ⟨K102, eK⟩ : ∃ K : Int32 → Int32 → Hp → Prop, K = (fun x4 x6 h => lpN (fun (K : Int32 × Int32 × Hp → Prop) (s : Int32 × Int32 × Hp) => fX12_boat_102 a0 x2 x3 x5 K82 K93 Q (fun x4 x6 h => K (x4, x6, h)) s.1 s.2.1 s.2.2) N (x4, x6, h)) := ⟨_, rfl⟩
    have hw : fX12_boat_102 a0 x2 x3 x5 K82 K93 Q (fun x4 x6 h => lpN (fun (K : Int32 × Int32 × Hp → Prop) (s : Int32 × Int32 × Hp) => fX12_boat_102 a0 x2 x3 x5 K82 K93 Q (fun x4 x6 h => K (x4, x6, h)) s.1 s.2.1 s.2.2) N (x4, x6, h)) x4 x6 h := hw
    have hK102 : ∀ (x4 : Int32) (x6 : Int32) (h : Hp), K102 x4 x6 h → R0 G X 0 0 (ZM G (fun r h' => ∃ v, r = some (.int v) ∧ Q v h') X) 102 [some (.ref (G.1 a0)), none, some (.int x2), some (.int x3), some (.int x4), some (.int x5), some (.int x6), none, none, none] [] h := fun x4 x6 h q => ih (by rw [eK] at q; exact q)
    rw [← eK] at hw
    clear eK ih
    unfold fX12_boat_102 at hw
    refine r_iload C dX12_boat_102 rfl ?_
    refine r_iload_n C dX12_boat_104 rfl ?_
    refine r_icmp_gt 228 C dX12_boat_105 (by decide) (fun hc => ?_) (fun hc => ?_)
    · replace hw := it_t hc hw
      obtain ⟨v1, ev1⟩ : ∃ v : Int32, v = x5 + (1 : Int32) := ⟨_, rfl⟩
      replace hw := hw v1 ev1
      refine r_iinc v1 [some (.ref (G.1 a0)), none, some (.int x2), some (.int x3), some (.int x4), some (.int v1), some (.int x6), none, none, none] C dX12_boat_228 rfl (by rw [ev1]; rfl) rfl rfl ?_
      refine r_goto 93 C dX12_boat_231 (by decide) ?_
      refine r_weak [some (.ref (G.1 a0)), none, some (.int x2), some (.int x3), some (.int x4), some (.int v1), none, none, none, none] (lw_k (lw_k (lw_k (lw_k (lw_k (lw_k (lw_d (lw_k (lw_k (lw_k (lw_n))))))))))) ?_
      exact hK93 _ _ _ hw
    · replace hw := it_f hc hw
      refine r_iload C dX12_boat_108 rfl ?_
      refine r_iload C dX12_boat_110 rfl ?_
      refine r_icmp_ge 123 C dX12_boat_112 (by decide) (fun hc => ?_) (fun hc => ?_)
      · replace hw := it_t hc hw
        refine r_iload C dX12_boat_123 rfl ?_
        refine r_iload C dX12_boat_125 rfl ?_
        refine r_isub C dX12_boat_127 ?_
        exact tX12_boat_128 C (k0) hK82 hK93 hK102 hw
      · replace hw := it_f hc hw
        refine r_iload C dX12_boat_115 rfl ?_
        refine r_iload C dX12_boat_117 rfl ?_
        refine r_isub C dX12_boat_119 ?_
        refine r_goto 128 C dX12_boat_120 (by decide) ?_
        exact tX12_boat_128 C (k0) hK82 hK93 hK102 hw
def fX12_boat_93 (a0 : Nat) (x2 : Int32) (x3 : Int32) (K82 : Int32 → Hp → Prop) (Q : Int32 → Hp → Prop) (K93 : Int32 → Int32 → Hp → Prop) (x4 : Int32) (x5 : Int32) (h : Hp) : Prop :=
  if x3 < x5 then (K82 x4 h) else (eX12_boat_102 a0 x2 x3 x5 K82 K93 Q x4 (0 : Int32) h)
def eX12_boat_93 (a0 : Nat) (x2 : Int32) (x3 : Int32) (K82 : Int32 → Hp → Prop) (Q : Int32 → Hp → Prop) (x4 : Int32) (x5 : Int32) (h : Hp) : Prop := ∃ N, lpN (fun (K : Int32 × Int32 × Hp → Prop) (s : Int32 × Int32 × Hp) => fX12_boat_93 a0 x2 x3 K82 Q (fun x4 x5 h => K (x4, x5, h)) s.1 s.2.1 s.2.2) N (x4, x5, h)
theorem iX12_boat_93 {a0 : Nat} {x2 : Int32} {x3 : Int32} {K82 : Int32 → Hp → Prop} {Q : Int32 → Hp → Prop} (I : Int32 → Int32 → Hp → Prop) (μ : Int32 → Int32 → Hp → Nat) (hs : ∀ (x4 : Int32) (x5 : Int32) (h : Hp), I x4 x5 h → ∀ K : Int32 → Int32 → Hp → Prop, (∀ (x4' : Int32) (x5' : Int32) (h' : Hp), I x4' x5' h' → μ x4' x5' h' < μ x4 x5 h → K x4' x5' h') → fX12_boat_93 a0 x2 x3 K82 Q K x4 x5 h) : ∀ (x4 : Int32) (x5 : Int32) (h : Hp), I x4 x5 h → eX12_boat_93 a0 x2 x3 K82 Q x4 x5 h := fun x4 x5 h hI => lp_ind (fun s => I s.1 s.2.1 s.2.2) (fun s => μ s.1 s.2.1 s.2.2) (fun s hs' K hK => hs s.1 s.2.1 s.2.2 hs' _ (fun x4' x5' h' h1 h2 => hK (x4', x5', h') h1 h2)) (x4, x5, h) hI
set_option maxRecDepth 20000 in
theorem tX12_boat_93 {G : GG} {X : XX} {a0 : Nat} {x2 : Int32} {x3 : Int32} {x4 : Int32} {x5 : Int32} {h : Hp}  {K82 : Int32 → Hp → Prop} {Q : Int32 → Hp → Prop} (C : Cx G RX12 cX12_boat 10 (some .int) 1 0 0 X) (k0 : kd a0 = 12) (hK82 : ∀ (y4 : Int32) (h' : Hp), K82 y4 h' → R0 G X 0 0 (ZM G (fun r h' => ∃ v, r = some (.int v) ∧ Q v h') X) 82 [some (.ref (G.1 a0)), none, some (.int x2), some (.int x3), some (.int y4), none, none, none, none, none] [] h') (hw : eX12_boat_93 a0 x2 x3 K82 Q x4 x5 h) : R0 G X 0 0 (ZM G (fun r h' => ∃ v, r = some (.int v) ∧ Q v h') X) 93 [some (.ref (G.1 a0)), none, some (.int x2), some (.int x3), some (.int x4), some (.int x5), none, none, none, none] [] h := by
  obtain ⟨N, hw⟩ := hw
  induction N generalizing x4 x5 h with
  | zero => exact hw.elim
  | succ N ih =>
    obtain ⟨K93, eK⟩ : ∃ K : Int32 → Int32 → Hp → Prop, K = (fun x4 x5 h => lpN (fun (K : Int32 × Int32 × Hp → Prop) (s : Int32 × Int32 × Hp) => fX12_boat_93 a0 x2 x3 K82 Q (fun x4 x5 h => K (x4, x5, h)) s.1 s.2.1 s.2.2) N (x4, x5, h)) := ⟨_, rfl⟩
    have hw : fX12_boat_93 a0 x2 x3 K82 Q (fun x4 x5 h => lpN (fun (K : Int32 × Int32 × Hp → Prop) (s : Int32 × Int32 × Hp) => fX12_boat_93 a0 x2 x3 K82 Q (fun x4 x5 h => K (x4, x5, h)) s.1 s.2.1 s.2.2) N (x4, x5, h)) x4 x5 h := hw
    have hK93 : ∀ (x4 : Int32) (x5 : Int32) (h : Hp), K93 x4 x5 h → R0 G X 0 0 (ZM G (fun r h' => ∃ v, r = some (.int v) ∧ Q v h') X) 93 [some (.ref (G.1 a0)), none, some (.int x2), some (.int x3), some (.int x4), some (.int x5), none, none, none, none] [] h := fun x4 x5 h q => ih (by rw [eK] at q; exact q)
    rw [← eK] at hw
    clear eK ih
    unfold fX12_boat_93 at hw
    refine r_iload C dX12_boat_93 rfl ?_
    refine r_iload_n C dX12_boat_95 rfl ?_
    refine r_icmp_gt 234 C dX12_boat_96 (by decide) (fun hc => ?_) (fun hc => ?_)
    · replace hw := it_t hc hw
      refine r_goto 82 C dX12_boat_234 (by decide) ?_
      refine r_weak [some (.ref (G.1 a0)), none, some (.int x2), some (.int x3), some (.int x4), none, none, none, none, none] (lw_k (lw_k (lw_k (lw_k (lw_k (lw_d (lw_k (lw_k (lw_k (lw_k (lw_n))))))))))) ?_
      exact hK82 _ _ hw
    · replace hw := it_f hc hw
      refine r_iconst (0) C dX12_boat_99 (by decide) ?_
      refine r_istore [some (.ref (G.1 a0)), none, some (.int x2), some (.int x3), some (.int x4), some (.int x5), some (.int (0 : Int32)), none, none, none] C dX12_boat_100 (Nat.le_of_ble_eq_true rfl) rfl rfl ?_
      exact tX12_boat_102 C (k0) hK82 hK93 hw
def fX12_boat_82 (a0 : Nat) (x2 : Int32) (x3 : Int32) (Q : Int32 → Hp → Prop) (K82 : Int32 → Hp → Prop) (x4 : Int32) (h : Hp) : Prop :=
  if x4 = 0 then (vp_in (rm x2 (100 : Int32)) (ln (rf a0 39)) ∧ (if (1000000 : Int32) ≤ (gI h (rf a0 39) (rm x2 (100 : Int32)).toNatClampNeg) then (Q (-2 : Int32) h) else (vp_in (rm x2 (100 : Int32)) (ln (rf a0 39)) ∧ (Q (gI h (rf a0 39) (rm x2 (100 : Int32)).toNatClampNeg) h)))) else (eX12_boat_93 a0 x2 x3 K82 Q (0 : Int32) (0 : Int32) h)
def eX12_boat_82 (a0 : Nat) (x2 : Int32) (x3 : Int32) (Q : Int32 → Hp → Prop) (x4 : Int32) (h : Hp) : Prop := ∃ N, lpN (fun (K : Int32 × Hp → Prop) (s : Int32 × Hp) => fX12_boat_82 a0 x2 x3 Q (fun x4 h => K (x4, h)) s.1 s.2) N (x4, h)
theorem iX12_boat_82 {a0 : Nat} {x2 : Int32} {x3 : Int32} {Q : Int32 → Hp → Prop} (I : Int32 → Hp → Prop) (μ : Int32 → Hp → Nat) (hs : ∀ (x4 : Int32) (h : Hp), I x4 h → ∀ K : Int32 → Hp → Prop, (∀ (x4' : Int32) (h' : Hp), I x4' h' → μ x4' h' < μ x4 h → K x4' h') → fX12_boat_82 a0 x2 x3 Q K x4 h) : ∀ (x4 : Int32) (h : Hp), I x4 h → eX12_boat_82 a0 x2 x3 Q x4 h := fun x4 h hI => lp_ind (fun s => I s.1 s.2) (fun s => μ s.1 s.2) (fun s hs' K hK => hs s.1 s.2 hs' _ (fun x4' h' h1 h2 => hK (x4', h') h1 h2)) (x4, h) hI
set_option maxRecDepth 20000 in
theorem tX12_boat_82 {G : GG} {X : XX} {a0 : Nat} {x2 : Int32} {x3 : Int32} {x4 : Int32} {h : Hp}  {Q : Int32 → Hp → Prop} (C : Cx G RX12 cX12_boat 10 (some .int) 1 0 0 X) (k0 : kd a0 = 12) (hw : eX12_boat_82 a0 x2 x3 Q x4 h) : R0 G X 0 0 (ZM G (fun r h' => ∃ v, r = some (.int v) ∧ Q v h') X) 82 [some (.ref (G.1 a0)), none, some (.int x2), some (.int x3), some (.int x4), none, none, none, none, none] [] h := by
  obtain ⟨N, hw⟩ := hw
  induction N generalizing x4 h with
  | zero => exact hw.elim
  | succ N ih =>
    obtain ⟨K82, eK⟩ : ∃ K : Int32 → Hp → Prop, K = (fun x4 h => lpN (fun (K : Int32 × Hp → Prop) (s : Int32 × Hp) => fX12_boat_82 a0 x2 x3 Q (fun x4 h => K (x4, h)) s.1 s.2) N (x4, h)) := ⟨_, rfl⟩
    have hw : fX12_boat_82 a0 x2 x3 Q (fun x4 h => lpN (fun (K : Int32 × Hp → Prop) (s : Int32 × Hp) => fX12_boat_82 a0 x2 x3 Q (fun x4 h => K (x4, h)) s.1 s.2) N (x4, h)) x4 h := hw
    have hK82 : ∀ (x4 : Int32) (h : Hp), K82 x4 h → R0 G X 0 0 (ZM G (fun r h' => ∃ v, r = some (.int v) ∧ Q v h') X) 82 [some (.ref (G.1 a0)), none, some (.int x2), some (.int x3), some (.int x4), none, none, none, none, none] [] h := fun x4 h q => ih (by rw [eK] at q; exact q)
    rw [← eK] at hw
    clear eK ih
    unfold fX12_boat_82 at hw
    refine r_iload C dX12_boat_82 rfl ?_
    refine r_if_eq 237 C dX12_boat_84 (by decide) (fun hc => ?_) (fun hc => ?_)
    · replace hw := it_t hc hw
      refine r_aload_n C dX12_boat_237 rfl ?_
      refine gX12_79 C (k0) dX12_boat_238 ?_
      refine r_iload_n C dX12_boat_241 rfl ?_
      refine r_bipush (100) C dX12_boat_242 (by decide) ?_
      refine r_irem C dX12_boat_244 (by decide) ?_
      obtain ⟨hi1, hw⟩ := hw
      refine r_iald C (kr12_39 (k0)) hi1 dX12_boat_245 ?_
      refine r_ldc_w (1000000) C wd1453 dX12_boat_246 ?_
      refine r_icmp_ge 264 C dX12_boat_249 (by decide) (fun hc => ?_) (fun hc => ?_)
      · replace hw := it_t hc hw
        refine r_bipush (-2) C dX12_boat_264 (by decide) ?_
        exact r_iret C dX12_boat_266 ⟨_, rfl, hw⟩
      · replace hw := it_f hc hw
        refine r_aload_n C dX12_boat_252 rfl ?_
        refine gX12_79 C (k0) dX12_boat_253 ?_
        refine r_iload_n C dX12_boat_256 rfl ?_
        refine r_bipush (100) C dX12_boat_257 (by decide) ?_
        refine r_irem C dX12_boat_259 (by decide) ?_
        obtain ⟨hi2, hw⟩ := hw
        refine r_iald C (kr12_39 (k0)) hi2 dX12_boat_260 ?_
        refine r_goto 266 C dX12_boat_261 (by decide) ?_
        exact r_iret C dX12_boat_266 ⟨_, rfl, hw⟩
    · replace hw := it_f hc hw
      refine r_iconst (0) C dX12_boat_87 (by decide) ?_
      refine r_istore [some (.ref (G.1 a0)), none, some (.int x2), some (.int x3), some (.int (0 : Int32)), none, none, none, none, none] C dX12_boat_88 (Nat.le_of_ble_eq_true rfl) rfl rfl ?_
      refine r_iconst (0) C dX12_boat_90 (by decide) ?_
      refine r_istore [some (.ref (G.1 a0)), none, some (.int x2), some (.int x3), some (.int (0 : Int32)), some (.int (0 : Int32)), none, none, none, none] C dX12_boat_91 (Nat.le_of_ble_eq_true rfl) rfl rfl ?_
      exact tX12_boat_93 C (k0) hK82 hw
def fX12_boat_46 (a0 : Nat) (x1 : Int32) (x2 : Int32) (x3 : Int32) (Q : Int32 → Hp → Prop) (K46 : Int32 → Hp → Prop) (x4 : Int32) (h : Hp) : Prop :=
  if (40 : Int32) < x4 then (vp_in (x1 / (100 : Int32)) (ln (rf a0 39)) ∧ (∀ h2 : Hp, h2 = sI h (rf a0 39) (x1 / (100 : Int32)).toNatClampNeg (0 : Int32) → (eX12_boat_82 a0 x2 x3 Q (1 : Int32) h2))) else (vp_in x4 (ln (rf a0 39)) ∧ (∀ h4 : Hp, h4 = sI h (rf a0 39) x4.toNatClampNeg (1000000 : Int32) → (∀ v5 : Int32, v5 = x4 + (1 : Int32) → (K46 v5 h4))))
def eX12_boat_46 (a0 : Nat) (x1 : Int32) (x2 : Int32) (x3 : Int32) (Q : Int32 → Hp → Prop) (x4 : Int32) (h : Hp) : Prop := ∃ N, lpN (fun (K : Int32 × Hp → Prop) (s : Int32 × Hp) => fX12_boat_46 a0 x1 x2 x3 Q (fun x4 h => K (x4, h)) s.1 s.2) N (x4, h)
theorem iX12_boat_46 {a0 : Nat} {x1 : Int32} {x2 : Int32} {x3 : Int32} {Q : Int32 → Hp → Prop} (I : Int32 → Hp → Prop) (μ : Int32 → Hp → Nat) (hs : ∀ (x4 : Int32) (h : Hp), I x4 h → ∀ K : Int32 → Hp → Prop, (∀ (x4' : Int32) (h' : Hp), I x4' h' → μ x4' h' < μ x4 h → K x4' h') → fX12_boat_46 a0 x1 x2 x3 Q K x4 h) : ∀ (x4 : Int32) (h : Hp), I x4 h → eX12_boat_46 a0 x1 x2 x3 Q x4 h := fun x4 h hI => lp_ind (fun s => I s.1 s.2) (fun s => μ s.1 s.2) (fun s hs' K hK => hs s.1 s.2 hs' _ (fun x4' h' h1 h2 => hK (x4', h') h1 h2)) (x4, h) hI
set_option maxRecDepth 20000 in
theorem tX12_boat_46 {G : GG} {X : XX} {a0 : Nat} {x1 : Int32} {x2 : Int32} {x3 : Int32} {x4 : Int32} {h : Hp}  {Q : Int32 → Hp → Prop} (C : Cx G RX12 cX12_boat 10 (some .int) 1 0 0 X) (k0 : kd a0 = 12) (hw : eX12_boat_46 a0 x1 x2 x3 Q x4 h) : R0 G X 0 0 (ZM G (fun r h' => ∃ v, r = some (.int v) ∧ Q v h') X) 46 [some (.ref (G.1 a0)), some (.int x1), some (.int x2), some (.int x3), some (.int x4), none, none, none, none, none] [] h := by
  obtain ⟨N, hw⟩ := hw
  induction N generalizing x4 h with
  | zero => exact hw.elim
  | succ N ih =>
    obtain ⟨K46, eK⟩ : ∃ K : Int32 → Hp → Prop, K = (fun x4 h => lpN (fun (K : Int32 × Hp → Prop) (s : Int32 × Hp) => fX12_boat_46 a0 x1 x2 x3 Q (fun x4 h => K (x4, h)) s.1 s.2) N (x4, h)) := ⟨_, rfl⟩
    have hw : fX12_boat_46 a0 x1 x2 x3 Q (fun x4 h => lpN (fun (K : Int32 × Hp → Prop) (s : Int32 × Hp) => fX12_boat_46 a0 x1 x2 x3 Q (fun x4 h => K (x4, h)) s.1 s.2) N (x4, h)) x4 h := hw
    have hK46 : ∀ (x4 : Int32) (h : Hp), K46 x4 h → R0 G X 0 0 (ZM G (fun r h' => ∃ v, r = some (.int v) ∧ Q v h') X) 46 [some (.ref (G.1 a0)), some (.int x1), some (.int x2), some (.int x3), some (.int x4), none, none, none, none, none] [] h := fun x4 h q => ih (by rw [eK] at q; exact q)
    rw [← eK] at hw
    clear eK ih
    unfold fX12_boat_46 at hw
    refine r_iload C dX12_boat_46 rfl ?_
    refine r_bipush (40) C dX12_boat_48 (by decide) ?_
    refine r_icmp_gt 69 C dX12_boat_50 (by decide) (fun hc => ?_) (fun hc => ?_)
    · replace hw := it_t hc hw
      refine r_aload_n C dX12_boat_69 rfl ?_
      refine gX12_79 C (k0) dX12_boat_70 ?_
      refine r_iload_n C dX12_boat_73 rfl ?_
      refine r_bipush (100) C dX12_boat_74 (by decide) ?_
      refine r_idiv C dX12_boat_76 (by decide) ?_
      refine r_iconst (0) C dX12_boat_77 (by decide) ?_
      obtain ⟨hi1, hw⟩ := hw
      refine r_iast C (kr12_39 (k0)) hi1 dX12_boat_78 ?_
      refine r_toph (fun h2 eh2 => ?_)
      replace hw := hw h2 eh2
      refine r_iconst (1) C dX12_boat_79 (by decide) ?_
      refine r_istore [some (.ref (G.1 a0)), some (.int x1), some (.int x2), some (.int x3), some (.int (1 : Int32)), none, none, none, none, none] C dX12_boat_80 (Nat.le_of_ble_eq_true rfl) rfl rfl ?_
      refine r_weak [some (.ref (G.1 a0)), none, some (.int x2), some (.int x3), some (.int (1 : Int32)), none, none, none, none, none] (lw_k (lw_d (lw_k (lw_k (lw_k (lw_k (lw_k (lw_k (lw_k (lw_k (lw_n))))))))))) ?_
      exact tX12_boat_82 C (k0) hw
    · replace hw := it_f hc hw
      refine r_aload_n C dX12_boat_53 rfl ?_
      refine gX12_79 C (k0) dX12_boat_54 ?_
      refine r_iload C dX12_boat_57 rfl ?_
      refine r_ldc_w (1000000) C wd1453 dX12_boat_59 ?_
      obtain ⟨hi3, hw⟩ := hw
      refine r_iast C (kr12_39 (k0)) hi3 dX12_boat_62 ?_
      refine r_toph (fun h4 eh4 => ?_)
      replace hw := hw h4 eh4
      obtain ⟨v5, ev5⟩ : ∃ v : Int32, v = x4 + (1 : Int32) := ⟨_, rfl⟩
      replace hw := hw v5 ev5
      refine r_iinc v5 [some (.ref (G.1 a0)), some (.int x1), some (.int x2), some (.int x3), some (.int v5), none, none, none, none, none] C dX12_boat_63 rfl (by rw [ev5]; rfl) rfl rfl ?_
      refine r_goto 46 C dX12_boat_66 (by decide) ?_
      exact hK46 _ _ hw
def wX12_boat (a0 : Nat) (x1 : Int32) (x2 : Int32) (h : Hp) (Q : Int32 → Hp → Prop) : Prop :=
  wX12_isCounts a0 x1 h (fun v1 => if v1 = 0 then (Q (-1 : Int32) h) else (if x2 < 0 then (Q (-1 : Int32) h) else (wX12_in (x2 / (100 : Int32)) (1 : Int32) (9 : Int32) h (fun v2 => if v2 = 0 then (Q (-1 : Int32) h) else (if (rm x2 (100 : Int32)) ≤ (rm x1 (100 : Int32)) then (∀ v3 : Int32, v3 = (rm x1 (100 : Int32)) → (eX12_boat_46 a0 x1 x2 v3 Q (0 : Int32) h)) else (Q (-1 : Int32) h))))))
set_option maxRecDepth 20000 in
theorem sX12_boat {G : GG} {a0 : Nat} {x1 : Int32} {x2 : Int32} {h : Hp} {Q : Int32 → Hp → Prop} (k0 : kd a0 = 12) (hw : wX12_boat a0 x1 x2 h Q) : CI G 1 yX12_boat cX12_boat 10 (some .int) [.ref (G.1 a0), .int x1, .int x2] h Q := by
  refine CO_of [some (.ref (G.1 a0)), some (.int x1), some (.int x2), none, none, none, none, none, none, none] (by decide) (Nat.le_of_ble_eq_true rfl) rfl (fun X C => ?_)
  unfold wX12_boat at hw
  refine r_aload_n C dX12_boat_0 rfl ?_
  refine r_iload_n C dX12_boat_1 rfl ?_
  refine kX12_304 C (k0) (sX12_isCounts (k0) hw) dX12_boat_2 (Nat.le_of_ble_eq_true rfl) rfl (Nat.le_of_ble_eq_true rfl) (fun v1 hw => ?_)
  refine r_if_eq 36 C dX12_boat_5 (by decide) (fun hc => ?_) (fun hc => ?_)
  · replace hw := it_t hc hw
    refine r_iconst (-1) C dX12_boat_36 (by decide) ?_
    exact r_iret C dX12_boat_37 ⟨_, rfl, hw⟩
  · replace hw := it_f hc hw
    refine r_iload_n C dX12_boat_8 rfl ?_
    refine r_if_lt 36 C dX12_boat_9 (by decide) (fun hc => ?_) (fun hc => ?_)
    · replace hw := it_t hc hw
      refine r_iconst (-1) C dX12_boat_36 (by decide) ?_
      exact r_iret C dX12_boat_37 ⟨_, rfl, hw⟩
    · replace hw := it_f hc hw
      refine r_iload_n C dX12_boat_12 rfl ?_
      refine r_bipush (100) C dX12_boat_13 (by decide) ?_
      refine r_idiv C dX12_boat_15 (by decide) ?_
      refine r_iconst (1) C dX12_boat_16 (by decide) ?_
      refine r_bipush (9) C dX12_boat_17 (by decide) ?_
      refine kX12_114 C (sX12_in hw) dX12_boat_19 (Nat.le_of_ble_eq_true rfl) rfl (Nat.le_of_ble_eq_true rfl) (fun v2 hw => ?_)
      refine r_if_eq 36 C dX12_boat_22 (by decide) (fun hc => ?_) (fun hc => ?_)
      · replace hw := it_t hc hw
        refine r_iconst (-1) C dX12_boat_36 (by decide) ?_
        exact r_iret C dX12_boat_37 ⟨_, rfl, hw⟩
      · replace hw := it_f hc hw
        refine r_iload_n C dX12_boat_25 rfl ?_
        refine r_bipush (100) C dX12_boat_26 (by decide) ?_
        refine r_irem C dX12_boat_28 (by decide) ?_
        refine r_iload_n C dX12_boat_29 rfl ?_
        refine r_bipush (100) C dX12_boat_30 (by decide) ?_
        refine r_irem C dX12_boat_32 (by decide) ?_
        refine r_icmp_le 38 C dX12_boat_33 (by decide) (fun hc => ?_) (fun hc => ?_)
        · replace hw := it_t hc hw
          refine r_iload_n C dX12_boat_38 rfl ?_
          refine r_bipush (100) C dX12_boat_39 (by decide) ?_
          refine r_irem C dX12_boat_41 (by decide) ?_
          refine r_topi (fun v3 ev3 => ?_)
          replace hw := hw v3 ev3
          refine r_istore_n [some (.ref (G.1 a0)), some (.int x1), some (.int x2), some (.int v3), none, none, none, none, none, none] C dX12_boat_42 (Nat.le_of_ble_eq_true rfl) rfl rfl ?_
          refine r_iconst (0) C dX12_boat_43 (by decide) ?_
          refine r_istore [some (.ref (G.1 a0)), some (.int x1), some (.int x2), some (.int v3), some (.int (0 : Int32)), none, none, none, none, none] C dX12_boat_44 (Nat.le_of_ble_eq_true rfl) rfl rfl ?_
          exact tX12_boat_46 C (k0) hw
        · replace hw := it_f hc hw
          refine r_iconst (-1) C dX12_boat_36 (by decide) ?_
          exact r_iret C dX12_boat_37 ⟨_, rfl, hw⟩
