def wX12_count (a0 : Nat) (x1 : Int32) (h : Hp) (Q : Int32 → Prop) : Prop :=
  if x1 = (0 : Int32) then (Q (gI h a0 3)) else (if x1 = (1 : Int32) then (Q (gI h a0 1)) else (if x1 = (2 : Int32) then (Q (gI h a0 7)) else (if x1 = (3 : Int32) then (wX12_bitsOf (gI h a0 8) h (fun v1 => Q ((gI h a0 3) - v1))) else (if x1 = (4 : Int32) then (Q (gI h a0 18)) else (if x1 = (5 : Int32) then (Q (gI h a0 11)) else (if x1 = (6 : Int32) then (Q (gI h a0 48)) else (if x1 = (7 : Int32) then (Q (gI h a0 50)) else (Q (-1 : Int32)))))))))
set_option maxRecDepth 20000 in
theorem sX12_count {G : GG} {a0 : Nat} {x1 : Int32} {h : Hp} {Q : Int32 → Prop} (k0 : kd a0 = 12) (hw : wX12_count a0 x1 h Q) : PI G 1 yX12_count cX12_count 2 (some .int) [.ref (G.1 a0), .int x1] h Q := by
  refine CO_of [some (.ref (G.1 a0)), some (.int x1)] (by decide) (Nat.le_of_ble_eq_true rfl) rfl (fun X C => ?_)
  unfold wX12_count at hw
  refine r_iload_n C dX12_count_0 rfl ?_
  by_cases hs1_0 : x1 = (0 : Int32)
  · replace hw := it_t hs1_0 hw
    refine r_tabIn (off := 47) (0) 48 C dX12_count_1 hs1_0 (by decide) ?_
    refine r_aload_n C dX12_count_48 rfl ?_
    refine gX12_118 C (k0) dX12_count_49 ?_
    exact r_iret C dX12_count_52 ⟨_, rfl, rfl, hw⟩
  replace hw := it_f hs1_0 hw
  by_cases hs1_1 : x1 = (1 : Int32)
  · replace hw := it_t hs1_1 hw
    refine r_tabIn (off := 52) (1) 53 C dX12_count_1 hs1_1 (by decide) ?_
    refine r_aload_n C dX12_count_53 rfl ?_
    refine gX12_111 C (k0) dX12_count_54 ?_
    exact r_iret C dX12_count_57 ⟨_, rfl, rfl, hw⟩
  replace hw := it_f hs1_1 hw
  by_cases hs1_2 : x1 = (2 : Int32)
  · replace hw := it_t hs1_2 hw
    refine r_tabIn (off := 57) (2) 58 C dX12_count_1 hs1_2 (by decide) ?_
    refine r_aload_n C dX12_count_58 rfl ?_
    refine gX12_246 C (k0) dX12_count_59 ?_
    exact r_iret C dX12_count_62 ⟨_, rfl, rfl, hw⟩
  replace hw := it_f hs1_2 hw
  by_cases hs1_3 : x1 = (3 : Int32)
  · replace hw := it_t hs1_3 hw
    refine r_tabIn (off := 62) (3) 63 C dX12_count_1 hs1_3 (by decide) ?_
    refine r_aload_n C dX12_count_63 rfl ?_
    refine gX12_118 C (k0) dX12_count_64 ?_
    refine r_aload_n C dX12_count_67 rfl ?_
    refine gX12_240 C (k0) dX12_count_68 ?_
    refine kX12_252 C (sX12_bitsOf hw) dX12_count_71 (Nat.le_of_ble_eq_true rfl) rfl (Nat.le_of_ble_eq_true rfl) (fun v1 hw => ?_)
    refine r_isub C dX12_count_74 ?_
    exact r_iret C dX12_count_75 ⟨_, rfl, rfl, hw⟩
  replace hw := it_f hs1_3 hw
  by_cases hs1_4 : x1 = (4 : Int32)
  · replace hw := it_t hs1_4 hw
    refine r_tabIn (off := 75) (4) 76 C dX12_count_1 hs1_4 (by decide) ?_
    refine r_aload_n C dX12_count_76 rfl ?_
    refine gX12_160 C (k0) dX12_count_77 ?_
    exact r_iret C dX12_count_80 ⟨_, rfl, rfl, hw⟩
  replace hw := it_f hs1_4 hw
  by_cases hs1_5 : x1 = (5 : Int32)
  · replace hw := it_t hs1_5 hw
    refine r_tabIn (off := 80) (5) 81 C dX12_count_1 hs1_5 (by decide) ?_
    refine r_aload_n C dX12_count_81 rfl ?_
    refine gX12_144 C (k0) dX12_count_82 ?_
    exact r_iret C dX12_count_85 ⟨_, rfl, rfl, hw⟩
  replace hw := it_f hs1_5 hw
  by_cases hs1_6 : x1 = (6 : Int32)
  · replace hw := it_t hs1_6 hw
    refine r_tabIn (off := 85) (6) 86 C dX12_count_1 hs1_6 (by decide) ?_
    refine r_aload_n C dX12_count_86 rfl ?_
    refine gX12_365 C (k0) dX12_count_87 ?_
    exact r_iret C dX12_count_90 ⟨_, rfl, rfl, hw⟩
  replace hw := it_f hs1_6 hw
  by_cases hs1_7 : x1 = (7 : Int32)
  · replace hw := it_t hs1_7 hw
    refine r_tabIn (off := 90) (7) 91 C dX12_count_1 hs1_7 (by decide) ?_
    refine r_aload_n C dX12_count_91 rfl ?_
    refine gX12_368 C (k0) dX12_count_92 ?_
    exact r_iret C dX12_count_95 ⟨_, rfl, rfl, hw⟩
  replace hw := it_f hs1_7 hw
  refine r_tabOut 96 C dX12_count_1 (by have qhs1_0 := lv_neT (a := 0) hs1_0 (by decide); have qhs1_1 := lv_neT (a := 1) hs1_1 (by decide); have qhs1_2 := lv_neT (a := 2) hs1_2 (by decide); have qhs1_3 := lv_neT (a := 3) hs1_3 (by decide); have qhs1_4 := lv_neT (a := 4) hs1_4 (by decide); have qhs1_5 := lv_neT (a := 5) hs1_5 (by decide); have qhs1_6 := lv_neT (a := 6) hs1_6 (by decide); have qhs1_7 := lv_neT (a := 7) hs1_7 (by decide); omega) (by decide) ?_
  refine r_iconst (-1) C dX12_count_96 (by decide) ?_
  exact r_iret C dX12_count_97 ⟨_, rfl, rfl, hw⟩
def jX12_keep_22 (a0 : Nat) (x1 : Int32) (x2 : Int32) (h : Hp) (Q : Int32 → Hp → Prop) : Prop :=
  vp_in x1 (ln (rf a0 52)) ∧ (∀ h2 : Hp, h2 = sI h (rf a0 52) x1.toNatClampNeg x2 → (Q (1 : Int32) h2))
set_option maxRecDepth 20000 in
theorem tX12_keep_22 {G : GG} {X : XX} {a0 : Nat} {x1 : Int32} {x2 : Int32} {h : Hp}  {Q : Int32 → Hp → Prop} (C : Cx G RX12 cX12_keep 3 (some .int) 2 0 0 X) (k0 : kd a0 = 12) (hw : jX12_keep_22 a0 x1 x2 h Q) : R0 G X 0 0 (ZM G (fun r h' => ∃ v, r = some (.int v) ∧ Q v h') X) 22 [some (.ref (G.1 a0)), some (.int x1), some (.int x2)] [] h := by
  unfold jX12_keep_22 at hw
  refine r_aload_n C dX12_keep_22 rfl ?_
  refine gX12_94 C (k0) dX12_keep_23 ?_
  refine r_iload_n C dX12_keep_26 rfl ?_
  refine r_iload_n C dX12_keep_27 rfl ?_
  obtain ⟨hi1, hw⟩ := hw
  refine r_iast C (kr12_52 (k0)) hi1 dX12_keep_28 ?_
  refine r_toph (fun h2 eh2 => ?_)
  replace hw := hw h2 eh2
  refine r_iconst (1) C dX12_keep_29 (by decide) ?_
  exact r_iret C dX12_keep_30 ⟨_, rfl, hw⟩
def wX12_keep (a0 : Nat) (x1 : Int32) (x2 : Int32) (h : Hp) (Q : Int32 → Hp → Prop) : Prop :=
  wX12_isShelf x1 h (fun v1 => if v1 = 0 then (Q (-1 : Int32) h) else (if x2 = (-1 : Int32) then (jX12_keep_22 a0 x1 x2 h Q) else (wX12_isBody a0 x2 h (fun v2 => if v2 = 0 then (Q (-1 : Int32) h) else (jX12_keep_22 a0 x1 x2 h Q)))))
set_option maxRecDepth 20000 in
theorem sX12_keep {G : GG} {a0 : Nat} {x1 : Int32} {x2 : Int32} {h : Hp} {Q : Int32 → Hp → Prop} (k0 : kd a0 = 12) (hw : wX12_keep a0 x1 x2 h Q) : CI G 2 yX12_keep cX12_keep 3 (some .int) [.ref (G.1 a0), .int x1, .int x2] h Q := by
  refine CO_of [some (.ref (G.1 a0)), some (.int x1), some (.int x2)] (by decide) (Nat.le_of_ble_eq_true rfl) rfl (fun X C => ?_)
  unfold wX12_keep at hw
  refine r_iload_n C dX12_keep_0 rfl ?_
  refine kX12_132 C (sX12_isShelf hw) dX12_keep_1 (Nat.le_of_ble_eq_true rfl) rfl (Nat.le_of_ble_eq_true rfl) (fun v1 hw => ?_)
  refine r_if_eq 20 C dX12_keep_4 (by decide) (fun hc => ?_) (fun hc => ?_)
  · replace hw := it_t hc hw
    refine r_iconst (-1) C dX12_keep_20 (by decide) ?_
    exact r_iret C dX12_keep_21 ⟨_, rfl, hw⟩
  · replace hw := it_f hc hw
    refine r_iload_n C dX12_keep_7 rfl ?_
    refine r_iconst (-1) C dX12_keep_8 (by decide) ?_
    refine r_icmp_eq 22 C dX12_keep_9 (by decide) (fun hc => ?_) (fun hc => ?_)
    · replace hw := it_t hc hw
      exact tX12_keep_22 C (k0) hw
    · replace hw := it_f hc hw
      refine r_aload_n C dX12_keep_12 rfl ?_
      refine r_iload_n C dX12_keep_13 rfl ?_
      refine kX12_408 C (k0) (sX12_isBody (k0) hw) dX12_keep_14 (Nat.le_of_ble_eq_true rfl) rfl (Nat.le_of_ble_eq_true rfl) (fun v2 hw => ?_)
      refine r_if_ne 22 C dX12_keep_17 (by decide) (fun hc => ?_) (fun hc => ?_)
      · replace hw := it_f hc hw
        exact tX12_keep_22 C (k0) hw
      · replace hw := it_t hc hw
        refine r_iconst (-1) C dX12_keep_20 (by decide) ?_
        exact r_iret C dX12_keep_21 ⟨_, rfl, hw⟩
def fX12_row_54 (a0 : Nat) (x1 : Int32) (Q : Int32 → Hp → Prop) (K54 : Int32 → Hp → Prop) (x4 : Int32) (h : Hp) : Prop :=
  if (((60 : Int32) * x1) + (60 : Int32)) ≤ x4 then (Q (1 : Int32) h) else (vp_in x4 (ln (rf a0 54)) ∧ (∀ h2 : Hp, h2 = sL h (rf a0 54) x4.toNatClampNeg (0 : Int64) → (∀ v3 : Int32, v3 = x4 + (1 : Int32) → (K54 v3 h2))))
def eX12_row_54 (a0 : Nat) (x1 : Int32) (Q : Int32 → Hp → Prop) (x4 : Int32) (h : Hp) : Prop := ∃ N, lpN (fun (K : Int32 × Hp → Prop) (s : Int32 × Hp) => fX12_row_54 a0 x1 Q (fun x4 h => K (x4, h)) s.1 s.2) N (x4, h)
theorem iX12_row_54 {a0 : Nat} {x1 : Int32} {Q : Int32 → Hp → Prop} (I : Int32 → Hp → Prop) (μ : Int32 → Hp → Nat) (hs : ∀ (x4 : Int32) (h : Hp), I x4 h → ∀ K : Int32 → Hp → Prop, (∀ (x4' : Int32) (h' : Hp), I x4' h' → μ x4' h' < μ x4 h → K x4' h') → fX12_row_54 a0 x1 Q K x4 h) : ∀ (x4 : Int32) (h : Hp), I x4 h → eX12_row_54 a0 x1 Q x4 h := fun x4 h hI => lp_ind (fun s => I s.1 s.2) (fun s => μ s.1 s.2) (fun s hs' K hK => hs s.1 s.2 hs' _ (fun x4' h' h1 h2 => hK (x4', h') h1 h2)) (x4, h) hI
set_option maxRecDepth 20000 in
theorem tX12_row_54 {G : GG} {X : XX} {a0 : Nat} {x1 : Int32} {x4 : Int32} {h : Hp}  {Q : Int32 → Hp → Prop} (C : Cx G RX12 cX12_row 5 (some .int) 2 0 0 X) (k0 : kd a0 = 12) (hw : eX12_row_54 a0 x1 Q x4 h) : R0 G X 0 0 (ZM G (fun r h' => ∃ v, r = some (.int v) ∧ Q v h') X) 54 [some (.ref (G.1 a0)), some (.int x1), none, none, some (.int x4)] [] h := by
  obtain ⟨N, hw⟩ := hw
  induction N generalizing x4 h with
  | zero => exact hw.elim
  | succ N ih =>
    obtain ⟨K54, eK⟩ : ∃ K : Int32 → Hp → Prop, K = (fun x4 h => lpN (fun (K : Int32 × Hp → Prop) (s : Int32 × Hp) => fX12_row_54 a0 x1 Q (fun x4 h => K (x4, h)) s.1 s.2) N (x4, h)) := ⟨_, rfl⟩
    have hw : fX12_row_54 a0 x1 Q (fun x4 h => lpN (fun (K : Int32 × Hp → Prop) (s : Int32 × Hp) => fX12_row_54 a0 x1 Q (fun x4 h => K (x4, h)) s.1 s.2) N (x4, h)) x4 h := hw
    have hK54 : ∀ (x4 : Int32) (h : Hp), K54 x4 h → R0 G X 0 0 (ZM G (fun r h' => ∃ v, r = some (.int v) ∧ Q v h') X) 54 [some (.ref (G.1 a0)), some (.int x1), none, none, some (.int x4)] [] h := fun x4 h q => ih (by rw [eK] at q; exact q)
    rw [← eK] at hw
    clear eK ih
    unfold fX12_row_54 at hw
    refine r_iload C dX12_row_54 rfl ?_
    refine r_bipush (60) C dX12_row_56 (by decide) ?_
    refine r_iload_n C dX12_row_58 rfl ?_
    refine r_imul C dX12_row_59 ?_
    refine r_bipush (60) C dX12_row_60 (by decide) ?_
    refine r_iadd C dX12_row_62 ?_
    refine r_icmp_ge 80 C dX12_row_63 (by decide) (fun hc => ?_) (fun hc => ?_)
    · replace hw := it_t hc hw
      refine r_iconst (1) C dX12_row_80 (by decide) ?_
      exact r_iret C dX12_row_81 ⟨_, rfl, hw⟩
    · replace hw := it_f hc hw
      refine r_aload_n C dX12_row_66 rfl ?_
      refine gX12_100 C (k0) dX12_row_67 ?_
      refine r_iload C dX12_row_70 rfl ?_
      refine r_lconst (0) C dX12_row_72 (by decide) ?_
      obtain ⟨hi1, hw⟩ := hw
      refine r_last C (kr12_54 (k0)) hi1 dX12_row_73 ?_
      refine r_toph (fun h2 eh2 => ?_)
      replace hw := hw h2 eh2
      obtain ⟨v3, ev3⟩ : ∃ v : Int32, v = x4 + (1 : Int32) := ⟨_, rfl⟩
      replace hw := hw v3 ev3
      refine r_iinc v3 [some (.ref (G.1 a0)), some (.int x1), none, none, some (.int v3)] C dX12_row_74 rfl (by rw [ev3]; rfl) rfl rfl ?_
      refine r_goto 54 C dX12_row_77 (by decide) ?_
      exact hK54 _ _ hw
def wX12_row (a0 : Nat) (x1 : Int32) (x2 : Int32) (x3 : Int32) (h : Hp) (Q : Int32 → Hp → Prop) : Prop :=
  wX12_isShelf x1 h (fun v1 => if v1 = 0 then (Q (-1 : Int32) h) else (wX12_in x2 (0 : Int32) (4 : Int32) h (fun v2 => if v2 = 0 then (Q (-1 : Int32) h) else (if x3 ≤ (60 : Int32) then (if 0 ≤ x3 then (vp_in x1 (ln (rf a0 52)) ∧ (∀ h4 : Hp, h4 = sI h (rf a0 52) x1.toNatClampNeg ((-2 : Int32) - x2) → (vp_in x1 (ln (rf a0 53)) ∧ (∀ h6 : Hp, h6 = sI h4 (rf a0 53) x1.toNatClampNeg x3 → (∀ v7 : Int32, v7 = ((60 : Int32) * x1) → (eX12_row_54 a0 x1 Q v7 h6)))))) else (Q (-14 : Int32) h)) else (Q (-1 : Int32) h)))))
set_option maxRecDepth 20000 in
theorem sX12_row {G : GG} {a0 : Nat} {x1 : Int32} {x2 : Int32} {x3 : Int32} {h : Hp} {Q : Int32 → Hp → Prop} (k0 : kd a0 = 12) (hw : wX12_row a0 x1 x2 x3 h Q) : CI G 2 yX12_row cX12_row 5 (some .int) [.ref (G.1 a0), .int x1, .int x2, .int x3] h Q := by
  refine CO_of [some (.ref (G.1 a0)), some (.int x1), some (.int x2), some (.int x3), none] (by decide) (Nat.le_of_ble_eq_true rfl) rfl (fun X C => ?_)
  unfold wX12_row at hw
  refine r_iload_n C dX12_row_0 rfl ?_
  refine kX12_132 C (sX12_isShelf hw) dX12_row_1 (Nat.le_of_ble_eq_true rfl) rfl (Nat.le_of_ble_eq_true rfl) (fun v1 hw => ?_)
  refine r_if_eq 22 C dX12_row_4 (by decide) (fun hc => ?_) (fun hc => ?_)
  · replace hw := it_t hc hw
    refine r_iconst (-1) C dX12_row_22 (by decide) ?_
    exact r_iret C dX12_row_23 ⟨_, rfl, hw⟩
  · replace hw := it_f hc hw
    refine r_iload_n C dX12_row_7 rfl ?_
    refine r_iconst (0) C dX12_row_8 (by decide) ?_
    refine r_iconst (4) C dX12_row_9 (by decide) ?_
    refine kX12_114 C (sX12_in hw) dX12_row_10 (Nat.le_of_ble_eq_true rfl) rfl (Nat.le_of_ble_eq_true rfl) (fun v2 hw => ?_)
    refine r_if_eq 22 C dX12_row_13 (by decide) (fun hc => ?_) (fun hc => ?_)
    · replace hw := it_t hc hw
      refine r_iconst (-1) C dX12_row_22 (by decide) ?_
      exact r_iret C dX12_row_23 ⟨_, rfl, hw⟩
    · replace hw := it_f hc hw
      refine r_iload_n C dX12_row_16 rfl ?_
      refine r_bipush (60) C dX12_row_17 (by decide) ?_
      refine r_icmp_le 24 C dX12_row_19 (by decide) (fun hc => ?_) (fun hc => ?_)
      · replace hw := it_t hc hw
        refine r_iload_n C dX12_row_24 rfl ?_
        refine r_if_ge 31 C dX12_row_25 (by decide) (fun hc => ?_) (fun hc => ?_)
        · replace hw := it_t hc hw
          refine r_aload_n C dX12_row_31 rfl ?_
          refine gX12_94 C (k0) dX12_row_32 ?_
          refine r_iload_n C dX12_row_35 rfl ?_
          refine r_bipush (-2) C dX12_row_36 (by decide) ?_
          refine r_iload_n C dX12_row_38 rfl ?_
          refine r_isub C dX12_row_39 ?_
          obtain ⟨hi3, hw⟩ := hw
          refine r_iast C (kr12_52 (k0)) hi3 dX12_row_40 ?_
          refine r_toph (fun h4 eh4 => ?_)
          replace hw := hw h4 eh4
          refine r_aload_n C dX12_row_41 rfl ?_
          refine gX12_97 C (k0) dX12_row_42 ?_
          refine r_iload_n C dX12_row_45 rfl ?_
          refine r_iload_n C dX12_row_46 rfl ?_
          obtain ⟨hi5, hw⟩ := hw
          refine r_iast C (kr12_53 (k0)) hi5 dX12_row_47 ?_
          refine r_toph (fun h6 eh6 => ?_)
          replace hw := hw h6 eh6
          refine r_bipush (60) C dX12_row_48 (by decide) ?_
          refine r_iload_n C dX12_row_50 rfl ?_
          refine r_imul C dX12_row_51 ?_
          refine r_topi (fun v7 ev7 => ?_)
          replace hw := hw v7 ev7
          refine r_istore [some (.ref (G.1 a0)), some (.int x1), some (.int x2), some (.int x3), some (.int v7)] C dX12_row_52 (Nat.le_of_ble_eq_true rfl) rfl rfl ?_
          refine r_weak [some (.ref (G.1 a0)), some (.int x1), none, none, some (.int v7)] (lw_k (lw_k (lw_d (lw_d (lw_k (lw_n)))))) ?_
          exact tX12_row_54 C (k0) hw
        · replace hw := it_f hc hw
          refine r_bipush (-14) C dX12_row_28 (by decide) ?_
          exact r_iret C dX12_row_30 ⟨_, rfl, hw⟩
      · replace hw := it_f hc hw
        refine r_iconst (-1) C dX12_row_22 (by decide) ?_
        exact r_iret C dX12_row_23 ⟨_, rfl, hw⟩
def wX12_whyNoPlace (a0 : Nat) (x1 : Int32) (x2 : Int32) (h : Hp) (Q : Int32 → Prop) : Prop :=
  wX12_isShelf x1 h (fun v1 => if v1 = 0 then (Q (-1 : Int32)) else (vp_in x1 (ln (rf a0 52)) ∧ (if (gI h (rf a0 52) x1.toNatClampNeg) = (-1 : Int32) then (Q (-11 : Int32)) else (vp_in x1 (ln (rf a0 52)) ∧ (if (gI h (rf a0 52) x1.toNatClampNeg) < 0 then (vp_in x1 (ln (rf a0 53)) ∧ (wX12_in x2 (0 : Int32) ((gI h (rf a0 53) x1.toNatClampNeg) - (1 : Int32)) h (fun v5 => if v5 = 0 then (Q (-13 : Int32)) else (Q (0 : Int32))))) else (Q (-12 : Int32)))))))
set_option maxRecDepth 20000 in
theorem sX12_whyNoPlace {G : GG} {a0 : Nat} {x1 : Int32} {x2 : Int32} {h : Hp} {Q : Int32 → Prop} (k0 : kd a0 = 12) (hw : wX12_whyNoPlace a0 x1 x2 h Q) : PI G 2 yX12_whyNoPlace cX12_whyNoPlace 3 (some .int) [.ref (G.1 a0), .int x1, .int x2] h Q := by
  refine CO_of [some (.ref (G.1 a0)), some (.int x1), some (.int x2)] (by decide) (Nat.le_of_ble_eq_true rfl) rfl (fun X C => ?_)
  unfold wX12_whyNoPlace at hw
  refine r_iload_n C dX12_whyNoPlace_0 rfl ?_
  refine kX12_132 C (sX12_isShelf hw) dX12_whyNoPlace_1 (Nat.le_of_ble_eq_true rfl) rfl (Nat.le_of_ble_eq_true rfl) (fun v1 hw => ?_)
  refine r_if_ne 9 C dX12_whyNoPlace_4 (by decide) (fun hc => ?_) (fun hc => ?_)
  · replace hw := it_f hc hw
    refine r_aload_n C dX12_whyNoPlace_9 rfl ?_
    refine gX12_94 C (k0) dX12_whyNoPlace_10 ?_
    refine r_iload_n C dX12_whyNoPlace_13 rfl ?_
    obtain ⟨hi2, hw⟩ := hw
    refine r_iald C (kr12_52 (k0)) hi2 dX12_whyNoPlace_14 ?_
    refine r_iconst (-1) C dX12_whyNoPlace_15 (by decide) ?_
    refine r_icmp_ne 22 C dX12_whyNoPlace_16 (by decide) (fun hc => ?_) (fun hc => ?_)
    · replace hw := it_f hc hw
      refine r_aload_n C dX12_whyNoPlace_22 rfl ?_
      refine gX12_94 C (k0) dX12_whyNoPlace_23 ?_
      refine r_iload_n C dX12_whyNoPlace_26 rfl ?_
      obtain ⟨hi3, hw⟩ := hw
      refine r_iald C (kr12_52 (k0)) hi3 dX12_whyNoPlace_27 ?_
      refine r_if_lt 34 C dX12_whyNoPlace_28 (by decide) (fun hc => ?_) (fun hc => ?_)
      · replace hw := it_t hc hw
        refine r_iload_n C dX12_whyNoPlace_34 rfl ?_
        refine r_iconst (0) C dX12_whyNoPlace_35 (by decide) ?_
        refine r_aload_n C dX12_whyNoPlace_36 rfl ?_
        refine gX12_97 C (k0) dX12_whyNoPlace_37 ?_
        refine r_iload_n C dX12_whyNoPlace_40 rfl ?_
        obtain ⟨hi4, hw⟩ := hw
        refine r_iald C (kr12_53 (k0)) hi4 dX12_whyNoPlace_41 ?_
        refine r_iconst (1) C dX12_whyNoPlace_42 (by decide) ?_
        refine r_isub C dX12_whyNoPlace_43 ?_
        refine kX12_114 C (sX12_in hw) dX12_whyNoPlace_44 (Nat.le_of_ble_eq_true rfl) rfl (Nat.le_of_ble_eq_true rfl) (fun v5 hw => ?_)
        refine r_if_eq 54 C dX12_whyNoPlace_47 (by decide) (fun hc => ?_) (fun hc => ?_)
        · replace hw := it_t hc hw
          refine r_bipush (-13) C dX12_whyNoPlace_54 (by decide) ?_
          exact r_iret C dX12_whyNoPlace_56 ⟨_, rfl, rfl, hw⟩
        · replace hw := it_f hc hw
          refine r_iconst (0) C dX12_whyNoPlace_50 (by decide) ?_
          refine r_goto 56 C dX12_whyNoPlace_51 (by decide) ?_
          exact r_iret C dX12_whyNoPlace_56 ⟨_, rfl, rfl, hw⟩
      · replace hw := it_f hc hw
        refine r_bipush (-12) C dX12_whyNoPlace_31 (by decide) ?_
        exact r_iret C dX12_whyNoPlace_33 ⟨_, rfl, rfl, hw⟩
    · replace hw := it_t hc hw
      refine r_bipush (-11) C dX12_whyNoPlace_19 (by decide) ?_
      exact r_iret C dX12_whyNoPlace_21 ⟨_, rfl, rfl, hw⟩
  · replace hw := it_t hc hw
    refine r_iconst (-1) C dX12_whyNoPlace_7 (by decide) ?_
    exact r_iret C dX12_whyNoPlace_8 ⟨_, rfl, rfl, hw⟩
def wX12_put (a0 : Nat) (x1 : Int32) (x2 : Int32) (x3 : Int64) (h : Hp) (Q : Int32 → Hp → Prop) : Prop :=
  wX12_whyNoPlace a0 x1 x2 h (fun v1 => if 0 ≤ v1 then (vp_in x1 (ln (rf a0 52)) ∧ (∀ v3 : Int32, v3 = ((-2 : Int32) - (gI h (rf a0 52) x1.toNatClampNeg)) → (if v3 = 0 then (vp_in (((60 : Int32) * x1) + x2) (ln (rf a0 54)) ∧ (∀ h15 : Hp, h15 = sL h (rf a0 54) (((60 : Int32) * x1) + x2).toNatClampNeg (b8 (x3.toInt32)).toInt64 → (Q (1 : Int32) h15))) else (if v3 = (1 : Int32) then (vp_in (((60 : Int32) * x1) + x2) (ln (rf a0 54)) ∧ (∀ h13 : Hp, h13 = sL h (rf a0 54) (((60 : Int32) * x1) + x2).toNatClampNeg (s16 (x3.toInt32)).toInt64 → (Q (1 : Int32) h13))) else (if v3 = (2 : Int32) then (vp_in (((60 : Int32) * x1) + x2) (ln (rf a0 54)) ∧ (∀ h11 : Hp, h11 = sL h (rf a0 54) (((60 : Int32) * x1) + x2).toNatClampNeg (x3.toInt32).toInt64 → (Q (1 : Int32) h11))) else (if v3 = (3 : Int32) then (vp_in (((60 : Int32) * x1) + x2) (ln (rf a0 54)) ∧ (∀ h9 : Hp, h9 = sL h (rf a0 54) (((60 : Int32) * x1) + x2).toNatClampNeg x3 → (Q (1 : Int32) h9))) else (if (lg_cmp x3 (0 : Int64)) = 0 then (vp_in (((60 : Int32) * x1) + x2) (ln (rf a0 54)) ∧ (∀ h5 : Hp, h5 = sL h (rf a0 54) (((60 : Int32) * x1) + x2).toNatClampNeg (0 : Int64) → (Q (1 : Int32) h5))) else (vp_in (((60 : Int32) * x1) + x2) (ln (rf a0 54)) ∧ (∀ h7 : Hp, h7 = sL h (rf a0 54) (((60 : Int32) * x1) + x2).toNatClampNeg (1 : Int64) → (Q (1 : Int32) h7)))))))))) else (Q v1 h))
set_option maxRecDepth 20000 in
theorem sX12_put {G : GG} {a0 : Nat} {x1 : Int32} {x2 : Int32} {x3 : Int64} {h : Hp} {Q : Int32 → Hp → Prop} (k0 : kd a0 = 12) (hw : wX12_put a0 x1 x2 x3 h Q) : CI G 3 yX12_put cX12_put 7 (some .int) [.ref (G.1 a0), .int x1, .int x2, .long x3] h Q := by
  refine CO_of [some (.ref (G.1 a0)), some (.int x1), some (.int x2), some (.long x3), none, none, none] (by decide) (Nat.le_of_ble_eq_true rfl) rfl (fun X C => ?_)
  unfold wX12_put at hw
  refine r_aload_n C dX12_put_0 rfl ?_
  refine r_iload_n C dX12_put_1 rfl ?_
  refine r_iload_n C dX12_put_2 rfl ?_
  refine kX12_414 C (k0) (sX12_whyNoPlace (k0) hw) dX12_put_3 (Nat.le_of_ble_eq_true rfl) rfl (Nat.le_of_ble_eq_true rfl) (fun v1 hw => ?_)
  refine r_istore [some (.ref (G.1 a0)), some (.int x1), some (.int x2), some (.long x3), none, some (.int v1), none] C dX12_put_6 (Nat.le_of_ble_eq_true rfl) rfl rfl ?_
  refine r_iload C dX12_put_8 rfl ?_
  refine r_if_ge 16 C dX12_put_10 (by decide) (fun hc => ?_) (fun hc => ?_)
  · replace hw := it_t hc hw
    refine r_bipush (-2) C dX12_put_16 (by decide) ?_
    refine r_aload_n C dX12_put_18 rfl ?_
    refine gX12_94 C (k0) dX12_put_19 ?_
    refine r_iload_n C dX12_put_22 rfl ?_
    obtain ⟨hi2, hw⟩ := hw
    refine r_iald C (kr12_52 (k0)) hi2 dX12_put_23 ?_
    refine r_isub C dX12_put_24 ?_
    refine r_topi (fun v3 ev3 => ?_)
    replace hw := hw v3 ev3
    refine r_istore [some (.ref (G.1 a0)), some (.int x1), some (.int x2), some (.long x3), none, some (.int v1), some (.int v3)] C dX12_put_25 (Nat.le_of_ble_eq_true rfl) rfl rfl ?_
    refine r_aload_n C dX12_put_27 rfl ?_
    refine gX12_100 C (k0) dX12_put_28 ?_
    refine r_bipush (60) C dX12_put_31 (by decide) ?_
    refine r_iload_n C dX12_put_33 rfl ?_
    refine r_imul C dX12_put_34 ?_
    refine r_iload_n C dX12_put_35 rfl ?_
    refine r_iadd C dX12_put_36 ?_
    refine r_iload C dX12_put_37 rfl ?_
    refine r_if_ne 49 C dX12_put_39 (by decide) (fun hc => ?_) (fun hc => ?_)
    · replace hw := it_f hc hw
      refine r_iload C dX12_put_49 rfl ?_
      refine r_iconst (1) C dX12_put_51 (by decide) ?_
      refine r_icmp_ne 62 C dX12_put_52 (by decide) (fun hc => ?_) (fun hc => ?_)
      · replace hw := it_f hc hw
        refine r_iload C dX12_put_62 rfl ?_
        refine r_iconst (2) C dX12_put_64 (by decide) ?_
        refine r_icmp_ne 74 C dX12_put_65 (by decide) (fun hc => ?_) (fun hc => ?_)
        · replace hw := it_f hc hw
          refine r_iload C dX12_put_74 rfl ?_
          refine r_iconst (3) C dX12_put_76 (by decide) ?_
          refine r_icmp_ne 84 C dX12_put_77 (by decide) (fun hc => ?_) (fun hc => ?_)
          · replace hw := it_f hc hw
            refine r_lload_n C dX12_put_84 rfl ?_
            refine r_lconst (0) C dX12_put_85 (by decide) ?_
            refine r_lcmp C dX12_put_86 ?_
            refine r_if_eq 94 C dX12_put_87 (by decide) (fun hc => ?_) (fun hc => ?_)
            · replace hw := it_t hc hw
              refine r_lconst (0) C dX12_put_94 (by decide) ?_
              obtain ⟨hi4, hw⟩ := hw
              refine r_last C (kr12_54 (k0)) hi4 dX12_put_95 ?_
              refine r_toph (fun h5 eh5 => ?_)
              replace hw := hw h5 eh5
              refine r_iconst (1) C dX12_put_96 (by decide) ?_
              exact r_iret C dX12_put_97 ⟨_, rfl, hw⟩
            · replace hw := it_f hc hw
              refine r_lconst (1) C dX12_put_90 (by decide) ?_
              refine r_goto 95 C dX12_put_91 (by decide) ?_
              obtain ⟨hi6, hw⟩ := hw
              refine r_last C (kr12_54 (k0)) hi6 dX12_put_95 ?_
              refine r_toph (fun h7 eh7 => ?_)
              replace hw := hw h7 eh7
              refine r_iconst (1) C dX12_put_96 (by decide) ?_
              exact r_iret C dX12_put_97 ⟨_, rfl, hw⟩
          · replace hw := it_t hc hw
            refine r_lload_n C dX12_put_80 rfl ?_
            refine r_goto 95 C dX12_put_81 (by decide) ?_
            obtain ⟨hi8, hw⟩ := hw
            refine r_last C (kr12_54 (k0)) hi8 dX12_put_95 ?_
            refine r_toph (fun h9 eh9 => ?_)
            replace hw := hw h9 eh9
            refine r_iconst (1) C dX12_put_96 (by decide) ?_
            exact r_iret C dX12_put_97 ⟨_, rfl, hw⟩
        · replace hw := it_t hc hw
          refine r_lload_n C dX12_put_68 rfl ?_
          refine r_l2i C dX12_put_69 ?_
          refine r_i2l C dX12_put_70 ?_
          refine r_goto 95 C dX12_put_71 (by decide) ?_
          obtain ⟨hi10, hw⟩ := hw
          refine r_last C (kr12_54 (k0)) hi10 dX12_put_95 ?_
          refine r_toph (fun h11 eh11 => ?_)
          replace hw := hw h11 eh11
          refine r_iconst (1) C dX12_put_96 (by decide) ?_
          exact r_iret C dX12_put_97 ⟨_, rfl, hw⟩
      · replace hw := it_t hc hw
        refine r_lload_n C dX12_put_55 rfl ?_
        refine r_l2i C dX12_put_56 ?_
        refine r_i2s C dX12_put_57 ?_
        refine r_i2l C dX12_put_58 ?_
        refine r_goto 95 C dX12_put_59 (by decide) ?_
        obtain ⟨hi12, hw⟩ := hw
        refine r_last C (kr12_54 (k0)) hi12 dX12_put_95 ?_
        refine r_toph (fun h13 eh13 => ?_)
        replace hw := hw h13 eh13
        refine r_iconst (1) C dX12_put_96 (by decide) ?_
        exact r_iret C dX12_put_97 ⟨_, rfl, hw⟩
    · replace hw := it_t hc hw
      refine r_lload_n C dX12_put_42 rfl ?_
      refine r_l2i C dX12_put_43 ?_
      refine r_i2b C dX12_put_44 ?_
      refine r_i2l C dX12_put_45 ?_
      refine r_goto 95 C dX12_put_46 (by decide) ?_
      obtain ⟨hi14, hw⟩ := hw
      refine r_last C (kr12_54 (k0)) hi14 dX12_put_95 ?_
      refine r_toph (fun h15 eh15 => ?_)
      replace hw := hw h15 eh15
      refine r_iconst (1) C dX12_put_96 (by decide) ?_
      exact r_iret C dX12_put_97 ⟨_, rfl, hw⟩
  · replace hw := it_f hc hw
    refine r_iload C dX12_put_13 rfl ?_
    exact r_iret C dX12_put_15 ⟨_, rfl, hw⟩
def wX12_element (a0 : Nat) (x1 : Int32) (x2 : Int32) (h : Hp) (Q : Int64 → Prop) : Prop :=
  wX12_whyNoPlace a0 x1 x2 h (fun v1 => if 0 ≤ v1 then (vp_in (((60 : Int32) * x1) + x2) (ln (rf a0 54)) ∧ (Q (gL h (rf a0 54) (((60 : Int32) * x1) + x2).toNatClampNeg))) else (Q (-9223372036854775808 : Int64)))
set_option maxRecDepth 20000 in
theorem sX12_element {G : GG} {a0 : Nat} {x1 : Int32} {x2 : Int32} {h : Hp} {Q : Int64 → Prop} (k0 : kd a0 = 12) (hw : wX12_element a0 x1 x2 h Q) : PJ G 3 yX12_element cX12_element 3 (some .long) [.ref (G.1 a0), .int x1, .int x2] h Q := by
  refine CO_of [some (.ref (G.1 a0)), some (.int x1), some (.int x2)] (by decide) (Nat.le_of_ble_eq_true rfl) rfl (fun X C => ?_)
  unfold wX12_element at hw
  refine r_aload_n C dX12_element_0 rfl ?_
  refine r_iload_n C dX12_element_1 rfl ?_
  refine r_iload_n C dX12_element_2 rfl ?_
  refine kX12_414 C (k0) (sX12_whyNoPlace (k0) hw) dX12_element_3 (Nat.le_of_ble_eq_true rfl) rfl (Nat.le_of_ble_eq_true rfl) (fun v1 hw => ?_)
  refine r_if_ge 15 C dX12_element_6 (by decide) (fun hc => ?_) (fun hc => ?_)
  · replace hw := it_t hc hw
    refine r_aload_n C dX12_element_15 rfl ?_
    refine gX12_100 C (k0) dX12_element_16 ?_
    refine r_bipush (60) C dX12_element_19 (by decide) ?_
    refine r_iload_n C dX12_element_21 rfl ?_
    refine r_imul C dX12_element_22 ?_
    refine r_iload_n C dX12_element_23 rfl ?_
    refine r_iadd C dX12_element_24 ?_
    obtain ⟨hi2, hw⟩ := hw
    refine r_lald C (kr12_54 (k0)) hi2 dX12_element_25 ?_
    exact r_lret C dX12_element_26 ⟨_, rfl, rfl, hw⟩
  · replace hw := it_f hc hw
    refine r_ldc2_w (-9223372036854775808) C wd1507 dX12_element_9 ?_
    refine r_goto 26 C dX12_element_12 (by decide) ?_
    exact r_lret C dX12_element_26 ⟨_, rfl, rfl, hw⟩
def fX12_shift_150 (a0 : Nat) (x3 : Int32) (x4 : Int32) (x5 : Int32) (Q : Int32 → Hp → Prop) (K150 : Int32 → Hp → Prop) (x6 : Int32) (h : Hp) : Prop :=
  if x5 ≤ x6 then (Q x5 h) else (vp_in x6 (ln (rf a0 55)) ∧ (vp_in ((((60 : Int32) * x3) + x4) + x6) (ln (rf a0 54)) ∧ (∀ h3 : Hp, h3 = sL h (rf a0 54) ((((60 : Int32) * x3) + x4) + x6).toNatClampNeg (gL h (rf a0 55) x6.toNatClampNeg) → (∀ v4 : Int32, v4 = x6 + (1 : Int32) → (K150 v4 h3)))))
def eX12_shift_150 (a0 : Nat) (x3 : Int32) (x4 : Int32) (x5 : Int32) (Q : Int32 → Hp → Prop) (x6 : Int32) (h : Hp) : Prop := ∃ N, lpN (fun (K : Int32 × Hp → Prop) (s : Int32 × Hp) => fX12_shift_150 a0 x3 x4 x5 Q (fun x6 h => K (x6, h)) s.1 s.2) N (x6, h)
theorem iX12_shift_150 {a0 : Nat} {x3 : Int32} {x4 : Int32} {x5 : Int32} {Q : Int32 → Hp → Prop} (I : Int32 → Hp → Prop) (μ : Int32 → Hp → Nat) (hs : ∀ (x6 : Int32) (h : Hp), I x6 h → ∀ K : Int32 → Hp → Prop, (∀ (x6' : Int32) (h' : Hp), I x6' h' → μ x6' h' < μ x6 h → K x6' h') → fX12_shift_150 a0 x3 x4 x5 Q K x6 h) : ∀ (x6 : Int32) (h : Hp), I x6 h → eX12_shift_150 a0 x3 x4 x5 Q x6 h := fun x6 h hI => lp_ind (fun s => I s.1 s.2) (fun s => μ s.1 s.2) (fun s hs' K hK => hs s.1 s.2 hs' _ (fun x6' h' h1 h2 => hK (x6', h') h1 h2)) (x6, h) hI
set_option maxRecDepth 20000 in
theorem tX12_shift_150 {G : GG} {X : XX} {a0 : Nat} {x3 : Int32} {x4 : Int32} {x5 : Int32} {x6 : Int32} {h : Hp}  {Q : Int32 → Hp → Prop} (C : Cx G RX12 cX12_shift 7 (some .int) 2 0 0 X) (k0 : kd a0 = 12) (hw : eX12_shift_150 a0 x3 x4 x5 Q x6 h) : R0 G X 0 0 (ZM G (fun r h' => ∃ v, r = some (.int v) ∧ Q v h') X) 150 [some (.ref (G.1 a0)), none, none, some (.int x3), some (.int x4), some (.int x5), some (.int x6)] [] h := by
  obtain ⟨N, hw⟩ := hw
  induction N generalizing x6 h with
  | zero => exact hw.elim
  | succ N ih =>
    obtain ⟨K150, eK⟩ : ∃ K : Int32 → Hp → Prop, K = (fun x6 h => lpN (fun (K : Int32 × Hp → Prop) (s : Int32 × Hp) => fX12_shift_150 a0 x3 x4 x5 Q (fun x6 h => K (x6, h)) s.1 s.2) N (x6, h)) := ⟨_, rfl⟩
    have hw : fX12_shift_150 a0 x3 x4 x5 Q (fun x6 h => lpN (fun (K : Int32 × Hp → Prop) (s : Int32 × Hp) => fX12_shift_150 a0 x3 x4 x5 Q (fun x6 h => K (x6, h)) s.1 s.2) N (x6, h)) x6 h := hw
    have hK150 : ∀ (x6 : Int32) (h : Hp), K150 x6 h → R0 G X 0 0 (ZM G (fun r h' => ∃ v, r = some (.int v) ∧ Q v h') X) 150 [some (.ref (G.1 a0)), none, none, some (.int x3), some (.int x4), some (.int x5), some (.int x6)] [] h := fun x6 h q => ih (by rw [eK] at q; exact q)
    rw [← eK] at hw
    clear eK ih
    unfold fX12_shift_150 at hw
    refine r_iload C dX12_shift_150 rfl ?_
    refine r_iload C dX12_shift_152 rfl ?_
    refine r_icmp_ge 185 C dX12_shift_154 (by decide) (fun hc => ?_) (fun hc => ?_)
    · replace hw := it_t hc hw
      refine r_iload C dX12_shift_185 rfl ?_
      exact r_iret C dX12_shift_187 ⟨_, rfl, hw⟩
    · replace hw := it_f hc hw
      refine r_aload_n C dX12_shift_157 rfl ?_
      refine gX12_100 C (k0) dX12_shift_158 ?_
      refine r_bipush (60) C dX12_shift_161 (by decide) ?_
      refine r_iload_n C dX12_shift_163 rfl ?_
      refine r_imul C dX12_shift_164 ?_
      refine r_iload C dX12_shift_165 rfl ?_
      refine r_iadd C dX12_shift_167 ?_
      refine r_iload C dX12_shift_168 rfl ?_
      refine r_iadd C dX12_shift_170 ?_
      refine r_aload_n C dX12_shift_171 rfl ?_
      refine gX12_104 C (k0) dX12_shift_172 ?_
      refine r_iload C dX12_shift_175 rfl ?_
      obtain ⟨hi1, hw⟩ := hw
      refine r_lald C (kr12_55 (k0)) hi1 dX12_shift_177 ?_
      obtain ⟨hi2, hw⟩ := hw
      refine r_last C (kr12_54 (k0)) hi2 dX12_shift_178 ?_
      refine r_toph (fun h3 eh3 => ?_)
      replace hw := hw h3 eh3
      obtain ⟨v4, ev4⟩ : ∃ v : Int32, v = x6 + (1 : Int32) := ⟨_, rfl⟩
      replace hw := hw v4 ev4
      refine r_iinc v4 [some (.ref (G.1 a0)), none, none, some (.int x3), some (.int x4), some (.int x5), some (.int v4)] C dX12_shift_179 rfl (by rw [ev4]; rfl) rfl rfl ?_
      refine r_goto 150 C dX12_shift_182 (by decide) ?_
      exact hK150 _ _ hw
def fX12_shift_113 (a0 : Nat) (x1 : Int32) (x2 : Int32) (x3 : Int32) (x4 : Int32) (x5 : Int32) (Q : Int32 → Hp → Prop) (K113 : Int32 → Hp → Prop) (x6 : Int32) (h : Hp) : Prop :=
  if x5 ≤ x6 then (eX12_shift_150 a0 x3 x4 x5 Q (0 : Int32) h) else (vp_in ((((60 : Int32) * x1) + x2) + x6) (ln (rf a0 54)) ∧ (vp_in x6 (ln (rf a0 55)) ∧ (∀ h3 : Hp, h3 = sL h (rf a0 55) x6.toNatClampNeg (gL h (rf a0 54) ((((60 : Int32) * x1) + x2) + x6).toNatClampNeg) → (∀ v4 : Int32, v4 = x6 + (1 : Int32) → (K113 v4 h3)))))
def eX12_shift_113 (a0 : Nat) (x1 : Int32) (x2 : Int32) (x3 : Int32) (x4 : Int32) (x5 : Int32) (Q : Int32 → Hp → Prop) (x6 : Int32) (h : Hp) : Prop := ∃ N, lpN (fun (K : Int32 × Hp → Prop) (s : Int32 × Hp) => fX12_shift_113 a0 x1 x2 x3 x4 x5 Q (fun x6 h => K (x6, h)) s.1 s.2) N (x6, h)
theorem iX12_shift_113 {a0 : Nat} {x1 : Int32} {x2 : Int32} {x3 : Int32} {x4 : Int32} {x5 : Int32} {Q : Int32 → Hp → Prop} (I : Int32 → Hp → Prop) (μ : Int32 → Hp → Nat) (hs : ∀ (x6 : Int32) (h : Hp), I x6 h → ∀ K : Int32 → Hp → Prop, (∀ (x6' : Int32) (h' : Hp), I x6' h' → μ x6' h' < μ x6 h → K x6' h') → fX12_shift_113 a0 x1 x2 x3 x4 x5 Q K x6 h) : ∀ (x6 : Int32) (h : Hp), I x6 h → eX12_shift_113 a0 x1 x2 x3 x4 x5 Q x6 h := fun x6 h hI => lp_ind (fun s => I s.1 s.2) (fun s => μ s.1 s.2) (fun s hs' K hK => hs s.1 s.2 hs' _ (fun x6' h' h1 h2 => hK (x6', h') h1 h2)) (x6, h) hI
set_option maxRecDepth 20000 in
theorem tX12_shift_113 {G : GG} {X : XX} {a0 : Nat} {x1 : Int32} {x2 : Int32} {x3 : Int32} {x4 : Int32} {x5 : Int32} {x6 : Int32} {h : Hp}  {Q : Int32 → Hp → Prop} (C : Cx G RX12 cX12_shift 7 (some .int) 2 0 0 X) (k0 : kd a0 = 12) (hw : eX12_shift_113 a0 x1 x2 x3 x4 x5 Q x6 h) : R0 G X 0 0 (ZM G (fun r h' => ∃ v, r = some (.int v) ∧ Q v h') X) 113 [some (.ref (G.1 a0)), some (.int x1), some (.int x2), some (.int x3), some (.int x4), some (.int x5), some (.int x6)] [] h := by
  obtain ⟨N, hw⟩ := hw
  induction N generalizing x6 h with
  | zero => exact hw.elim
  | succ N ih =>
    obtain ⟨K113, eK⟩ : ∃ K : Int32 → Hp → Prop, K = (fun x6 h => lpN (fun (K : Int32 × Hp → Prop) (s : Int32 × Hp) => fX12_shift_113 a0 x1 x2 x3 x4 x5 Q (fun x6 h => K (x6, h)) s.1 s.2) N (x6, h)) := ⟨_, rfl⟩
    have hw : fX12_shift_113 a0 x1 x2 x3 x4 x5 Q (fun x6 h => lpN (fun (K : Int32 × Hp → Prop) (s : Int32 × Hp) => fX12_shift_113 a0 x1 x2 x3 x4 x5 Q (fun x6 h => K (x6, h)) s.1 s.2) N (x6, h)) x6 h := hw
    have hK113 : ∀ (x6 : Int32) (h : Hp), K113 x6 h → R0 G X 0 0 (ZM G (fun r h' => ∃ v, r = some (.int v) ∧ Q v h') X) 113 [some (.ref (G.1 a0)), some (.int x1), some (.int x2), some (.int x3), some (.int x4), some (.int x5), some (.int x6)] [] h := fun x6 h q => ih (by rw [eK] at q; exact q)
    rw [← eK] at hw
    clear eK ih
    unfold fX12_shift_113 at hw
    refine r_iload C dX12_shift_113 rfl ?_
    refine r_iload C dX12_shift_115 rfl ?_
    refine r_icmp_ge 147 C dX12_shift_117 (by decide) (fun hc => ?_) (fun hc => ?_)
    · replace hw := it_t hc hw
      refine r_iconst (0) C dX12_shift_147 (by decide) ?_
      refine r_istore [some (.ref (G.1 a0)), some (.int x1), some (.int x2), some (.int x3), some (.int x4), some (.int x5), some (.int (0 : Int32))] C dX12_shift_148 (Nat.le_of_ble_eq_true rfl) rfl rfl ?_
      refine r_weak [some (.ref (G.1 a0)), none, none, some (.int x3), some (.int x4), some (.int x5), some (.int (0 : Int32))] (lw_k (lw_d (lw_d (lw_k (lw_k (lw_k (lw_k (lw_n)))))))) ?_
      exact tX12_shift_150 C (k0) hw
    · replace hw := it_f hc hw
      refine r_aload_n C dX12_shift_120 rfl ?_
      refine gX12_104 C (k0) dX12_shift_121 ?_
      refine r_iload C dX12_shift_124 rfl ?_
      refine r_aload_n C dX12_shift_126 rfl ?_
      refine gX12_100 C (k0) dX12_shift_127 ?_
      refine r_bipush (60) C dX12_shift_130 (by decide) ?_
      refine r_iload_n C dX12_shift_132 rfl ?_
      refine r_imul C dX12_shift_133 ?_
      refine r_iload_n C dX12_shift_134 rfl ?_
      refine r_iadd C dX12_shift_135 ?_
      refine r_iload C dX12_shift_136 rfl ?_
      refine r_iadd C dX12_shift_138 ?_
      obtain ⟨hi1, hw⟩ := hw
      refine r_lald C (kr12_54 (k0)) hi1 dX12_shift_139 ?_
      obtain ⟨hi2, hw⟩ := hw
      refine r_last C (kr12_55 (k0)) hi2 dX12_shift_140 ?_
      refine r_toph (fun h3 eh3 => ?_)
      replace hw := hw h3 eh3
      obtain ⟨v4, ev4⟩ : ∃ v : Int32, v = x6 + (1 : Int32) := ⟨_, rfl⟩
      replace hw := hw v4 ev4
      refine r_iinc v4 [some (.ref (G.1 a0)), some (.int x1), some (.int x2), some (.int x3), some (.int x4), some (.int x5), some (.int v4)] C dX12_shift_141 rfl (by rw [ev4]; rfl) rfl rfl ?_
      refine r_goto 113 C dX12_shift_144 (by decide) ?_
      exact hK113 _ _ hw
def wX12_shift (a0 : Nat) (x1 : Int32) (x2 : Int32) (x3 : Int32) (x4 : Int32) (x5 : Int32) (h : Hp) (Q : Int32 → Hp → Prop) : Prop :=
  wX12_isShelf x1 h (fun v1 => if v1 = 0 then (Q (-1 : Int32) h) else (wX12_isShelf x3 h (fun v2 => if v2 = 0 then (Q (-1 : Int32) h) else (vp_in x1 (ln (rf a0 52)) ∧ (if (gI h (rf a0 52) x1.toNatClampNeg) = (-1 : Int32) then (Q (-11 : Int32) h) else (vp_in x3 (ln (rf a0 52)) ∧ (if (gI h (rf a0 52) x3.toNatClampNeg) = (-1 : Int32) then (Q (-11 : Int32) h) else (vp_in x1 (ln (rf a0 52)) ∧ (if 0 ≤ (gI h (rf a0 52) x1.toNatClampNeg) then (Q (-12 : Int32) h) else (vp_in x1 (ln (rf a0 52)) ∧ (vp_in x3 (ln (rf a0 52)) ∧ (if (gI h (rf a0 52) x1.toNatClampNeg) = (gI h (rf a0 52) x3.toNatClampNeg) then (if x5 < 0 then (Q (-13 : Int32) h) else (if x2 < 0 then (Q (-13 : Int32) h) else (if x4 < 0 then (Q (-13 : Int32) h) else (vp_in x1 (ln (rf a0 53)) ∧ (if ((gI h (rf a0 53) x1.toNatClampNeg) - x5) < x2 then (Q (-13 : Int32) h) else (vp_in x3 (ln (rf a0 53)) ∧ (if x4 ≤ ((gI h (rf a0 53) x3.toNatClampNeg) - x5) then (eX12_shift_113 a0 x1 x2 x3 x4 x5 Q (0 : Int32) h) else (Q (-13 : Int32) h)))))))) else (Q (-12 : Int32) h)))))))))))))
set_option maxRecDepth 20000 in
theorem sX12_shift {G : GG} {a0 : Nat} {x1 : Int32} {x2 : Int32} {x3 : Int32} {x4 : Int32} {x5 : Int32} {h : Hp} {Q : Int32 → Hp → Prop} (k0 : kd a0 = 12) (hw : wX12_shift a0 x1 x2 x3 x4 x5 h Q) : CI G 2 yX12_shift cX12_shift 7 (some .int) [.ref (G.1 a0), .int x1, .int x2, .int x3, .int x4, .int x5] h Q := by
  refine CO_of [some (.ref (G.1 a0)), some (.int x1), some (.int x2), some (.int x3), some (.int x4), some (.int x5), none] (by decide) (Nat.le_of_ble_eq_true rfl) rfl (fun X C => ?_)
  unfold wX12_shift at hw
  refine r_iload_n C dX12_shift_0 rfl ?_
  refine kX12_132 C (sX12_isShelf hw) dX12_shift_1 (Nat.le_of_ble_eq_true rfl) rfl (Nat.le_of_ble_eq_true rfl) (fun v1 hw => ?_)
  refine r_if_eq 14 C dX12_shift_4 (by decide) (fun hc => ?_) (fun hc => ?_)
  · replace hw := it_t hc hw
    refine r_iconst (-1) C dX12_shift_14 (by decide) ?_
    exact r_iret C dX12_shift_15 ⟨_, rfl, hw⟩
  · replace hw := it_f hc hw
    refine r_iload_n C dX12_shift_7 rfl ?_
    refine kX12_132 C (sX12_isShelf hw) dX12_shift_8 (Nat.le_of_ble_eq_true rfl) rfl (Nat.le_of_ble_eq_true rfl) (fun v2 hw => ?_)
    refine r_if_ne 16 C dX12_shift_11 (by decide) (fun hc => ?_) (fun hc => ?_)
    · replace hw := it_f hc hw
      refine r_aload_n C dX12_shift_16 rfl ?_
      refine gX12_94 C (k0) dX12_shift_17 ?_
      refine r_iload_n C dX12_shift_20 rfl ?_
      obtain ⟨hi3, hw⟩ := hw
      refine r_iald C (kr12_52 (k0)) hi3 dX12_shift_21 ?_
      refine r_iconst (-1) C dX12_shift_22 (by decide) ?_
      refine r_icmp_eq 36 C dX12_shift_23 (by decide) (fun hc => ?_) (fun hc => ?_)
      · replace hw := it_t hc hw
        refine r_bipush (-11) C dX12_shift_36 (by decide) ?_
        exact r_iret C dX12_shift_38 ⟨_, rfl, hw⟩
      · replace hw := it_f hc hw
        refine r_aload_n C dX12_shift_26 rfl ?_
        refine gX12_94 C (k0) dX12_shift_27 ?_
        refine r_iload_n C dX12_shift_30 rfl ?_
        obtain ⟨hi4, hw⟩ := hw
        refine r_iald C (kr12_52 (k0)) hi4 dX12_shift_31 ?_
        refine r_iconst (-1) C dX12_shift_32 (by decide) ?_
        refine r_icmp_ne 39 C dX12_shift_33 (by decide) (fun hc => ?_) (fun hc => ?_)
        · replace hw := it_f hc hw
          refine r_aload_n C dX12_shift_39 rfl ?_
          refine gX12_94 C (k0) dX12_shift_40 ?_
          refine r_iload_n C dX12_shift_43 rfl ?_
          obtain ⟨hi5, hw⟩ := hw
          refine r_iald C (kr12_52 (k0)) hi5 dX12_shift_44 ?_
          refine r_if_ge 63 C dX12_shift_45 (by decide) (fun hc => ?_) (fun hc => ?_)
          · replace hw := it_t hc hw
            refine r_bipush (-12) C dX12_shift_63 (by decide) ?_
            exact r_iret C dX12_shift_65 ⟨_, rfl, hw⟩
          · replace hw := it_f hc hw
            refine r_aload_n C dX12_shift_48 rfl ?_
            refine gX12_94 C (k0) dX12_shift_49 ?_
            refine r_iload_n C dX12_shift_52 rfl ?_
            obtain ⟨hi6, hw⟩ := hw
            refine r_iald C (kr12_52 (k0)) hi6 dX12_shift_53 ?_
            refine r_aload_n C dX12_shift_54 rfl ?_
            refine gX12_94 C (k0) dX12_shift_55 ?_
            refine r_iload_n C dX12_shift_58 rfl ?_
            obtain ⟨hi7, hw⟩ := hw
            refine r_iald C (kr12_52 (k0)) hi7 dX12_shift_59 ?_
            refine r_icmp_eq 66 C dX12_shift_60 (by decide) (fun hc => ?_) (fun hc => ?_)
            · replace hw := it_t hc hw
              refine r_iload C dX12_shift_66 rfl ?_
              refine r_if_lt 107 C dX12_shift_68 (by decide) (fun hc => ?_) (fun hc => ?_)
              · replace hw := it_t hc hw
                refine r_bipush (-13) C dX12_shift_107 (by decide) ?_
                exact r_iret C dX12_shift_109 ⟨_, rfl, hw⟩
              · replace hw := it_f hc hw
                refine r_iload_n C dX12_shift_71 rfl ?_
                refine r_if_lt 107 C dX12_shift_72 (by decide) (fun hc => ?_) (fun hc => ?_)
                · replace hw := it_t hc hw
                  refine r_bipush (-13) C dX12_shift_107 (by decide) ?_
                  exact r_iret C dX12_shift_109 ⟨_, rfl, hw⟩
                · replace hw := it_f hc hw
                  refine r_iload C dX12_shift_75 rfl ?_
                  refine r_if_lt 107 C dX12_shift_77 (by decide) (fun hc => ?_) (fun hc => ?_)
                  · replace hw := it_t hc hw
                    refine r_bipush (-13) C dX12_shift_107 (by decide) ?_
                    exact r_iret C dX12_shift_109 ⟨_, rfl, hw⟩
                  · replace hw := it_f hc hw
                    refine r_iload_n C dX12_shift_80 rfl ?_
                    refine r_aload_n C dX12_shift_81 rfl ?_
                    refine gX12_97 C (k0) dX12_shift_82 ?_
                    refine r_iload_n C dX12_shift_85 rfl ?_
                    obtain ⟨hi8, hw⟩ := hw
                    refine r_iald C (kr12_53 (k0)) hi8 dX12_shift_86 ?_
                    refine r_iload C dX12_shift_87 rfl ?_
                    refine r_isub C dX12_shift_89 ?_
                    refine r_icmp_gt 107 C dX12_shift_90 (by decide) (fun hc => ?_) (fun hc => ?_)
                    · replace hw := it_t hc hw
                      refine r_bipush (-13) C dX12_shift_107 (by decide) ?_
                      exact r_iret C dX12_shift_109 ⟨_, rfl, hw⟩
                    · replace hw := it_f hc hw
                      refine r_iload C dX12_shift_93 rfl ?_
                      refine r_aload_n C dX12_shift_95 rfl ?_
                      refine gX12_97 C (k0) dX12_shift_96 ?_
                      refine r_iload_n C dX12_shift_99 rfl ?_
                      obtain ⟨hi9, hw⟩ := hw
                      refine r_iald C (kr12_53 (k0)) hi9 dX12_shift_100 ?_
                      refine r_iload C dX12_shift_101 rfl ?_
                      refine r_isub C dX12_shift_103 ?_
                      refine r_icmp_le 110 C dX12_shift_104 (by decide) (fun hc => ?_) (fun hc => ?_)
                      · replace hw := it_t hc hw
                        refine r_iconst (0) C dX12_shift_110 (by decide) ?_
                        refine r_istore [some (.ref (G.1 a0)), some (.int x1), some (.int x2), some (.int x3), some (.int x4), some (.int x5), some (.int (0 : Int32))] C dX12_shift_111 (Nat.le_of_ble_eq_true rfl) rfl rfl ?_
                        exact tX12_shift_113 C (k0) hw
                      · replace hw := it_f hc hw
                        refine r_bipush (-13) C dX12_shift_107 (by decide) ?_
                        exact r_iret C dX12_shift_109 ⟨_, rfl, hw⟩
            · replace hw := it_f hc hw
              refine r_bipush (-12) C dX12_shift_63 (by decide) ?_
              exact r_iret C dX12_shift_65 ⟨_, rfl, hw⟩
        · replace hw := it_t hc hw
          refine r_bipush (-11) C dX12_shift_36 (by decide) ?_
          exact r_iret C dX12_shift_38 ⟨_, rfl, hw⟩
    · replace hw := it_t hc hw
      refine r_iconst (-1) C dX12_shift_14 (by decide) ?_
      exact r_iret C dX12_shift_15 ⟨_, rfl, hw⟩
def wX12_taken (a0 : Nat) (x1 : Int32) (x2 : Int32) (h : Hp) (Q : Int32 → Prop) : Prop :=
  wX12_isShelf x1 h (fun v1 => if v1 = 0 then (Q (-1 : Int32)) else (wX12_in x2 (0 : Int32) (7 : Int32) h (fun v2 => if v2 = 0 then (Q (-1 : Int32)) else (vp_in x1 (ln (rf a0 52)) ∧ (if (gI h (rf a0 52) x1.toNatClampNeg) = (-1 : Int32) then (Q (-11 : Int32)) else (vp_in x1 (ln (rf a0 52)) ∧ (if (gI h (rf a0 52) x1.toNatClampNeg) < 0 then (Q (-12 : Int32)) else (vp_in x1 (ln (rf a0 52)) ∧ (vp_in (gI h (rf a0 52) x1.toNatClampNeg) (ln (rf a0 49)) ∧ (wX12_isUnder (gI h (rf a0 49) (gI h (rf a0 52) x1.toNatClampNeg).toNatClampNeg) x2 h (fun v7 => if v7 = 0 then (Q (-12 : Int32)) else (vp_in x1 (ln (rf a0 52)) ∧ (vp_in (gI h (rf a0 52) x1.toNatClampNeg) (ln (rf a0 49)) ∧ (Q (gI h (rf a0 49) (gI h (rf a0 52) x1.toNatClampNeg).toNatClampNeg)))))))))))))))
set_option maxRecDepth 20000 in
theorem sX12_taken {G : GG} {a0 : Nat} {x1 : Int32} {x2 : Int32} {h : Hp} {Q : Int32 → Prop} (k0 : kd a0 = 12) (hw : wX12_taken a0 x1 x2 h Q) : PI G 2 yX12_taken cX12_taken 3 (some .int) [.ref (G.1 a0), .int x1, .int x2] h Q := by
  refine CO_of [some (.ref (G.1 a0)), some (.int x1), some (.int x2)] (by decide) (Nat.le_of_ble_eq_true rfl) rfl (fun X C => ?_)
  unfold wX12_taken at hw
  refine r_iload_n C dX12_taken_0 rfl ?_
  refine kX12_132 C (sX12_isShelf hw) dX12_taken_1 (Nat.le_of_ble_eq_true rfl) rfl (Nat.le_of_ble_eq_true rfl) (fun v1 hw => ?_)
  refine r_if_eq 17 C dX12_taken_4 (by decide) (fun hc => ?_) (fun hc => ?_)
  · replace hw := it_t hc hw
    refine r_iconst (-1) C dX12_taken_17 (by decide) ?_
    exact r_iret C dX12_taken_18 ⟨_, rfl, rfl, hw⟩
  · replace hw := it_f hc hw
    refine r_iload_n C dX12_taken_7 rfl ?_
    refine r_iconst (0) C dX12_taken_8 (by decide) ?_
    refine r_bipush (7) C dX12_taken_9 (by decide) ?_
    refine kX12_114 C (sX12_in hw) dX12_taken_11 (Nat.le_of_ble_eq_true rfl) rfl (Nat.le_of_ble_eq_true rfl) (fun v2 hw => ?_)
    refine r_if_ne 19 C dX12_taken_14 (by decide) (fun hc => ?_) (fun hc => ?_)
    · replace hw := it_f hc hw
      refine r_aload_n C dX12_taken_19 rfl ?_
      refine gX12_94 C (k0) dX12_taken_20 ?_
      refine r_iload_n C dX12_taken_23 rfl ?_
      obtain ⟨hi3, hw⟩ := hw
      refine r_iald C (kr12_52 (k0)) hi3 dX12_taken_24 ?_
      refine r_iconst (-1) C dX12_taken_25 (by decide) ?_
      refine r_icmp_ne 32 C dX12_taken_26 (by decide) (fun hc => ?_) (fun hc => ?_)
      · replace hw := it_f hc hw
        refine r_aload_n C dX12_taken_32 rfl ?_
        refine gX12_94 C (k0) dX12_taken_33 ?_
        refine r_iload_n C dX12_taken_36 rfl ?_
        obtain ⟨hi4, hw⟩ := hw
        refine r_iald C (kr12_52 (k0)) hi4 dX12_taken_37 ?_
        refine r_if_lt 73 C dX12_taken_38 (by decide) (fun hc => ?_) (fun hc => ?_)
        · replace hw := it_t hc hw
          refine r_bipush (-12) C dX12_taken_73 (by decide) ?_
          exact r_iret C dX12_taken_75 ⟨_, rfl, rfl, hw⟩
        · replace hw := it_f hc hw
          refine r_aload_n C dX12_taken_41 rfl ?_
          refine gX12_88 C (k0) dX12_taken_42 ?_
          refine r_aload_n C dX12_taken_45 rfl ?_
          refine gX12_94 C (k0) dX12_taken_46 ?_
          refine r_iload_n C dX12_taken_49 rfl ?_
          obtain ⟨hi5, hw⟩ := hw
          refine r_iald C (kr12_52 (k0)) hi5 dX12_taken_50 ?_
          obtain ⟨hi6, hw⟩ := hw
          refine r_iald C (kr12_49 (k0)) hi6 dX12_taken_51 ?_
          refine r_iload_n C dX12_taken_52 rfl ?_
          refine kX12_377 C (sX12_isUnder hw) dX12_taken_53 (Nat.le_of_ble_eq_true rfl) rfl (Nat.le_of_ble_eq_true rfl) (fun v7 hw => ?_)
          refine r_if_eq 73 C dX12_taken_56 (by decide) (fun hc => ?_) (fun hc => ?_)
          · replace hw := it_t hc hw
            refine r_bipush (-12) C dX12_taken_73 (by decide) ?_
            exact r_iret C dX12_taken_75 ⟨_, rfl, rfl, hw⟩
          · replace hw := it_f hc hw
            refine r_aload_n C dX12_taken_59 rfl ?_
            refine gX12_88 C (k0) dX12_taken_60 ?_
            refine r_aload_n C dX12_taken_63 rfl ?_
            refine gX12_94 C (k0) dX12_taken_64 ?_
            refine r_iload_n C dX12_taken_67 rfl ?_
            obtain ⟨hi8, hw⟩ := hw
            refine r_iald C (kr12_52 (k0)) hi8 dX12_taken_68 ?_
            obtain ⟨hi9, hw⟩ := hw
            refine r_iald C (kr12_49 (k0)) hi9 dX12_taken_69 ?_
            refine r_goto 75 C dX12_taken_70 (by decide) ?_
            exact r_iret C dX12_taken_75 ⟨_, rfl, rfl, hw⟩
      · replace hw := it_t hc hw
        refine r_bipush (-11) C dX12_taken_29 (by decide) ?_
        exact r_iret C dX12_taken_31 ⟨_, rfl, rfl, hw⟩
    · replace hw := it_t hc hw
      refine r_iconst (-1) C dX12_taken_17 (by decide) ?_
      exact r_iret C dX12_taken_18 ⟨_, rfl, rfl, hw⟩
