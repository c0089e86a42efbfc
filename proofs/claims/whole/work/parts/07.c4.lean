def wX10_isBook (a0 : Nat) (h : Hp) (Q : Int32 → Prop) : Prop :=
  if (gI h a0 2) = 0 then (Q (1 : Int32)) else (Q (0 : Int32))
set_option maxRecDepth 20000 in
theorem sX10_isBook {G : GG} {a0 : Nat} {h : Hp} {Q : Int32 → Prop} (k0 : kd a0 = 10) (hw : wX10_isBook a0 h Q) : PI G 0 yX10_isBook cX10_isBook 1 (some .boolean) [.ref (G.1 a0)] h Q := by
  refine CO_of [some (.ref (G.1 a0))] (by decide) (Nat.le_of_ble_eq_true rfl) rfl (fun X C => ?_)
  unfold wX10_isBook at hw
  refine r_aload_n C dX10_isBook_0 rfl ?_
  refine gX10_19 C (k0) dX10_isBook_1 ?_
  refine r_if_ne 11 C dX10_isBook_4 (by decide) (fun hc => ?_) (fun hc => ?_)
  · replace hw := it_f hc hw
    refine r_iconst (0) C dX10_isBook_11 (by decide) ?_
    exact r_zret C dX10_isBook_12 rfl ⟨_, rfl, rfl, hw⟩
  · replace hw := it_t hc hw
    refine r_iconst (1) C dX10_isBook_7 (by decide) ?_
    refine r_goto 12 C dX10_isBook_8 (by decide) ?_
    exact r_zret C dX10_isBook_12 rfl ⟨_, rfl, rfl, hw⟩
def wX10_holdBody (a0 : Nat) (x1 : Int32) (h : Hp) (Q : Hp → Prop) : Prop :=
  ∀ h1 : Hp, h1 = sI h a0 1 x1 → (∀ h2 : Hp, h2 = sI h1 a0 2 (-1 : Int32) → (∀ h3 : Hp, h3 = sI h2 a0 3 (0 : Int32) → (Q h3)))
set_option maxRecDepth 20000 in
theorem sX10_holdBody {G : GG} {a0 : Nat} {x1 : Int32} {h : Hp} {Q : Hp → Prop} (k0 : kd a0 = 10) (hw : wX10_holdBody a0 x1 h Q) : CV G 0 yX10_holdBody cX10_holdBody 2 none [.ref (G.1 a0), .int x1] h Q := by
  refine CO_of [some (.ref (G.1 a0)), some (.int x1)] (by decide) (Nat.le_of_ble_eq_true rfl) rfl (fun X C => ?_)
  unfold wX10_holdBody at hw
  refine r_aload_n C dX10_holdBody_0 rfl ?_
  refine r_iload_n C dX10_holdBody_1 rfl ?_
  refine pX10_15 C (k0) dX10_holdBody_2 ?_
  refine r_toph (fun h1 eh1 => ?_)
  replace hw := hw h1 eh1
  refine r_aload_n C dX10_holdBody_5 rfl ?_
  refine r_iconst (-1) C dX10_holdBody_6 (by decide) ?_
  refine pX10_19 C (k0) dX10_holdBody_7 ?_
  refine r_toph (fun h2 eh2 => ?_)
  replace hw := hw h2 eh2
  refine r_aload_n C dX10_holdBody_10 rfl ?_
  refine r_iconst (0) C dX10_holdBody_11 (by decide) ?_
  refine pX10_26 C (k0) dX10_holdBody_12 ?_
  refine r_toph (fun h3 eh3 => ?_)
  replace hw := hw h3 eh3
  exact r_vret C dX10_holdBody_15 ⟨rfl, hw⟩
def fX10_holdRow_17 (a0 : Nat) (Q : Hp → Prop) (K17 : Int32 → Hp → Prop) (x3 : Int32) (h : Hp) : Prop :=
  if (60 : Int32) ≤ x3 then (Q h) else (vp_in x3 (ln (rf a0 0)) ∧ (∀ h2 : Hp, h2 = sL h (rf a0 0) x3.toNatClampNeg (0 : Int64) → (∀ v3 : Int32, v3 = x3 + (1 : Int32) → (K17 v3 h2))))
def eX10_holdRow_17 (a0 : Nat) (Q : Hp → Prop) (x3 : Int32) (h : Hp) : Prop := ∃ N, lpN (fun (K : Int32 × Hp → Prop) (s : Int32 × Hp) => fX10_holdRow_17 a0 Q (fun x3 h => K (x3, h)) s.1 s.2) N (x3, h)
theorem iX10_holdRow_17 {a0 : Nat} {Q : Hp → Prop} (I : Int32 → Hp → Prop) (μ : Int32 → Hp → Nat) (hs : ∀ (x3 : Int32) (h : Hp), I x3 h → ∀ K : Int32 → Hp → Prop, (∀ (x3' : Int32) (h' : Hp), I x3' h' → μ x3' h' < μ x3 h → K x3' h') → fX10_holdRow_17 a0 Q K x3 h) : ∀ (x3 : Int32) (h : Hp), I x3 h → eX10_holdRow_17 a0 Q x3 h := fun x3 h hI => lp_ind (fun s => I s.1 s.2) (fun s => μ s.1 s.2) (fun s hs' K hK => hs s.1 s.2 hs' _ (fun x3' h' h1 h2 => hK (x3', h') h1 h2)) (x3, h) hI
set_option maxRecDepth 20000 in
theorem tX10_holdRow_17 {G : GG} {X : XX} {a0 : Nat} {x3 : Int32} {h : Hp}  {Q : Hp → Prop} (C : Cx G RX10 cX10_holdRow 4 none 0 0 0 X) (k0 : kd a0 = 10) (hw : eX10_holdRow_17 a0 Q x3 h) : R0 G X 0 0 (ZM G (fun r h' => r = none ∧ Q h') X) 17 [some (.ref (G.1 a0)), none, none, some (.int x3)] [] h := by
  obtain ⟨N, hw⟩ := hw
  induction N generalizing x3 h with
  | zero => exact hw.elim
  | succ N ih =>
    obtain ⟨K17, eK⟩ : ∃ K : Int32 → Hp → Prop, K = (fun x3 h => lpN (fun (K : Int32 × Hp → Prop) (s : Int32 × Hp) => fX10_holdRow_17 a0 Q (fun x3 h => K (x3, h)) s.1 s.2) N (x3, h)) := ⟨_, rfl⟩
    have hw : fX10_holdRow_17 a0 Q (fun x3 h => lpN (fun (K : Int32 × Hp → Prop) (s : Int32 × Hp) => fX10_holdRow_17 a0 Q (fun x3 h => K (x3, h)) s.1 s.2) N (x3, h)) x3 h := hw
    have hK17 : ∀ (x3 : Int32) (h : Hp), K17 x3 h → R0 G X 0 0 (ZM G (fun r h' => r = none ∧ Q h') X) 17 [some (.ref (G.1 a0)), none, none, some (.int x3)] [] h := fun x3 h q => ih (by rw [eK] at q; exact q)
    rw [← eK] at hw
    clear eK ih
    unfold fX10_holdRow_17 at hw
    refine r_iload_n C dX10_holdRow_17 rfl ?_
    refine r_bipush (60) C dX10_holdRow_18 (by decide) ?_
    refine r_icmp_ge 36 C dX10_holdRow_20 (by decide) (fun hc => ?_) (fun hc => ?_)
    · replace hw := it_t hc hw
      exact r_vret C dX10_holdRow_36 ⟨rfl, hw⟩
    · replace hw := it_f hc hw
      refine r_aload_n C dX10_holdRow_23 rfl ?_
      refine gX10_9 C (k0) dX10_holdRow_24 ?_
      refine r_iload_n C dX10_holdRow_27 rfl ?_
      refine r_lconst (0) C dX10_holdRow_28 (by decide) ?_
      obtain ⟨hi1, hw⟩ := hw
      refine r_last C (kr10_0 (k0)) hi1 dX10_holdRow_29 ?_
      refine r_toph (fun h2 eh2 => ?_)
      replace hw := hw h2 eh2
      obtain ⟨v3, ev3⟩ : ∃ v : Int32, v = x3 + (1 : Int32) := ⟨_, rfl⟩
      replace hw := hw v3 ev3
      refine r_iinc v3 [some (.ref (G.1 a0)), none, none, some (.int v3)] C dX10_holdRow_30 rfl (by rw [ev3]; rfl) rfl rfl ?_
      refine r_goto 17 C dX10_holdRow_33 (by decide) ?_
      exact hK17 _ _ hw
def wX10_holdRow (a0 : Nat) (x1 : Int32) (x2 : Int32) (h : Hp) (Q : Hp → Prop) : Prop :=
  ∀ h1 : Hp, h1 = sI h a0 1 (-1 : Int32) → (∀ h2 : Hp, h2 = sI h1 a0 2 x1 → (∀ h3 : Hp, h3 = sI h2 a0 3 x2 → (eX10_holdRow_17 a0 Q (0 : Int32) h3)))
set_option maxRecDepth 20000 in
theorem sX10_holdRow {G : GG} {a0 : Nat} {x1 : Int32} {x2 : Int32} {h : Hp} {Q : Hp → Prop} (k0 : kd a0 = 10) (hw : wX10_holdRow a0 x1 x2 h Q) : CV G 0 yX10_holdRow cX10_holdRow 4 none [.ref (G.1 a0), .int x1, .int x2] h Q := by
  refine CO_of [some (.ref (G.1 a0)), some (.int x1), some (.int x2), none] (by decide) (Nat.le_of_ble_eq_true rfl) rfl (fun X C => ?_)
  unfold wX10_holdRow at hw
  refine r_aload_n C dX10_holdRow_0 rfl ?_
  refine r_iconst (-1) C dX10_holdRow_1 (by decide) ?_
  refine pX10_15 C (k0) dX10_holdRow_2 ?_
  refine r_toph (fun h1 eh1 => ?_)
  replace hw := hw h1 eh1
  refine r_aload_n C dX10_holdRow_5 rfl ?_
  refine r_iload_n C dX10_holdRow_6 rfl ?_
  refine pX10_19 C (k0) dX10_holdRow_7 ?_
  refine r_toph (fun h2 eh2 => ?_)
  replace hw := hw h2 eh2
  refine r_aload_n C dX10_holdRow_10 rfl ?_
  refine r_iload_n C dX10_holdRow_11 rfl ?_
  refine pX10_26 C (k0) dX10_holdRow_12 ?_
  refine r_toph (fun h3 eh3 => ?_)
  replace hw := hw h3 eh3
  refine r_iconst (0) C dX10_holdRow_15 (by decide) ?_
  refine r_istore_n [some (.ref (G.1 a0)), some (.int x1), some (.int x2), some (.int (0 : Int32))] C dX10_holdRow_16 (Nat.le_of_ble_eq_true rfl) rfl rfl ?_
  refine r_weak [some (.ref (G.1 a0)), none, none, some (.int (0 : Int32))] (lw_k (lw_d (lw_d (lw_k (lw_n))))) ?_
  exact tX10_holdRow_17 C (k0) hw
def wX10_hasPlaces (a0 : Nat) (x1 : Int32) (x2 : Int32) (h : Hp) (Q : Int32 → Prop) : Prop :=
  if x1 < 0 then (Q (0 : Int32)) else (if x2 < 0 then (Q (0 : Int32)) else (if 0 < (lg_cmp x1.toInt64 ((gI h a0 3).toInt64 - x2.toInt64)) then (Q (0 : Int32)) else (Q (1 : Int32))))
set_option maxRecDepth 20000 in
theorem sX10_hasPlaces {G : GG} {a0 : Nat} {x1 : Int32} {x2 : Int32} {h : Hp} {Q : Int32 → Prop} (k0 : kd a0 = 10) (hw : wX10_hasPlaces a0 x1 x2 h Q) : PI G 0 yX10_hasPlaces cX10_hasPlaces 3 (some .boolean) [.ref (G.1 a0), .int x1, .int x2] h Q := by
  refine CO_of [some (.ref (G.1 a0)), some (.int x1), some (.int x2)] (by decide) (Nat.le_of_ble_eq_true rfl) rfl (fun X C => ?_)
  unfold wX10_hasPlaces at hw
  refine r_iload_n C dX10_hasPlaces_0 rfl ?_
  refine r_if_lt 26 C dX10_hasPlaces_1 (by decide) (fun hc => ?_) (fun hc => ?_)
  · replace hw := it_t hc hw
    refine r_iconst (0) C dX10_hasPlaces_26 (by decide) ?_
    exact r_zret C dX10_hasPlaces_27 rfl ⟨_, rfl, rfl, hw⟩
  · replace hw := it_f hc hw
    refine r_iload_n C dX10_hasPlaces_4 rfl ?_
    refine r_if_lt 26 C dX10_hasPlaces_5 (by decide) (fun hc => ?_) (fun hc => ?_)
    · replace hw := it_t hc hw
      refine r_iconst (0) C dX10_hasPlaces_26 (by decide) ?_
      exact r_zret C dX10_hasPlaces_27 rfl ⟨_, rfl, rfl, hw⟩
    · replace hw := it_f hc hw
      refine r_iload_n C dX10_hasPlaces_8 rfl ?_
      refine r_i2l C dX10_hasPlaces_9 ?_
      refine r_aload_n C dX10_hasPlaces_10 rfl ?_
      refine gX10_26 C (k0) dX10_hasPlaces_11 ?_
      refine r_i2l C dX10_hasPlaces_14 ?_
      refine r_iload_n C dX10_hasPlaces_15 rfl ?_
      refine r_i2l C dX10_hasPlaces_16 ?_
      refine r_lsub C dX10_hasPlaces_17 ?_
      refine r_lcmp C dX10_hasPlaces_18 ?_
      refine r_if_gt 26 C dX10_hasPlaces_19 (by decide) (fun hc => ?_) (fun hc => ?_)
      · replace hw := it_t hc hw
        refine r_iconst (0) C dX10_hasPlaces_26 (by decide) ?_
        exact r_zret C dX10_hasPlaces_27 rfl ⟨_, rfl, rfl, hw⟩
      · replace hw := it_f hc hw
        refine r_iconst (1) C dX10_hasPlaces_22 (by decide) ?_
        refine r_goto 27 C dX10_hasPlaces_23 (by decide) ?_
        exact r_zret C dX10_hasPlaces_27 rfl ⟨_, rfl, rfl, hw⟩
def wX10_at (a0 : Nat) (x1 : Int32) (h : Hp) (Q : Int64 → Prop) : Prop :=
  wX10_hasPlaces a0 x1 (1 : Int32) h (fun v1 => if v1 = 0 then (Q (0 : Int64)) else (vp_in x1 (ln (rf a0 0)) ∧ (Q (gL h (rf a0 0) x1.toNatClampNeg))))
set_option maxRecDepth 20000 in
theorem sX10_at {G : GG} {a0 : Nat} {x1 : Int32} {h : Hp} {Q : Int64 → Prop} (k0 : kd a0 = 10) (hw : wX10_at a0 x1 h Q) : PJ G 1 yX10_at cX10_at 2 (some .long) [.ref (G.1 a0), .int x1] h Q := by
  refine CO_of [some (.ref (G.1 a0)), some (.int x1)] (by decide) (Nat.le_of_ble_eq_true rfl) rfl (fun X C => ?_)
  unfold wX10_at at hw
  refine r_aload_n C dX10_at_0 rfl ?_
  refine r_iload_n C dX10_at_1 rfl ?_
  refine r_iconst (1) C dX10_at_2 (by decide) ?_
  refine kX10_29 C (k0) (sX10_hasPlaces (k0) hw) dX10_at_3 (Nat.le_of_ble_eq_true rfl) rfl (Nat.le_of_ble_eq_true rfl) (fun v1 hw => ?_)
  refine r_if_eq 18 C dX10_at_6 (by decide) (fun hc => ?_) (fun hc => ?_)
  · replace hw := it_t hc hw
    refine r_lconst (0) C dX10_at_18 (by decide) ?_
    exact r_lret C dX10_at_19 ⟨_, rfl, rfl, hw⟩
  · replace hw := it_f hc hw
    refine r_aload_n C dX10_at_9 rfl ?_
    refine gX10_9 C (k0) dX10_at_10 ?_
    refine r_iload_n C dX10_at_13 rfl ?_
    obtain ⟨hi2, hw⟩ := hw
    refine r_lald C (kr10_0 (k0)) hi2 dX10_at_14 ?_
    refine r_goto 19 C dX10_at_15 (by decide) ?_
    exact r_lret C dX10_at_19 ⟨_, rfl, rfl, hw⟩
def wX10_kept (a0 : Nat) (x1 : Int64) (h : Hp) (Q : Int64 → Prop) : Prop :=
  ∀ v1 : Int32, v1 = (gI h a0 2) → (if v1 = (0 : Int32) then (Q ((b8 (x1.toInt32)).toInt64)) else (if v1 = (1 : Int32) then (Q ((s16 (x1.toInt32)).toInt64)) else (if v1 = (2 : Int32) then (Q ((x1.toInt32).toInt64)) else (if v1 = (3 : Int32) then (Q x1) else (if v1 = (4 : Int32) then (if (lg_cmp x1 (0 : Int64)) = 0 then (Q (0 : Int64)) else (Q (1 : Int64))) else (Q x1))))))
set_option maxRecDepth 20000 in
theorem sX10_kept {G : GG} {a0 : Nat} {x1 : Int64} {h : Hp} {Q : Int64 → Prop} (k0 : kd a0 = 10) (hw : wX10_kept a0 x1 h Q) : PJ G 0 yX10_kept cX10_kept 3 (some .long) [.ref (G.1 a0), .long x1] h Q := by
  refine CO_of [some (.ref (G.1 a0)), some (.long x1), none] (by decide) (Nat.le_of_ble_eq_true rfl) rfl (fun X C => ?_)
  unfold wX10_kept at hw
  refine r_aload_n C dX10_kept_0 rfl ?_
  refine gX10_19 C (k0) dX10_kept_1 ?_
  refine r_topi (fun v1 ev1 => ?_)
  replace hw := hw v1 ev1
  by_cases hs4_0 : v1 = (0 : Int32)
  · replace hw := it_t hs4_0 hw
    refine r_tabIn (off := 36) (0) 40 C dX10_kept_4 hs4_0 (by decide) ?_
    refine r_lload_n C dX10_kept_40 rfl ?_
    refine r_l2i C dX10_kept_41 ?_
    refine r_i2b C dX10_kept_42 ?_
    refine r_i2l C dX10_kept_43 ?_
    exact r_lret C dX10_kept_44 ⟨_, rfl, rfl, hw⟩
  replace hw := it_f hs4_0 hw
  by_cases hs4_1 : v1 = (1 : Int32)
  · replace hw := it_t hs4_1 hw
    refine r_tabIn (off := 41) (1) 45 C dX10_kept_4 hs4_1 (by decide) ?_
    refine r_lload_n C dX10_kept_45 rfl ?_
    refine r_l2i C dX10_kept_46 ?_
    refine r_i2s C dX10_kept_47 ?_
    refine r_i2l C dX10_kept_48 ?_
    exact r_lret C dX10_kept_49 ⟨_, rfl, rfl, hw⟩
  replace hw := it_f hs4_1 hw
  by_cases hs4_2 : v1 = (2 : Int32)
  · replace hw := it_t hs4_2 hw
    refine r_tabIn (off := 46) (2) 50 C dX10_kept_4 hs4_2 (by decide) ?_
    refine r_lload_n C dX10_kept_50 rfl ?_
    refine r_l2i C dX10_kept_51 ?_
    refine r_i2l C dX10_kept_52 ?_
    exact r_lret C dX10_kept_53 ⟨_, rfl, rfl, hw⟩
  replace hw := it_f hs4_2 hw
  by_cases hs4_3 : v1 = (3 : Int32)
  · replace hw := it_t hs4_3 hw
    refine r_tabIn (off := 62) (3) 66 C dX10_kept_4 hs4_3 (by decide) ?_
    refine r_lload_n C dX10_kept_66 rfl ?_
    exact r_lret C dX10_kept_67 ⟨_, rfl, rfl, hw⟩
  replace hw := it_f hs4_3 hw
  by_cases hs4_4 : v1 = (4 : Int32)
  · replace hw := it_t hs4_4 hw
    refine r_tabIn (off := 50) (4) 54 C dX10_kept_4 hs4_4 (by decide) ?_
    refine r_lload_n C dX10_kept_54 rfl ?_
    refine r_lconst (0) C dX10_kept_55 (by decide) ?_
    refine r_lcmp C dX10_kept_56 ?_
    refine r_if_eq 64 C dX10_kept_57 (by decide) (fun hc => ?_) (fun hc => ?_)
    · replace hw := it_t hc hw
      refine r_lconst (0) C dX10_kept_64 (by decide) ?_
      exact r_lret C dX10_kept_65 ⟨_, rfl, rfl, hw⟩
    · replace hw := it_f hc hw
      refine r_lconst (1) C dX10_kept_60 (by decide) ?_
      refine r_goto 65 C dX10_kept_61 (by decide) ?_
      exact r_lret C dX10_kept_65 ⟨_, rfl, rfl, hw⟩
  replace hw := it_f hs4_4 hw
  refine r_tabOut 66 C dX10_kept_4 (by have qhs4_0 := lv_neT (a := 0) hs4_0 (by decide); have qhs4_1 := lv_neT (a := 1) hs4_1 (by decide); have qhs4_2 := lv_neT (a := 2) hs4_2 (by decide); have qhs4_3 := lv_neT (a := 3) hs4_3 (by decide); have qhs4_4 := lv_neT (a := 4) hs4_4 (by decide); omega) (by decide) ?_
  refine r_lload_n C dX10_kept_66 rfl ?_
  exact r_lret C dX10_kept_67 ⟨_, rfl, rfl, hw⟩
def wX10_set (a0 : Nat) (x1 : Int32) (x2 : Int64) (h : Hp) (Q : Hp → Prop) : Prop :=
  wX10_hasPlaces a0 x1 (1 : Int32) h (fun v1 => if v1 = 0 then (Q h) else (wX10_kept a0 x2 h (fun v2 => vp_in x1 (ln (rf a0 0)) ∧ (∀ h4 : Hp, h4 = sL h (rf a0 0) x1.toNatClampNeg v2 → (Q h4)))))
set_option maxRecDepth 20000 in
theorem sX10_set {G : GG} {a0 : Nat} {x1 : Int32} {x2 : Int64} {h : Hp} {Q : Hp → Prop} (k0 : kd a0 = 10) (hw : wX10_set a0 x1 x2 h Q) : CV G 1 yX10_set cX10_set 4 none [.ref (G.1 a0), .int x1, .long x2] h Q := by
  refine CO_of [some (.ref (G.1 a0)), some (.int x1), some (.long x2), none] (by decide) (Nat.le_of_ble_eq_true rfl) rfl (fun X C => ?_)
  unfold wX10_set at hw
  refine r_aload_n C dX10_set_0 rfl ?_
  refine r_iload_n C dX10_set_1 rfl ?_
  refine r_iconst (1) C dX10_set_2 (by decide) ?_
  refine kX10_29 C (k0) (sX10_hasPlaces (k0) hw) dX10_set_3 (Nat.le_of_ble_eq_true rfl) rfl (Nat.le_of_ble_eq_true rfl) (fun v1 hw => ?_)
  refine r_if_eq 20 C dX10_set_6 (by decide) (fun hc => ?_) (fun hc => ?_)
  · replace hw := it_t hc hw
    exact r_vret C dX10_set_20 ⟨rfl, hw⟩
  · replace hw := it_f hc hw
    refine r_aload_n C dX10_set_9 rfl ?_
    refine gX10_9 C (k0) dX10_set_10 ?_
    refine r_iload_n C dX10_set_13 rfl ?_
    refine r_aload_n C dX10_set_14 rfl ?_
    refine r_lload_n C dX10_set_15 rfl ?_
    refine kX10_33 C (k0) (sX10_kept (k0) hw) dX10_set_16 (Nat.le_of_ble_eq_true rfl) rfl (Nat.le_of_ble_eq_true rfl) (fun v2 hw => ?_)
    obtain ⟨hi3, hw⟩ := hw
    refine r_last C (kr10_0 (k0)) hi3 dX10_set_19 ?_
    refine r_toph (fun h4 eh4 => ?_)
    replace hw := hw h4 eh4
    exact r_vret C dX10_set_20 ⟨rfl, hw⟩
def wX11_isNumber (x0 : Int32) (h : Hp) (Q : Int32 → Prop) : Prop :=
  if x0 < (1 : Int32) then (Q (0 : Int32)) else (if (6 : Int32) < x0 then (Q (0 : Int32)) else (Q (1 : Int32)))
set_option maxRecDepth 20000 in
theorem sX11_isNumber {G : GG} {x0 : Int32} {h : Hp} {Q : Int32 → Prop} (hw : wX11_isNumber x0 h Q) : PI G 0 yX11_isNumber cX11_isNumber 1 (some .boolean) [.int x0] h Q := by
  refine CO_of [some (.int x0)] (by decide) (Nat.le_of_ble_eq_true rfl) rfl (fun X C => ?_)
  unfold wX11_isNumber at hw
  refine r_iload_n C dX11_isNumber_0 rfl ?_
  refine r_iconst (1) C dX11_isNumber_1 (by decide) ?_
  refine r_icmp_lt 15 C dX11_isNumber_2 (by decide) (fun hc => ?_) (fun hc => ?_)
  · replace hw := it_t hc hw
    refine r_iconst (0) C dX11_isNumber_15 (by decide) ?_
    exact r_zret C dX11_isNumber_16 rfl ⟨_, rfl, rfl, hw⟩
  · replace hw := it_f hc hw
    refine r_iload_n C dX11_isNumber_5 rfl ?_
    refine r_bipush (6) C dX11_isNumber_6 (by decide) ?_
    refine r_icmp_gt 15 C dX11_isNumber_8 (by decide) (fun hc => ?_) (fun hc => ?_)
    · replace hw := it_t hc hw
      refine r_iconst (0) C dX11_isNumber_15 (by decide) ?_
      exact r_zret C dX11_isNumber_16 rfl ⟨_, rfl, rfl, hw⟩
    · replace hw := it_f hc hw
      refine r_iconst (1) C dX11_isNumber_11 (by decide) ?_
      refine r_goto 16 C dX11_isNumber_12 (by decide) ?_
      exact r_zret C dX11_isNumber_16 rfl ⟨_, rfl, rfl, hw⟩
def wX11_gate (a0 : Nat) (x1 : Int32) (h : Hp) (Q : Int32 → Hp → Prop) : Prop :=
  wX11_isNumber x1 h (fun v1 => if v1 = 0 then (Q (-1 : Int32) h) else (wX4_add (rf a0 0) x1 h (fun v2 h3 => Q v2 h3)))
set_option maxRecDepth 20000 in
theorem sX11_gate {G : GG} {a0 : Nat} {x1 : Int32} {h : Hp} {Q : Int32 → Hp → Prop} (k0 : kd a0 = 11) (hw : wX11_gate a0 x1 h Q) : CI G 1 yX11_gate cX11_gate 2 (some .int) [.ref (G.1 a0), .int x1] h Q := by
  refine CO_of [some (.ref (G.1 a0)), some (.int x1)] (by decide) (Nat.le_of_ble_eq_true rfl) rfl (fun X C => ?_)
  unfold wX11_gate at hw
  refine r_iload_n C dX11_gate_0 rfl ?_
  refine kX11_87 C (sX11_isNumber hw) dX11_gate_1 (Nat.le_of_ble_eq_true rfl) rfl (Nat.le_of_ble_eq_true rfl) (fun v1 hw => ?_)
  refine r_if_ne 9 C dX11_gate_4 (by decide) (fun hc => ?_) (fun hc => ?_)
  · replace hw := it_f hc hw
    refine r_aload_n C dX11_gate_9 rfl ?_
    refine gX11_10 C (k0) dX11_gate_10 ?_
    refine r_iload_n C dX11_gate_13 rfl ?_
    refine kX11_91 C (kr11_0 (k0)) (sX4_add (kr11_0 (k0)) hw) dX11_gate_14 (Nat.le_of_ble_eq_true rfl) rfl (Nat.le_of_ble_eq_true rfl) (fun v2 h3 hw => ?_)
    exact r_iret C dX11_gate_17 ⟨_, rfl, hw⟩
  · replace hw := it_t hc hw
    refine r_iconst (-1) C dX11_gate_7 (by decide) ?_
    exact r_iret C dX11_gate_8 ⟨_, rfl, hw⟩
def wX11_person (a0 : Nat) (x1 : Int32) (x2 : Int32) (h : Hp) (Q : Int32 → Hp → Prop) : Prop :=
  if x1 < 0 then (Q (-1 : Int32) h) else (wX8_fits (x1 / (100 : Int32)) (rm x1 (100 : Int32)) x2 h (fun v1 => if v1 = 0 then (Q (-1 : Int32) h) else (wX8_add (rf a0 1) (x1 / (100 : Int32)) (rm x1 (100 : Int32)) x2 h (fun v2 h3 => Q v2 h3))))
set_option maxRecDepth 20000 in
theorem sX11_person {G : GG} {a0 : Nat} {x1 : Int32} {x2 : Int32} {h : Hp} {Q : Int32 → Hp → Prop} (k0 : kd a0 = 11) (hw : wX11_person a0 x1 x2 h Q) : CI G 2 yX11_person cX11_person 3 (some .int) [.ref (G.1 a0), .int x1, .int x2] h Q := by
  refine CO_of [some (.ref (G.1 a0)), some (.int x1), some (.int x2)] (by decide) (Nat.le_of_ble_eq_true rfl) rfl (fun X C => ?_)
  unfold wX11_person at hw
  refine r_iload_n C dX11_person_0 rfl ?_
  refine r_if_lt 19 C dX11_person_1 (by decide) (fun hc => ?_) (fun hc => ?_)
  · replace hw := it_t hc hw
    refine r_iconst (-1) C dX11_person_19 (by decide) ?_
    exact r_iret C dX11_person_20 ⟨_, rfl, hw⟩
  · replace hw := it_f hc hw
    refine r_iload_n C dX11_person_4 rfl ?_
    refine r_bipush (100) C dX11_person_5 (by decide) ?_
    refine r_idiv C dX11_person_7 (by decide) ?_
    refine r_iload_n C dX11_person_8 rfl ?_
    refine r_bipush (100) C dX11_person_9 (by decide) ?_
    refine r_irem C dX11_person_11 (by decide) ?_
    refine r_iload_n C dX11_person_12 rfl ?_
    refine kX11_95 C (sX8_fits hw) dX11_person_13 (Nat.le_of_ble_eq_true rfl) rfl (Nat.le_of_ble_eq_true rfl) (fun v1 hw => ?_)
    refine r_if_ne 21 C dX11_person_16 (by decide) (fun hc => ?_) (fun hc => ?_)
    · replace hw := it_f hc hw
      refine r_aload_n C dX11_person_21 rfl ?_
      refine gX11_19 C (k0) dX11_person_22 ?_
      refine r_iload_n C dX11_person_25 rfl ?_
      refine r_bipush (100) C dX11_person_26 (by decide) ?_
      refine r_idiv C dX11_person_28 (by decide) ?_
      refine r_iload_n C dX11_person_29 rfl ?_
      refine r_bipush (100) C dX11_person_30 (by decide) ?_
      refine r_irem C dX11_person_32 (by decide) ?_
      refine r_iload_n C dX11_person_33 rfl ?_
      refine kX11_99 C (kr11_1 (k0)) (sX8_add (kr11_1 (k0)) hw) dX11_person_34 (Nat.le_of_ble_eq_true rfl) rfl (Nat.le_of_ble_eq_true rfl) (fun v2 h3 hw => ?_)
      exact r_iret C dX11_person_37 ⟨_, rfl, hw⟩
    · replace hw := it_t hc hw
      refine r_iconst (-1) C dX11_person_19 (by decide) ?_
      exact r_iret C dX11_person_20 ⟨_, rfl, hw⟩
def wX11_isShelf (x0 : Int32) (h : Hp) (Q : Int32 → Prop) : Prop :=
  if x0 < 0 then (Q (0 : Int32)) else (if (6 : Int32) ≤ x0 then (Q (0 : Int32)) else (Q (1 : Int32)))
set_option maxRecDepth 20000 in
theorem sX11_isShelf {G : GG} {x0 : Int32} {h : Hp} {Q : Int32 → Prop} (hw : wX11_isShelf x0 h Q) : PI G 0 yX11_isShelf cX11_isShelf 1 (some .boolean) [.int x0] h Q := by
  refine CO_of [some (.int x0)] (by decide) (Nat.le_of_ble_eq_true rfl) rfl (fun X C => ?_)
  unfold wX11_isShelf at hw
  refine r_iload_n C dX11_isShelf_0 rfl ?_
  refine r_if_lt 14 C dX11_isShelf_1 (by decide) (fun hc => ?_) (fun hc => ?_)
  · replace hw := it_t hc hw
    refine r_iconst (0) C dX11_isShelf_14 (by decide) ?_
    exact r_zret C dX11_isShelf_15 rfl ⟨_, rfl, rfl, hw⟩
  · replace hw := it_f hc hw
    refine r_iload_n C dX11_isShelf_4 rfl ?_
    refine r_bipush (6) C dX11_isShelf_5 (by decide) ?_
    refine r_icmp_ge 14 C dX11_isShelf_7 (by decide) (fun hc => ?_) (fun hc => ?_)
    · replace hw := it_t hc hw
      refine r_iconst (0) C dX11_isShelf_14 (by decide) ?_
      exact r_zret C dX11_isShelf_15 rfl ⟨_, rfl, rfl, hw⟩
    · replace hw := it_f hc hw
      refine r_iconst (1) C dX11_isShelf_10 (by decide) ?_
      refine r_goto 15 C dX11_isShelf_11 (by decide) ?_
      exact r_zret C dX11_isShelf_15 rfl ⟨_, rfl, rfl, hw⟩
def fX11_comeFrom_3 (a0 : Nat) (a1 : Nat) (x2 : Int32) (x3 : Int32) (Q : Int32 → Hp → Prop) (K3 : Int32 → Hp → Prop) (x4 : Int32) (h : Hp) : Prop :=
  if x3 ≤ x4 then (Q x3 h) else (∀ v1 : Int64, v1 = (x2.toInt64 + ((3 : Int64) * x4.toInt64)) → (if (lg_cmp v1 (0 : Int64)) < 0 then (Q x4 h) else (if (lg_cmp (v1 + (2 : Int64)) (gI h a1 3).toInt64) < 0 then (∀ v2 : Int32, v2 = v1.toInt32 → (wX10_at a1 v2 h (fun v3 => ∀ v4 : Int32, v4 = v3.toInt32 → (wX10_at a1 (v2 + (1 : Int32)) h (fun v5 => ∀ v6 : Int32, v6 = v5.toInt32 → (wX10_at a1 (v2 + (2 : Int32)) h (fun v7 => ∀ v8 : Int32, v8 = v7.toInt32 → (wX8_fits v4 v6 v8 h (fun v9 => if v9 = 0 then (Q x4 h) else (wX8_add (rf a0 1) v4 v6 v8 h (fun v10 h11 => if v10 = (-3 : Int32) then (Q x4 h11) else (∀ v12 : Int32, v12 = x4 + (1 : Int32) → (K3 v12 h11))))))))))))) else (Q x4 h))))
def eX11_comeFrom_3 (a0 : Nat) (a1 : Nat) (x2 : Int32) (x3 : Int32) (Q : Int32 → Hp → Prop) (x4 : Int32) (h : Hp) : Prop := ∃ N, lpN (fun (K : Int32 × Hp → Prop) (s : Int32 × Hp) => fX11_comeFrom_3 a0 a1 x2 x3 Q (fun x4 h => K (x4, h)) s.1 s.2) N (x4, h)
theorem iX11_comeFrom_3 {a0 : Nat} {a1 : Nat} {x2 : Int32} {x3 : Int32} {Q : Int32 → Hp → Prop} (I : Int32 → Hp → Prop) (μ : Int32 → Hp → Nat) (hs : ∀ (x4 : Int32) (h : Hp), I x4 h → ∀ K : Int32 → Hp → Prop, (∀ (x4' : Int32) (h' : Hp), I x4' h' → μ x4' h' < μ x4 h → K x4' h') → fX11_comeFrom_3 a0 a1 x2 x3 Q K x4 h) : ∀ (x4 : Int32) (h : Hp), I x4 h → eX11_comeFrom_3 a0 a1 x2 x3 Q x4 h := fun x4 h hI => lp_ind (fun s => I s.1 s.2) (fun s => μ s.1 s.2) (fun s hs' K hK => hs s.1 s.2 hs' _ (fun x4' h' h1 h2 => hK (x4', h') h1 h2)) (x4, h) hI
set_option maxRecDepth 20000 in
theorem tX11_comeFrom_3 {G : GG} {X : XX} {a0 : Nat} {a1 : Nat} {x2 : Int32} {x3 : Int32} {x4 : Int32} {h : Hp}  {Q : Int32 → Hp → Prop} (C : Cx G RX11 cX11_comeFrom 11 (some .int) 2 0 0 X) (k0 : kd a0 = 11) (k1 : kd a1 = 10) (hw : eX11_comeFrom_3 a0 a1 x2 x3 Q x4 h) : R0 G X 0 0 (ZM G (fun r h' => ∃ v, r = some (.int v) ∧ Q v h') X) 3 [some (.ref (G.1 a0)), some (.ref (G.1 a1)), some (.int x2), some (.int x3), some (.int x4), none, none, none, none, none, none] [] h := by
  obtain ⟨N, hw⟩ := hw
  induction N generalizing x4 h with
  | zero => exact hw.elim
  | succ N ih =>
    obtain ⟨K3, eK⟩ : ∃ K : Int32 → Hp → Prop, K = (fun x4 h => lpN (fun (K : Int32 × Hp → Prop) (s : Int32 × Hp) => fX11_comeFrom_3 a0 a1 x2 x3 Q (fun x4 h => K (x4, h)) s.1 s.2) N (x4, h)) := ⟨_, rfl⟩
    have hw : fX11_comeFrom_3 a0 a1 x2 x3 Q (fun x4 h => lpN (fun (K : Int32 × Hp → Prop) (s : Int32 × Hp) => fX11_comeFrom_3 a0 a1 x2 x3 Q (fun x4 h => K (x4, h)) s.1 s.2) N (x4, h)) x4 h := hw
    have hK3 : ∀ (x4 : Int32) (h : Hp), K3 x4 h → R0 G X 0 0 (ZM G (fun r h' => ∃ v, r = some (.int v) ∧ Q v h') X) 3 [some (.ref (G.1 a0)), some (.ref (G.1 a1)), some (.int x2), some (.int x3), some (.int x4), none, none, none, none, none, none] [] h := fun x4 h q => ih (by rw [eK] at q; exact q)
    rw [← eK] at hw
    clear eK ih
    unfold fX11_comeFrom_3 at hw
    refine r_iload C dX11_comeFrom_3 rfl ?_
    refine r_iload_n C dX11_comeFrom_5 rfl ?_
    refine r_icmp_ge 121 C dX11_comeFrom_6 (by decide) (fun hc => ?_) (fun hc => ?_)
    · replace hw := it_t hc hw
      refine r_iload_n C dX11_comeFrom_121 rfl ?_
      exact r_iret C dX11_comeFrom_122 ⟨_, rfl, hw⟩
    · replace hw := it_f hc hw
      refine r_iload_n C dX11_comeFrom_9 rfl ?_
      refine r_i2l C dX11_comeFrom_10 ?_
      refine r_ldc2_w (3) C wd505 dX11_comeFrom_11 ?_
      refine r_iload C dX11_comeFrom_14 rfl ?_
      refine r_i2l C dX11_comeFrom_16 ?_
      refine r_lmul C dX11_comeFrom_17 ?_
      refine r_ladd C dX11_comeFrom_18 ?_
      refine r_topl (fun v1 ev1 => ?_)
      replace hw := hw v1 ev1
      refine r_lstore [some (.ref (G.1 a0)), some (.ref (G.1 a1)), some (.int x2), some (.int x3), some (.int x4), some (.long v1), none, none, none, none, none] C dX11_comeFrom_19 (Nat.le_of_ble_eq_true rfl) rfl rfl ?_
      refine r_lload C dX11_comeFrom_21 rfl ?_
      refine r_lconst (0) C dX11_comeFrom_23 (by decide) ?_
      refine r_lcmp C dX11_comeFrom_24 ?_
      refine r_if_lt 43 C dX11_comeFrom_25 (by decide) (fun hc => ?_) (fun hc => ?_)
      · replace hw := it_t hc hw
        refine r_iload C dX11_comeFrom_43 rfl ?_
        exact r_iret C dX11_comeFrom_45 ⟨_, rfl, hw⟩
      · replace hw := it_f hc hw
        refine r_lload C dX11_comeFrom_28 rfl ?_
        refine r_ldc2_w (2) C wd506 dX11_comeFrom_30 ?_
        refine r_ladd C dX11_comeFrom_33 ?_
        refine r_aload_n C dX11_comeFrom_34 rfl ?_
        refine gX11_120 C (k1) dX11_comeFrom_35 ?_
        refine r_i2l C dX11_comeFrom_38 ?_
        refine r_lcmp C dX11_comeFrom_39 ?_
        refine r_if_lt 46 C dX11_comeFrom_40 (by decide) (fun hc => ?_) (fun hc => ?_)
        · replace hw := it_t hc hw
          refine r_lload C dX11_comeFrom_46 rfl ?_
          refine r_l2i C dX11_comeFrom_48 ?_
          refine r_topi (fun v2 ev2 => ?_)
          replace hw := hw v2 ev2
          refine r_istore [some (.ref (G.1 a0)), some (.ref (G.1 a1)), some (.int x2), some (.int x3), some (.int x4), some (.long v1), none, some (.int v2), none, none, none] C dX11_comeFrom_49 (Nat.le_of_ble_eq_true rfl) rfl rfl ?_
          refine r_aload_n C dX11_comeFrom_51 rfl ?_
          refine r_iload C dX11_comeFrom_52 rfl ?_
          refine kX11_124 C (k1) (sX10_at (k1) hw) dX11_comeFrom_54 (Nat.le_of_ble_eq_true rfl) rfl (Nat.le_of_ble_eq_true rfl) (fun v3 hw => ?_)
          refine r_l2i C dX11_comeFrom_57 ?_
          refine r_topi (fun v4 ev4 => ?_)
          replace hw := hw v4 ev4
          refine r_istore [some (.ref (G.1 a0)), some (.ref (G.1 a1)), some (.int x2), some (.int x3), some (.int x4), some (.long v1), none, some (.int v2), some (.int v4), none, none] C dX11_comeFrom_58 (Nat.le_of_ble_eq_true rfl) rfl rfl ?_
          refine r_aload_n C dX11_comeFrom_60 rfl ?_
          refine r_iload C dX11_comeFrom_61 rfl ?_
          refine r_iconst (1) C dX11_comeFrom_63 (by decide) ?_
          refine r_iadd C dX11_comeFrom_64 ?_
          refine kX11_124 C (k1) (sX10_at (k1) hw) dX11_comeFrom_65 (Nat.le_of_ble_eq_true rfl) rfl (Nat.le_of_ble_eq_true rfl) (fun v5 hw => ?_)
          refine r_l2i C dX11_comeFrom_68 ?_
          refine r_topi (fun v6 ev6 => ?_)
          replace hw := hw v6 ev6
          refine r_istore [some (.ref (G.1 a0)), some (.ref (G.1 a1)), some (.int x2), some (.int x3), some (.int x4), some (.long v1), none, some (.int v2), some (.int v4), some (.int v6), none] C dX11_comeFrom_69 (Nat.le_of_ble_eq_true rfl) rfl rfl ?_
          refine r_aload_n C dX11_comeFrom_71 rfl ?_
          refine r_iload C dX11_comeFrom_72 rfl ?_
          refine r_iconst (2) C dX11_comeFrom_74 (by decide) ?_
          refine r_iadd C dX11_comeFrom_75 ?_
          refine kX11_124 C (k1) (sX10_at (k1) hw) dX11_comeFrom_76 (Nat.le_of_ble_eq_true rfl) rfl (Nat.le_of_ble_eq_true rfl) (fun v7 hw => ?_)
          refine r_l2i C dX11_comeFrom_79 ?_
          refine r_topi (fun v8 ev8 => ?_)
          replace hw := hw v8 ev8
          refine r_istore [some (.ref (G.1 a0)), some (.ref (G.1 a1)), some (.int x2), some (.int x3), some (.int x4), some (.long v1), none, some (.int v2), some (.int v4), some (.int v6), some (.int v8)] C dX11_comeFrom_80 (Nat.le_of_ble_eq_true rfl) rfl rfl ?_
          refine r_iload C dX11_comeFrom_82 rfl ?_
          refine r_iload C dX11_comeFrom_84 rfl ?_
          refine r_iload C dX11_comeFrom_86 rfl ?_
          refine kX11_95 C (sX8_fits hw) dX11_comeFrom_88 (Nat.le_of_ble_eq_true rfl) rfl (Nat.le_of_ble_eq_true rfl) (fun v9 hw => ?_)
          refine r_if_eq 112 C dX11_comeFrom_91 (by decide) (fun hc => ?_) (fun hc => ?_)
          · replace hw := it_t hc hw
            refine r_iload C dX11_comeFrom_112 rfl ?_
            exact r_iret C dX11_comeFrom_114 ⟨_, rfl, hw⟩
          · replace hw := it_f hc hw
            refine r_aload_n C dX11_comeFrom_94 rfl ?_
            refine gX11_19 C (k0) dX11_comeFrom_95 ?_
            refine r_iload C dX11_comeFrom_98 rfl ?_
            refine r_iload C dX11_comeFrom_100 rfl ?_
            refine r_iload C dX11_comeFrom_102 rfl ?_
            refine kX11_99 C (kr11_1 (k0)) (sX8_add (kr11_1 (k0)) hw) dX11_comeFrom_104 (Nat.le_of_ble_eq_true rfl) rfl (Nat.le_of_ble_eq_true rfl) (fun v10 h11 hw => ?_)
            refine r_bipush (-3) C dX11_comeFrom_107 (by decide) ?_
            refine r_icmp_ne 115 C dX11_comeFrom_109 (by decide) (fun hc => ?_) (fun hc => ?_)
            · replace hw := it_f hc hw
              obtain ⟨v12, ev12⟩ : ∃ v : Int32, v = x4 + (1 : Int32) := ⟨_, rfl⟩
              replace hw := hw v12 ev12
              refine r_iinc v12 [some (.ref (G.1 a0)), some (.ref (G.1 a1)), some (.int x2), some (.int x3), some (.int v12), some (.long v1), none, some (.int v2), some (.int v4), some (.int v6), some (.int v8)] C dX11_comeFrom_115 rfl (by rw [ev12]; rfl) rfl rfl ?_
              refine r_goto 3 C dX11_comeFrom_118 (by decide) ?_
              refine r_weak [some (.ref (G.1 a0)), some (.ref (G.1 a1)), some (.int x2), some (.int x3), some (.int v12), none, none, none, none, none, none] (lw_k (lw_k (lw_k (lw_k (lw_k (lw_d (lw_k (lw_d (lw_d (lw_d (lw_d (lw_n)))))))))))) ?_
              exact hK3 _ _ hw
            · replace hw := it_t hc hw
              refine r_iload C dX11_comeFrom_112 rfl ?_
              exact r_iret C dX11_comeFrom_114 ⟨_, rfl, hw⟩
        · replace hw := it_f hc hw
          refine r_iload C dX11_comeFrom_43 rfl ?_
          exact r_iret C dX11_comeFrom_45 ⟨_, rfl, hw⟩
def wX11_comeFrom (a0 : Nat) (a1 : Nat) (x2 : Int32) (x3 : Int32) (h : Hp) (Q : Int32 → Hp → Prop) : Prop :=
  eX11_comeFrom_3 a0 a1 x2 x3 Q (0 : Int32) h
set_option maxRecDepth 20000 in
theorem sX11_comeFrom {G : GG} {a0 : Nat} {a1 : Nat} {x2 : Int32} {x3 : Int32} {h : Hp} {Q : Int32 → Hp → Prop} (k0 : kd a0 = 11) (k1 : kd a1 = 10) (hw : wX11_comeFrom a0 a1 x2 x3 h Q) : CI G 2 yX11_comeFrom cX11_comeFrom 11 (some .int) [.ref (G.1 a0), .ref (G.1 a1), .int x2, .int x3] h Q := by
  refine CO_of [some (.ref (G.1 a0)), some (.ref (G.1 a1)), some (.int x2), some (.int x3), none, none, none, none, none, none, none] (by decide) (Nat.le_of_ble_eq_true rfl) rfl (fun X C => ?_)
  unfold wX11_comeFrom at hw
  refine r_iconst (0) C dX11_comeFrom_0 (by decide) ?_
  refine r_istore [some (.ref (G.1 a0)), some (.ref (G.1 a1)), some (.int x2), some (.int x3), some (.int (0 : Int32)), none, none, none, none, none, none] C dX11_comeFrom_1 (Nat.le_of_ble_eq_true rfl) rfl rfl ?_
  exact tX11_comeFrom_3 C (k0) (k1) hw
def wX11_people (a0 : Nat) (x1 : Int32) (x2 : Int32) (x3 : Int32) (h : Hp) (Q : Int32 → Hp → Prop) : Prop :=
  wX11_isShelf x1 h (fun v1 => if v1 = 0 then (Q (-1 : Int32) h) else (if x3 < (1 : Int32) then (Q (-1 : Int32) h) else (if x3 ≤ (12 : Int32) then (vp_in x1 (ln (rf a0 13)) ∧ (wX10_isEmpty (rf (rf a0 13) x1.toNatClampNeg) h (fun v3 => if v3 = 0 then (wX10_isBook (rf (rf a0 13) x1.toNatClampNeg) h (fun v4 => if v4 = 0 then (Q (-12 : Int32) h) else (wX11_comeFrom a0 (rf (rf a0 13) x1.toNatClampNeg) x2 x3 h (fun v5 h6 => Q v5 h6)))) else (Q (0 : Int32) h)))) else (Q (-1 : Int32) h))))
set_option maxRecDepth 20000 in
theorem sX11_people {G : GG} {a0 : Nat} {x1 : Int32} {x2 : Int32} {x3 : Int32} {h : Hp} {Q : Int32 → Hp → Prop} (k0 : kd a0 = 11) (hw : wX11_people a0 x1 x2 x3 h Q) : CI G 3 yX11_people cX11_people 5 (some .int) [.ref (G.1 a0), .int x1, .int x2, .int x3] h Q := by
  refine CO_of [some (.ref (G.1 a0)), some (.int x1), some (.int x2), some (.int x3), none] (by decide) (Nat.le_of_ble_eq_true rfl) rfl (fun X C => ?_)
  unfold wX11_people at hw
  refine r_iload_n C dX11_people_0 rfl ?_
  refine kX11_102 C (sX11_isShelf hw) dX11_people_1 (Nat.le_of_ble_eq_true rfl) rfl (Nat.le_of_ble_eq_true rfl) (fun v1 hw => ?_)
  refine r_if_eq 18 C dX11_people_4 (by decide) (fun hc => ?_) (fun hc => ?_)
  · replace hw := it_t hc hw
    refine r_iconst (-1) C dX11_people_18 (by decide) ?_
    exact r_iret C dX11_people_19 ⟨_, rfl, hw⟩
  · replace hw := it_f hc hw
    refine r_iload_n C dX11_people_7 rfl ?_
    refine r_iconst (1) C dX11_people_8 (by decide) ?_
    refine r_icmp_lt 18 C dX11_people_9 (by decide) (fun hc => ?_) (fun hc => ?_)
    · replace hw := it_t hc hw
      refine r_iconst (-1) C dX11_people_18 (by decide) ?_
      exact r_iret C dX11_people_19 ⟨_, rfl, hw⟩
    · replace hw := it_f hc hw
      refine r_iload_n C dX11_people_12 rfl ?_
      refine r_bipush (12) C dX11_people_13 (by decide) ?_
      refine r_icmp_le 20 C dX11_people_15 (by decide) (fun hc => ?_) (fun hc => ?_)
      · replace hw := it_t hc hw
        refine r_aload_n C dX11_people_20 rfl ?_
        refine gX11_82 C (k0) dX11_people_21 ?_
        refine r_iload_n C dX11_people_24 rfl ?_
        obtain ⟨hi2, hw⟩ := hw
        refine r_aald C (kr11_13 (k0)) hi2 dX11_people_25 ?_
        refine r_astore [some (.ref (G.1 a0)), some (.int x1), some (.int x2), some (.int x3), some (.ref (G.1 (rf (rf a0 13) x1.toNatClampNeg)))] C dX11_people_26 (Nat.le_of_ble_eq_true rfl) rfl rfl ?_
        refine r_aload C dX11_people_28 rfl ?_
        refine kX11_105 C (kr25 (kr11_13 (k0)) hi2) (sX10_isEmpty (kr25 (kr11_13 (k0)) hi2) hw) dX11_people_30 (Nat.le_of_ble_eq_true rfl) rfl (Nat.le_of_ble_eq_true rfl) (fun v3 hw => ?_)
        refine r_if_eq 38 C dX11_people_33 (by decide) (fun hc => ?_) (fun hc => ?_)
        · replace hw := it_t hc hw
          refine r_aload C dX11_people_38 rfl ?_
          refine kX11_109 C (kr25 (kr11_13 (k0)) hi2) (sX10_isBook (kr25 (kr11_13 (k0)) hi2) hw) dX11_people_40 (Nat.le_of_ble_eq_true rfl) rfl (Nat.le_of_ble_eq_true rfl) (fun v4 hw => ?_)
          refine r_if_eq 57 C dX11_people_43 (by decide) (fun hc => ?_) (fun hc => ?_)
          · replace hw := it_t hc hw
            refine r_bipush (-12) C dX11_people_57 (by decide) ?_
            exact r_iret C dX11_people_59 ⟨_, rfl, hw⟩
          · replace hw := it_f hc hw
            refine r_aload_n C dX11_people_46 rfl ?_
            refine r_aload C dX11_people_47 rfl ?_
            refine r_iload_n C dX11_people_49 rfl ?_
            refine r_iload_n C dX11_people_50 rfl ?_
            refine kX11_112 C (k0) (sX11_comeFrom (k0) (kr25 (kr11_13 (k0)) hi2) hw) dX11_people_51 (Nat.le_of_ble_eq_true rfl) rfl (Nat.le_of_ble_eq_true rfl) (fun v5 h6 hw => ?_)
            refine r_goto 59 C dX11_people_54 (by decide) ?_
            exact r_iret C dX11_people_59 ⟨_, rfl, hw⟩
        · replace hw := it_f hc hw
          refine r_iconst (0) C dX11_people_36 (by decide) ?_
          exact r_iret C dX11_people_37 ⟨_, rfl, hw⟩
      · replace hw := it_f hc hw
        refine r_iconst (-1) C dX11_people_18 (by decide) ?_
        exact r_iret C dX11_people_19 ⟨_, rfl, hw⟩
def wX11_canBecome (a0 : Nat) (x1 : Int32) (x2 : Int32) (x3 : Int32) (h : Hp) (Q : Int32 → Prop) : Prop :=
  if x2 = (0 : Int32) then (wX8_has (rf a0 1) x1 h (fun v1 => if v1 = 0 then (Q (0 : Int32)) else (if x3 < (1 : Int32) then (Q (0 : Int32)) else (if (9 : Int32) < x3 then (Q (0 : Int32)) else (Q (1 : Int32)))))) else (if x2 = (1 : Int32) then (wX8_has (rf a0 1) x1 h (fun v2 => if v2 = 0 then (Q (0 : Int32)) else (vp_in x1 (ln (rf (rf a0 1) 0)) ∧ (if x3 ≤ (gI h (rf (rf a0 1) 0) x1.toNatClampNeg) then (Q (0 : Int32)) else (if (60 : Int32) < x3 then (Q (0 : Int32)) else (Q (1 : Int32))))))) else (if x2 = (2 : Int32) then (wX4_has (rf a0 0) x1 h (fun v4 => if v4 = 0 then (Q (0 : Int32)) else (wX11_isNumber x3 h (fun v5 => if v5 = 0 then (Q (0 : Int32)) else (Q (1 : Int32)))))) else (Q (0 : Int32))))
set_option maxRecDepth 20000 in
theorem sX11_canBecome {G : GG} {a0 : Nat} {x1 : Int32} {x2 : Int32} {x3 : Int32} {h : Hp} {Q : Int32 → Prop} (k0 : kd a0 = 11) (hw : wX11_canBecome a0 x1 x2 x3 h Q) : PI G 1 yX11_canBecome cX11_canBecome 4 (some .boolean) [.ref (G.1 a0), .int x1, .int x2, .int x3] h Q := by
  refine CO_of [some (.ref (G.1 a0)), some (.int x1), some (.int x2), some (.int x3)] (by decide) (Nat.le_of_ble_eq_true rfl) rfl (fun X C => ?_)
  unfold wX11_canBecome at hw
  refine r_iload_n C dX11_canBecome_0 rfl ?_
  by_cases hs1_0 : x2 = (0 : Int32)
  · replace hw := it_t hs1_0 hw
    refine r_tabIn (off := 27) (0) 28 C dX11_canBecome_1 hs1_0 (by decide) ?_
    refine r_aload_n C dX11_canBecome_28 rfl ?_
    refine gX11_19 C (k0) dX11_canBecome_29 ?_
    refine r_iload_n C dX11_canBecome_32 rfl ?_
    refine kX11_137 C (kr11_1 (k0)) (sX8_has (kr11_1 (k0)) hw) dX11_canBecome_33 (Nat.le_of_ble_eq_true rfl) rfl (Nat.le_of_ble_eq_true rfl) (fun v1 hw => ?_)
    refine r_if_eq 54 C dX11_canBecome_36 (by decide) (fun hc => ?_) (fun hc => ?_)
    · replace hw := it_t hc hw
      refine r_iconst (0) C dX11_canBecome_54 (by decide) ?_
      exact r_zret C dX11_canBecome_55 rfl ⟨_, rfl, rfl, hw⟩
    · replace hw := it_f hc hw
      refine r_iload_n C dX11_canBecome_39 rfl ?_
      refine r_iconst (1) C dX11_canBecome_40 (by decide) ?_
      refine r_icmp_lt 54 C dX11_canBecome_41 (by decide) (fun hc => ?_) (fun hc => ?_)
      · replace hw := it_t hc hw
        refine r_iconst (0) C dX11_canBecome_54 (by decide) ?_
        exact r_zret C dX11_canBecome_55 rfl ⟨_, rfl, rfl, hw⟩
      · replace hw := it_f hc hw
        refine r_iload_n C dX11_canBecome_44 rfl ?_
        refine r_bipush (9) C dX11_canBecome_45 (by decide) ?_
        refine r_icmp_gt 54 C dX11_canBecome_47 (by decide) (fun hc => ?_) (fun hc => ?_)
        · replace hw := it_t hc hw
          refine r_iconst (0) C dX11_canBecome_54 (by decide) ?_
          exact r_zret C dX11_canBecome_55 rfl ⟨_, rfl, rfl, hw⟩
        · replace hw := it_f hc hw
          refine r_iconst (1) C dX11_canBecome_50 (by decide) ?_
          refine r_goto 55 C dX11_canBecome_51 (by decide) ?_
          exact r_zret C dX11_canBecome_55 rfl ⟨_, rfl, rfl, hw⟩
  replace hw := it_f hs1_0 hw
  by_cases hs1_1 : x2 = (1 : Int32)
  · replace hw := it_t hs1_1 hw
    refine r_tabIn (off := 55) (1) 56 C dX11_canBecome_1 hs1_1 (by decide) ?_
    refine r_aload_n C dX11_canBecome_56 rfl ?_
    refine gX11_19 C (k0) dX11_canBecome_57 ?_
    refine r_iload_n C dX11_canBecome_60 rfl ?_
    refine kX11_137 C (kr11_1 (k0)) (sX8_has (kr11_1 (k0)) hw) dX11_canBecome_61 (Nat.le_of_ble_eq_true rfl) rfl (Nat.le_of_ble_eq_true rfl) (fun v2 hw => ?_)
    refine r_if_eq 90 C dX11_canBecome_64 (by decide) (fun hc => ?_) (fun hc => ?_)
    · replace hw := it_t hc hw
      refine r_iconst (0) C dX11_canBecome_90 (by decide) ?_
      exact r_zret C dX11_canBecome_91 rfl ⟨_, rfl, rfl, hw⟩
    · replace hw := it_f hc hw
      refine r_iload_n C dX11_canBecome_67 rfl ?_
      refine r_aload_n C dX11_canBecome_68 rfl ?_
      refine gX11_19 C (k0) dX11_canBecome_69 ?_
      refine gX11_140 C (kr11_1 (k0)) dX11_canBecome_72 ?_
      refine r_iload_n C dX11_canBecome_75 rfl ?_
      obtain ⟨hi3, hw⟩ := hw
      refine r_iald C (kr8_0 (kr11_1 (k0))) hi3 dX11_canBecome_76 ?_
      refine r_icmp_le 90 C dX11_canBecome_77 (by decide) (fun hc => ?_) (fun hc => ?_)
      · replace hw := it_t hc hw
        refine r_iconst (0) C dX11_canBecome_90 (by decide) ?_
        exact r_zret C dX11_canBecome_91 rfl ⟨_, rfl, rfl, hw⟩
      · replace hw := it_f hc hw
        refine r_iload_n C dX11_canBecome_80 rfl ?_
        refine r_bipush (60) C dX11_canBecome_81 (by decide) ?_
        refine r_icmp_gt 90 C dX11_canBecome_83 (by decide) (fun hc => ?_) (fun hc => ?_)
        · replace hw := it_t hc hw
          refine r_iconst (0) C dX11_canBecome_90 (by decide) ?_
          exact r_zret C dX11_canBecome_91 rfl ⟨_, rfl, rfl, hw⟩
        · replace hw := it_f hc hw
          refine r_iconst (1) C dX11_canBecome_86 (by decide) ?_
          refine r_goto 91 C dX11_canBecome_87 (by decide) ?_
          exact r_zret C dX11_canBecome_91 rfl ⟨_, rfl, rfl, hw⟩
  replace hw := it_f hs1_1 hw
  by_cases hs1_2 : x2 = (2 : Int32)
  · replace hw := it_t hs1_2 hw
    refine r_tabIn (off := 91) (2) 92 C dX11_canBecome_1 hs1_2 (by decide) ?_
    refine r_aload_n C dX11_canBecome_92 rfl ?_
    refine gX11_10 C (k0) dX11_canBecome_93 ?_
    refine r_iload_n C dX11_canBecome_96 rfl ?_
    refine kX11_143 C (kr11_0 (k0)) (sX4_has (kr11_0 (k0)) hw) dX11_canBecome_97 (Nat.le_of_ble_eq_true rfl) rfl (Nat.le_of_ble_eq_true rfl) (fun v4 hw => ?_)
    refine r_if_eq 114 C dX11_canBecome_100 (by decide) (fun hc => ?_) (fun hc => ?_)
    · replace hw := it_t hc hw
      refine r_iconst (0) C dX11_canBecome_114 (by decide) ?_
      exact r_zret C dX11_canBecome_115 rfl ⟨_, rfl, rfl, hw⟩
    · replace hw := it_f hc hw
      refine r_iload_n C dX11_canBecome_103 rfl ?_
      refine kX11_87 C (sX11_isNumber hw) dX11_canBecome_104 (Nat.le_of_ble_eq_true rfl) rfl (Nat.le_of_ble_eq_true rfl) (fun v5 hw => ?_)
      refine r_if_eq 114 C dX11_canBecome_107 (by decide) (fun hc => ?_) (fun hc => ?_)
      · replace hw := it_t hc hw
        refine r_iconst (0) C dX11_canBecome_114 (by decide) ?_
        exact r_zret C dX11_canBecome_115 rfl ⟨_, rfl, rfl, hw⟩
      · replace hw := it_f hc hw
        refine r_iconst (1) C dX11_canBecome_110 (by decide) ?_
        refine r_goto 115 C dX11_canBecome_111 (by decide) ?_
        exact r_zret C dX11_canBecome_115 rfl ⟨_, rfl, rfl, hw⟩
  replace hw := it_f hs1_2 hw
  refine r_tabOut 116 C dX11_canBecome_1 (by have qhs1_0 := lv_neT (a := 0) hs1_0 (by decide); have qhs1_1 := lv_neT (a := 1) hs1_1 (by decide); have qhs1_2 := lv_neT (a := 2) hs1_2 (by decide); omega) (by decide) ?_
  refine r_iconst (0) C dX11_canBecome_116 (by decide) ?_
  exact r_zret C dX11_canBecome_117 rfl ⟨_, rfl, rfl, hw⟩
def wX11_replace (a0 : Nat) (x1 : Int32) (x2 : Int32) (h : Hp) (Q : Int32 → Hp → Prop) : Prop :=
  vp_in x1 (ln a0) ∧ (∀ v2 : Int32, v2 = (gI h a0 x1.toNatClampNeg) → (vp_in x1 (ln a0) ∧ (∀ h4 : Hp, h4 = sI h a0 x1.toNatClampNeg x2 → (Q v2 h4))))
set_option maxRecDepth 20000 in
theorem sX11_replace {G : GG} {a0 : Nat} {x1 : Int32} {x2 : Int32} {h : Hp} {Q : Int32 → Hp → Prop} (k0 : kd a0 = 20) (hw : wX11_replace a0 x1 x2 h Q) : CI G 0 yX11_replace cX11_replace 4 (some .int) [.ref (G.1 a0), .int x1, .int x2] h Q := by
  refine CO_of [some (.ref (G.1 a0)), some (.int x1), some (.int x2), none] (by decide) (Nat.le_of_ble_eq_true rfl) rfl (fun X C => ?_)
  unfold wX11_replace at hw
  refine r_aload_n C dX11_replace_0 rfl ?_
  refine r_iload_n C dX11_replace_1 rfl ?_
  obtain ⟨hi1, hw⟩ := hw
  refine r_iald C (k0) hi1 dX11_replace_2 ?_
  refine r_topi (fun v2 ev2 => ?_)
  replace hw := hw v2 ev2
  refine r_istore_n [some (.ref (G.1 a0)), some (.int x1), some (.int x2), some (.int v2)] C dX11_replace_3 (Nat.le_of_ble_eq_true rfl) rfl rfl ?_
  refine r_aload_n C dX11_replace_4 rfl ?_
  refine r_iload_n C dX11_replace_5 rfl ?_
  refine r_iload_n C dX11_replace_6 rfl ?_
  obtain ⟨hi3, hw⟩ := hw
  refine r_iast C (k0) hi3 dX11_replace_7 ?_
  refine r_toph (fun h4 eh4 => ?_)
  replace hw := hw h4 eh4
  refine r_iload_n C dX11_replace_8 rfl ?_
  exact r_iret C dX11_replace_9 ⟨_, rfl, hw⟩
def jX11_become_67 (x1 : Int32) (x3 : Int32) (b0 : Nat) (h : Hp) (Q : Int32 → Hp → Prop) : Prop :=
  wX11_replace b0 x1 x3 h (fun v1 h2 => Q v1 h2)
set_option maxRecDepth 20000 in
theorem tX11_become_67 {G : GG} {X : XX} {x1 : Int32} {x3 : Int32} {b0 : Nat} {h : Hp}  {Q : Int32 → Hp → Prop} (C : Cx G RX11 cX11_become 4 (some .int) 1 0 0 X) (kb0 : kd b0 = 20) (hw : jX11_become_67 x1 x3 b0 h Q) : R0 G X 0 0 (ZM G (fun r h' => ∃ v, r = some (.int v) ∧ Q v h') X) 67 [none, some (.int x1), none, some (.int x3)] [.ref (G.1 b0)] h := by
  unfold jX11_become_67 at hw
  refine r_iload_n C dX11_become_67 rfl ?_
  refine r_iload_n C dX11_become_68 rfl ?_
  refine kX11_147 C (sX11_replace (kb0) hw) dX11_become_69 (Nat.le_of_ble_eq_true rfl) rfl (Nat.le_of_ble_eq_true rfl) (fun v1 h2 hw => ?_)
  exact r_iret C dX11_become_72 ⟨_, rfl, hw⟩
def wX11_become (a0 : Nat) (x1 : Int32) (x2 : Int32) (x3 : Int32) (h : Hp) (Q : Int32 → Hp → Prop) : Prop :=
  if x2 = (2 : Int32) then (wX4_has (rf a0 0) x1 h (fun v2 => if v2 = 0 then (Q (-1 : Int32) h) else (wX11_replace (rf (rf a0 0) 0) x1 x3 h (fun v3 h4 => Q v3 h4)))) else (wX8_has (rf a0 1) x1 h (fun v1 => if v1 = 0 then (Q (-1 : Int32) h) else (if x2 = 0 then (jX11_become_67 x1 x3 (rf (rf a0 1) 2) h Q) else (jX11_become_67 x1 x3 (rf (rf a0 1) 1) h Q))))
set_option maxRecDepth 20000 in
theorem sX11_become {G : GG} {a0 : Nat} {x1 : Int32} {x2 : Int32} {x3 : Int32} {h : Hp} {Q : Int32 → Hp → Prop} (k0 : kd a0 = 11) (hw : wX11_become a0 x1 x2 x3 h Q) : CI G 1 yX11_become cX11_become 4 (some .int) [.ref (G.1 a0), .int x1, .int x2, .int x3] h Q := by
  refine CO_of [some (.ref (G.1 a0)), some (.int x1), some (.int x2), some (.int x3)] (by decide) (Nat.le_of_ble_eq_true rfl) rfl (fun X C => ?_)
  unfold wX11_become at hw
  refine r_iload_n C dX11_become_0 rfl ?_
  refine r_iconst (2) C dX11_become_1 (by decide) ?_
  refine r_icmp_ne 33 C dX11_become_2 (by decide) (fun hc => ?_) (fun hc => ?_)
  · replace hw := it_f hc hw
    refine r_aload_n C dX11_become_33 rfl ?_
    refine gX11_19 C (k0) dX11_become_34 ?_
    refine r_iload_n C dX11_become_37 rfl ?_
    refine kX11_137 C (kr11_1 (k0)) (sX8_has (kr11_1 (k0)) hw) dX11_become_38 (Nat.le_of_ble_eq_true rfl) rfl (Nat.le_of_ble_eq_true rfl) (fun v1 hw => ?_)
    refine r_if_ne 46 C dX11_become_41 (by decide) (fun hc => ?_) (fun hc => ?_)
    · replace hw := it_f hc hw
      refine r_iload_n C dX11_become_46 rfl ?_
      refine r_if_ne 60 C dX11_become_47 (by decide) (fun hc => ?_) (fun hc => ?_)
      · replace hw := it_f hc hw
        refine r_aload_n C dX11_become_60 rfl ?_
        refine gX11_19 C (k0) dX11_become_61 ?_
        refine gX11_154 C (kr11_1 (k0)) dX11_become_64 ?_
        refine r_weak [none, some (.int x1), none, some (.int x3)] (lw_d (lw_k (lw_d (lw_k (lw_n))))) ?_
        exact tX11_become_67 C (kr8_1 (kr11_1 (k0))) hw
      · replace hw := it_t hc hw
        refine r_aload_n C dX11_become_50 rfl ?_
        refine gX11_19 C (k0) dX11_become_51 ?_
        refine gX11_151 C (kr11_1 (k0)) dX11_become_54 ?_
        refine r_goto 67 C dX11_become_57 (by decide) ?_
        refine r_weak [none, some (.int x1), none, some (.int x3)] (lw_d (lw_k (lw_d (lw_k (lw_n))))) ?_
        exact tX11_become_67 C (kr8_2 (kr11_1 (k0))) hw
    · replace hw := it_t hc hw
      refine r_iconst (-1) C dX11_become_44 (by decide) ?_
      exact r_iret C dX11_become_45 ⟨_, rfl, hw⟩
  · replace hw := it_t hc hw
    refine r_aload_n C dX11_become_5 rfl ?_
    refine gX11_10 C (k0) dX11_become_6 ?_
    refine r_iload_n C dX11_become_9 rfl ?_
    refine kX11_143 C (kr11_0 (k0)) (sX4_has (kr11_0 (k0)) hw) dX11_become_10 (Nat.le_of_ble_eq_true rfl) rfl (Nat.le_of_ble_eq_true rfl) (fun v2 hw => ?_)
    refine r_if_eq 31 C dX11_become_13 (by decide) (fun hc => ?_) (fun hc => ?_)
    · replace hw := it_t hc hw
      refine r_iconst (-1) C dX11_become_31 (by decide) ?_
      exact r_iret C dX11_become_32 ⟨_, rfl, hw⟩
    · replace hw := it_f hc hw
      refine r_aload_n C dX11_become_16 rfl ?_
      refine gX11_10 C (k0) dX11_become_17 ?_
      refine gX11_144 C (kr11_0 (k0)) dX11_become_20 ?_
      refine r_iload_n C dX11_become_23 rfl ?_
      refine r_iload_n C dX11_become_24 rfl ?_
      refine kX11_147 C (sX11_replace (kr4_0 (kr11_0 (k0))) hw) dX11_become_25 (Nat.le_of_ble_eq_true rfl) rfl (Nat.le_of_ble_eq_true rfl) (fun v3 h4 hw => ?_)
      refine r_goto 32 C dX11_become_28 (by decide) ?_
      exact r_iret C dX11_become_32 ⟨_, rfl, hw⟩
def wX11_mend (a0 : Nat) (x1 : Int32) (x2 : Int32) (x3 : Int32) (h : Hp) (Q : Int32 → Hp → Prop) : Prop :=
  wX11_canBecome a0 x1 x2 x3 h (fun v1 => if v1 = 0 then (Q (-1 : Int32) h) else (wX11_become a0 x1 x2 x3 h (fun v2 h3 => if v2 = x3 then (Q v2 h3) else (wX1_add (rf a0 10) x1 x2 v2 x3 h3 (fun h5 => Q v2 h5)))))
set_option maxRecDepth 20000 in
theorem sX11_mend {G : GG} {a0 : Nat} {x1 : Int32} {x2 : Int32} {x3 : Int32} {h : Hp} {Q : Int32 → Hp → Prop} (k0 : kd a0 = 11) (hw : wX11_mend a0 x1 x2 x3 h Q) : CI G 3 yX11_mend cX11_mend 5 (some .int) [.ref (G.1 a0), .int x1, .int x2, .int x3] h Q := by
  refine CO_of [some (.ref (G.1 a0)), some (.int x1), some (.int x2), some (.int x3), none] (by decide) (Nat.le_of_ble_eq_true rfl) rfl (fun X C => ?_)
  unfold wX11_mend at hw
  refine r_aload_n C dX11_mend_0 rfl ?_
  refine r_iload_n C dX11_mend_1 rfl ?_
  refine r_iload_n C dX11_mend_2 rfl ?_
  refine r_iload_n C dX11_mend_3 rfl ?_
  refine kX11_128 C (k0) (sX11_canBecome (k0) hw) dX11_mend_4 (Nat.le_of_ble_eq_true rfl) rfl (Nat.le_of_ble_eq_true rfl) (fun v1 hw => ?_)
  refine r_if_ne 12 C dX11_mend_7 (by decide) (fun hc => ?_) (fun hc => ?_)
  · replace hw := it_f hc hw
    refine r_aload_n C dX11_mend_12 rfl ?_
    refine r_iload_n C dX11_mend_13 rfl ?_
    refine r_iload_n C dX11_mend_14 rfl ?_
    refine r_iload_n C dX11_mend_15 rfl ?_
    refine kX11_131 C (k0) (sX11_become (k0) hw) dX11_mend_16 (Nat.le_of_ble_eq_true rfl) rfl (Nat.le_of_ble_eq_true rfl) (fun v2 h3 hw => ?_)
    refine r_istore [some (.ref (G.1 a0)), some (.int x1), some (.int x2), some (.int x3), some (.int v2)] C dX11_mend_19 (Nat.le_of_ble_eq_true rfl) rfl rfl ?_
    refine r_iload C dX11_mend_21 rfl ?_
    refine r_iload_n C dX11_mend_23 rfl ?_
    refine r_icmp_eq 39 C dX11_mend_24 (by decide) (fun hc => ?_) (fun hc => ?_)
    · replace hw := it_t hc hw
      refine r_iload C dX11_mend_39 rfl ?_
      exact r_iret C dX11_mend_41 ⟨_, rfl, hw⟩
    · replace hw := it_f hc hw
      refine r_aload_n C dX11_mend_27 rfl ?_
      refine gX11_65 C (k0) dX11_mend_28 ?_
      refine r_iload_n C dX11_mend_31 rfl ?_
      refine r_iload_n C dX11_mend_32 rfl ?_
      refine r_iload C dX11_mend_33 rfl ?_
      refine r_iload_n C dX11_mend_35 rfl ?_
      refine kX11_134 C (kr11_10 (k0)) (sX1_add (kr11_10 (k0)) hw) dX11_mend_36 (Nat.le_of_ble_eq_true rfl) rfl (Nat.le_of_ble_eq_true rfl) (fun h5 hw => ?_)
      refine r_iload C dX11_mend_39 rfl ?_
      exact r_iret C dX11_mend_41 ⟨_, rfl, hw⟩
  · replace hw := it_t hc hw
    refine r_iconst (-1) C dX11_mend_10 (by decide) ?_
    exact r_iret C dX11_mend_11 ⟨_, rfl, hw⟩
def wX11_waitingNow (a0 : Nat) (h : Hp) (Q : Int32 → Prop) : Prop :=
  wX8_waitingOut (rf a0 1) (gI h (rf a0 5) 1) (gI h (rf a0 5) 3) h (fun v1 => wX8_waitingIn (rf a0 1) (gI h (rf a0 5) 1) (gI h (rf a0 5) 2) h (fun v2 => Q (v1 ||| v2)))
set_option maxRecDepth 20000 in
theorem sX11_waitingNow {G : GG} {a0 : Nat} {h : Hp} {Q : Int32 → Prop} (k0 : kd a0 = 11) (hw : wX11_waitingNow a0 h Q) : PI G 2 yX11_waitingNow cX11_waitingNow 1 (some .int) [.ref (G.1 a0)] h Q := by
  refine CO_of [some (.ref (G.1 a0))] (by decide) (Nat.le_of_ble_eq_true rfl) rfl (fun X C => ?_)
  unfold wX11_waitingNow at hw
  refine r_aload_n C dX11_waitingNow_0 rfl ?_
  refine gX11_19 C (k0) dX11_waitingNow_1 ?_
  refine r_aload_n C dX11_waitingNow_4 rfl ?_
  refine gX11_39 C (k0) dX11_waitingNow_5 ?_
  refine gX11_167 C (kr11_5 (k0)) dX11_waitingNow_8 ?_
  refine r_aload_n C dX11_waitingNow_11 rfl ?_
  refine gX11_39 C (k0) dX11_waitingNow_12 ?_
  refine gX11_164 C (kr11_5 (k0)) dX11_waitingNow_15 ?_
  refine kX11_223 C (kr11_1 (k0)) (sX8_waitingOut (kr11_1 (k0)) hw) dX11_waitingNow_18 (Nat.le_of_ble_eq_true rfl) rfl (Nat.le_of_ble_eq_true rfl) (fun v1 hw => ?_)
  refine r_aload_n C dX11_waitingNow_21 rfl ?_
  refine gX11_19 C (k0) dX11_waitingNow_22 ?_
  refine r_aload_n C dX11_waitingNow_25 rfl ?_
  refine gX11_39 C (k0) dX11_waitingNow_26 ?_
  refine gX11_167 C (kr11_5 (k0)) dX11_waitingNow_29 ?_
  refine r_aload_n C dX11_waitingNow_32 rfl ?_
  refine gX11_39 C (k0) dX11_waitingNow_33 ?_
  refine gX11_157 C (kr11_5 (k0)) dX11_waitingNow_36 ?_
  refine kX11_226 C (kr11_1 (k0)) (sX8_waitingIn (kr11_1 (k0)) hw) dX11_waitingNow_39 (Nat.le_of_ble_eq_true rfl) rfl (Nat.le_of_ble_eq_true rfl) (fun v2 hw => ?_)
  refine r_ior C dX11_waitingNow_42 ?_
  exact r_iret C dX11_waitingNow_43 ⟨_, rfl, rfl, hw⟩
def wX11_of (a0 : Nat) (x1 : Int32) (x2 : Int32) (h : Hp) (Q : Int32 → Prop) : Prop :=
  if x2 = (10 : Int32) then (wX4_has (rf a0 0) x1 h (fun v10 => if v10 = 0 then (Q (-1 : Int32)) else (vp_in x1 (ln (rf (rf a0 0) 0)) ∧ (Q (gI h (rf (rf a0 0) 0) x1.toNatClampNeg))))) else (wX8_has (rf a0 1) x1 h (fun v1 => if v1 = 0 then (Q (-1 : Int32)) else (if x2 = (0 : Int32) then (vp_in x1 (ln (rf (rf a0 1) 0)) ∧ (Q (gI h (rf (rf a0 1) 0) x1.toNatClampNeg))) else (if x2 = (1 : Int32) then (vp_in x1 (ln (rf (rf a0 1) 1)) ∧ (Q (gI h (rf (rf a0 1) 1) x1.toNatClampNeg))) else (if x2 = (2 : Int32) then (vp_in x1 (ln (rf (rf a0 1) 2)) ∧ (Q (gI h (rf (rf a0 1) 2) x1.toNatClampNeg))) else (if x2 = (3 : Int32) then (wX11_bit (gI h (rf a0 5) 2) x1 h (fun v5 => Q ((1 : Int32) - v5))) else (if x2 = (4 : Int32) then (wX11_bit (gI h (rf a0 5) 3) x1 h (fun v6 => Q v6)) else (if x2 = (5 : Int32) then (if (60 : Int32) ≤ (gI h (rf a0 5) 1) then (Q (0 : Int32)) else (wX11_waitingNow a0 h (fun v7 => wX11_bit v7 x1 h (fun v8 => Q v8)))) else (if x2 = (6 : Int32) then (vp_in x1 (ln (rf (rf a0 5) 0)) ∧ (Q (gI h (rf (rf a0 5) 0) x1.toNatClampNeg))) else (Q (-1 : Int32)))))))))))
set_option maxRecDepth 20000 in
theorem sX11_of {G : GG} {a0 : Nat} {x1 : Int32} {x2 : Int32} {h : Hp} {Q : Int32 → Prop} (k0 : kd a0 = 11) (hw : wX11_of a0 x1 x2 h Q) : PI G 3 yX11_of cX11_of 3 (some .int) [.ref (G.1 a0), .int x1, .int x2] h Q := by
  refine CO_of [some (.ref (G.1 a0)), some (.int x1), some (.int x2)] (by decide) (Nat.le_of_ble_eq_true rfl) rfl (fun X C => ?_)
  unfold wX11_of at hw
  refine r_iload_n C dX11_of_0 rfl ?_
  refine r_bipush (10) C dX11_of_1 (by decide) ?_
  refine r_icmp_ne 31 C dX11_of_3 (by decide) (fun hc => ?_) (fun hc => ?_)
  · replace hw := it_f hc hw
    refine r_aload_n C dX11_of_31 rfl ?_
    refine gX11_19 C (k0) dX11_of_32 ?_
    refine r_iload_n C dX11_of_35 rfl ?_
    refine kX11_137 C (kr11_1 (k0)) (sX8_has (kr11_1 (k0)) hw) dX11_of_36 (Nat.le_of_ble_eq_true rfl) rfl (Nat.le_of_ble_eq_true rfl) (fun v1 hw => ?_)
    refine r_if_ne 44 C dX11_of_39 (by decide) (fun hc => ?_) (fun hc => ?_)
    · replace hw := it_f hc hw
      refine r_iload_n C dX11_of_44 rfl ?_
      by_cases hs45_0 : x2 = (0 : Int32)
      · replace hw := it_t hs45_0 hw
        refine r_tabIn (off := 43) (0) 88 C dX11_of_45 hs45_0 (by decide) ?_
        refine r_aload_n C dX11_of_88 rfl ?_
        refine gX11_19 C (k0) dX11_of_89 ?_
        refine gX11_140 C (kr11_1 (k0)) dX11_of_92 ?_
        refine r_iload_n C dX11_of_95 rfl ?_
        obtain ⟨hi2, hw⟩ := hw
        refine r_iald C (kr8_0 (kr11_1 (k0))) hi2 dX11_of_96 ?_
        exact r_iret C dX11_of_97 ⟨_, rfl, rfl, hw⟩
      replace hw := it_f hs45_0 hw
      by_cases hs45_1 : x2 = (1 : Int32)
      · replace hw := it_t hs45_1 hw
        refine r_tabIn (off := 53) (1) 98 C dX11_of_45 hs45_1 (by decide) ?_
        refine r_aload_n C dX11_of_98 rfl ?_
        refine gX11_19 C (k0) dX11_of_99 ?_
        refine gX11_154 C (kr11_1 (k0)) dX11_of_102 ?_
        refine r_iload_n C dX11_of_105 rfl ?_
        obtain ⟨hi3, hw⟩ := hw
        refine r_iald C (kr8_1 (kr11_1 (k0))) hi3 dX11_of_106 ?_
        exact r_iret C dX11_of_107 ⟨_, rfl, rfl, hw⟩
      replace hw := it_f hs45_1 hw
      by_cases hs45_2 : x2 = (2 : Int32)
      · replace hw := it_t hs45_2 hw
        refine r_tabIn (off := 63) (2) 108 C dX11_of_45 hs45_2 (by decide) ?_
        refine r_aload_n C dX11_of_108 rfl ?_
        refine gX11_19 C (k0) dX11_of_109 ?_
        refine gX11_151 C (kr11_1 (k0)) dX11_of_112 ?_
        refine r_iload_n C dX11_of_115 rfl ?_
        obtain ⟨hi4, hw⟩ := hw
        refine r_iald C (kr8_2 (kr11_1 (k0))) hi4 dX11_of_116 ?_
        exact r_iret C dX11_of_117 ⟨_, rfl, rfl, hw⟩
      replace hw := it_f hs45_2 hw
      by_cases hs45_3 : x2 = (3 : Int32)
      · replace hw := it_t hs45_3 hw
        refine r_tabIn (off := 73) (3) 118 C dX11_of_45 hs45_3 (by decide) ?_
        refine r_iconst (1) C dX11_of_118 (by decide) ?_
        refine r_aload_n C dX11_of_119 rfl ?_
        refine gX11_39 C (k0) dX11_of_120 ?_
        refine gX11_157 C (kr11_5 (k0)) dX11_of_123 ?_
        refine r_iload_n C dX11_of_126 rfl ?_
        refine kX11_160 C (sX11_bit hw) dX11_of_127 (Nat.le_of_ble_eq_true rfl) rfl (Nat.le_of_ble_eq_true rfl) (fun v5 hw => ?_)
        refine r_isub C dX11_of_130 ?_
        exact r_iret C dX11_of_131 ⟨_, rfl, rfl, hw⟩
      replace hw := it_f hs45_3 hw
      by_cases hs45_4 : x2 = (4 : Int32)
      · replace hw := it_t hs45_4 hw
        refine r_tabIn (off := 87) (4) 132 C dX11_of_45 hs45_4 (by decide) ?_
        refine r_aload_n C dX11_of_132 rfl ?_
        refine gX11_39 C (k0) dX11_of_133 ?_
        refine gX11_164 C (kr11_5 (k0)) dX11_of_136 ?_
        refine r_iload_n C dX11_of_139 rfl ?_
        refine kX11_160 C (sX11_bit hw) dX11_of_140 (Nat.le_of_ble_eq_true rfl) rfl (Nat.le_of_ble_eq_true rfl) (fun v6 hw => ?_)
        exact r_iret C dX11_of_143 ⟨_, rfl, rfl, hw⟩
      replace hw := it_f hs45_4 hw
      by_cases hs45_5 : x2 = (5 : Int32)
      · replace hw := it_t hs45_5 hw
        refine r_tabIn (off := 99) (5) 144 C dX11_of_45 hs45_5 (by decide) ?_
        refine r_aload_n C dX11_of_144 rfl ?_
        refine gX11_39 C (k0) dX11_of_145 ?_
        refine gX11_167 C (kr11_5 (k0)) dX11_of_148 ?_
        refine r_bipush (60) C dX11_of_151 (by decide) ?_
        refine r_icmp_ge 167 C dX11_of_153 (by decide) (fun hc => ?_) (fun hc => ?_)
        · replace hw := it_t hc hw
          refine r_iconst (0) C dX11_of_167 (by decide) ?_
          exact r_iret C dX11_of_168 ⟨_, rfl, rfl, hw⟩
        · replace hw := it_f hc hw
          refine r_aload_n C dX11_of_156 rfl ?_
          refine kX11_170 C (k0) (sX11_waitingNow (k0) hw) dX11_of_157 (Nat.le_of_ble_eq_true rfl) rfl (Nat.le_of_ble_eq_true rfl) (fun v7 hw => ?_)
          refine r_iload_n C dX11_of_160 rfl ?_
          refine kX11_160 C (sX11_bit hw) dX11_of_161 (Nat.le_of_ble_eq_true rfl) rfl (Nat.le_of_ble_eq_true rfl) (fun v8 hw => ?_)
          refine r_goto 168 C dX11_of_164 (by decide) ?_
          exact r_iret C dX11_of_168 ⟨_, rfl, rfl, hw⟩
      replace hw := it_f hs45_5 hw
      by_cases hs45_6 : x2 = (6 : Int32)
      · replace hw := it_t hs45_6 hw
        refine r_tabIn (off := 124) (6) 169 C dX11_of_45 hs45_6 (by decide) ?_
        refine r_aload_n C dX11_of_169 rfl ?_
        refine gX11_39 C (k0) dX11_of_170 ?_
        refine gX11_174 C (kr11_5 (k0)) dX11_of_173 ?_
        refine r_iload_n C dX11_of_176 rfl ?_
        obtain ⟨hi9, hw⟩ := hw
        refine r_iald C (kr3_0 (kr11_5 (k0))) hi9 dX11_of_177 ?_
        exact r_iret C dX11_of_178 ⟨_, rfl, rfl, hw⟩
      replace hw := it_f hs45_6 hw
      refine r_tabOut 179 C dX11_of_45 (by have qhs45_0 := lv_neT (a := 0) hs45_0 (by decide); have qhs45_1 := lv_neT (a := 1) hs45_1 (by decide); have qhs45_2 := lv_neT (a := 2) hs45_2 (by decide); have qhs45_3 := lv_neT (a := 3) hs45_3 (by decide); have qhs45_4 := lv_neT (a := 4) hs45_4 (by decide); have qhs45_5 := lv_neT (a := 5) hs45_5 (by decide); have qhs45_6 := lv_neT (a := 6) hs45_6 (by decide); omega) (by decide) ?_
      refine r_iconst (-1) C dX11_of_179 (by decide) ?_
      exact r_iret C dX11_of_180 ⟨_, rfl, rfl, hw⟩
    · replace hw := it_t hc hw
      refine r_iconst (-1) C dX11_of_42 (by decide) ?_
      exact r_iret C dX11_of_43 ⟨_, rfl, rfl, hw⟩
  · replace hw := it_t hc hw
    refine r_aload_n C dX11_of_6 rfl ?_
    refine gX11_10 C (k0) dX11_of_7 ?_
    refine r_iload_n C dX11_of_10 rfl ?_
    refine kX11_143 C (kr11_0 (k0)) (sX4_has (kr11_0 (k0)) hw) dX11_of_11 (Nat.le_of_ble_eq_true rfl) rfl (Nat.le_of_ble_eq_true rfl) (fun v10 hw => ?_)
    refine r_if_eq 29 C dX11_of_14 (by decide) (fun hc => ?_) (fun hc => ?_)
    · replace hw := it_t hc hw
      refine r_iconst (-1) C dX11_of_29 (by decide) ?_
      exact r_iret C dX11_of_30 ⟨_, rfl, rfl, hw⟩
    · replace hw := it_f hc hw
      refine r_aload_n C dX11_of_17 rfl ?_
      refine gX11_10 C (k0) dX11_of_18 ?_
      refine gX11_144 C (kr11_0 (k0)) dX11_of_21 ?_
      refine r_iload_n C dX11_of_24 rfl ?_
      obtain ⟨hi11, hw⟩ := hw
      refine r_iald C (kr4_0 (kr11_0 (k0))) hi11 dX11_of_25 ?_
      refine r_goto 30 C dX11_of_26 (by decide) ?_
      exact r_iret C dX11_of_30 ⟨_, rfl, rfl, hw⟩
def wX11_feed (a0 : Nat) (x1 : Int32) (h : Hp) (Q : Int32 → Hp → Prop) : Prop :=
  if x1 < 0 then (Q (-1 : Int32) h) else (if x1 ≤ (255 : Int32) then (if (gI h a0 3) < (120 : Int32) then (vp_in (gI h a0 3) (ln (rf a0 2)) ∧ (∀ h2 : Hp, h2 = sI h (rf a0 2) (gI h a0 3).toNatClampNeg x1 → (∀ h3 : Hp, h3 = sI h2 a0 3 ((gI h2 a0 3) + (1 : Int32)) → (Q (gI h3 a0 3) h3)))) else (Q (-3 : Int32) h)) else (Q (-1 : Int32) h))
set_option maxRecDepth 20000 in
theorem sX11_feed {G : GG} {a0 : Nat} {x1 : Int32} {h : Hp} {Q : Int32 → Hp → Prop} (k0 : kd a0 = 11) (hw : wX11_feed a0 x1 h Q) : CI G 0 yX11_feed cX11_feed 2 (some .int) [.ref (G.1 a0), .int x1] h Q := by
  refine CO_of [some (.ref (G.1 a0)), some (.int x1)] (by decide) (Nat.le_of_ble_eq_true rfl) rfl (fun X C => ?_)
  unfold wX11_feed at hw
  refine r_iload_n C dX11_feed_0 rfl ?_
  refine r_if_lt 11 C dX11_feed_1 (by decide) (fun hc => ?_) (fun hc => ?_)
  · replace hw := it_t hc hw
    refine r_iconst (-1) C dX11_feed_11 (by decide) ?_
    exact r_iret C dX11_feed_12 ⟨_, rfl, hw⟩
  · replace hw := it_f hc hw
    refine r_iload_n C dX11_feed_4 rfl ?_
    refine r_sipush (255) C dX11_feed_5 (by decide) ?_
    refine r_icmp_le 13 C dX11_feed_8 (by decide) (fun hc => ?_) (fun hc => ?_)
    · replace hw := it_t hc hw
      refine r_aload_n C dX11_feed_13 rfl ?_
      refine gX11_177 C (k0) dX11_feed_14 ?_
      refine r_bipush (120) C dX11_feed_17 (by decide) ?_
      refine r_icmp_lt 25 C dX11_feed_19 (by decide) (fun hc => ?_) (fun hc => ?_)
      · replace hw := it_t hc hw
        refine r_aload_n C dX11_feed_25 rfl ?_
        refine gX11_23 C (k0) dX11_feed_26 ?_
        refine r_aload_n C dX11_feed_29 rfl ?_
        refine gX11_177 C (k0) dX11_feed_30 ?_
        refine r_iload_n C dX11_feed_33 rfl ?_
        obtain ⟨hi1, hw⟩ := hw
        refine r_iast C (kr11_2 (k0)) hi1 dX11_feed_34 ?_
        refine r_toph (fun h2 eh2 => ?_)
        replace hw := hw h2 eh2
        refine r_aload_n C dX11_feed_35 rfl ?_
        refine r_dup C dX11_feed_36 rfl ?_
        refine gX11_177 C (k0) dX11_feed_37 ?_
        refine r_iconst (1) C dX11_feed_40 (by decide) ?_
        refine r_iadd C dX11_feed_41 ?_
        refine pX11_177 C (k0) dX11_feed_42 ?_
        refine r_toph (fun h3 eh3 => ?_)
        replace hw := hw h3 eh3
        refine r_aload_n C dX11_feed_45 rfl ?_
        refine gX11_177 C (k0) dX11_feed_46 ?_
        exact r_iret C dX11_feed_49 ⟨_, rfl, hw⟩
      · replace hw := it_f hc hw
        refine r_bipush (-3) C dX11_feed_22 (by decide) ?_
        exact r_iret C dX11_feed_24 ⟨_, rfl, hw⟩
    · replace hw := it_f hc hw
      refine r_iconst (-1) C dX11_feed_11 (by decide) ?_
      exact r_iret C dX11_feed_12 ⟨_, rfl, hw⟩
def jX11_law_11 (a0 : Nat) (x1 : Int32) (h : Hp) (Q : Int32 → Hp → Prop) : Prop :=
  wX6_become (rf a0 4) x1 (gI h a0 3) h (fun v1 h2 => ∀ h3 : Hp, h3 = sI h2 a0 3 (0 : Int32) → (if v1 = (-1 : Int32) then (Q (1 : Int32) h3) else (Q ((-100 : Int32) - v1) h3)))
set_option maxRecDepth 20000 in
theorem tX11_law_11 {G : GG} {X : XX} {a0 : Nat} {x1 : Int32} {h : Hp}  {Q : Int32 → Hp → Prop} (C : Cx G RX11 cX11_law 3 (some .int) 126 0 0 X) (k0 : kd a0 = 11) (hw : jX11_law_11 a0 x1 h Q) : R0 G X 0 0 (ZM G (fun r h' => ∃ v, r = some (.int v) ∧ Q v h') X) 11 [some (.ref (G.1 a0)), some (.int x1), none] [] h := by
  unfold jX11_law_11 at hw
  refine r_aload_n C dX11_law_11 rfl ?_
  refine gX11_32 C (k0) dX11_law_12 ?_
  refine r_iload_n C dX11_law_15 rfl ?_
  refine r_aload_n C dX11_law_16 rfl ?_
  refine gX11_177 C (k0) dX11_law_17 ?_
  refine kX11_180 C (kr11_4 (k0)) (sX6_become (kr11_4 (k0)) hw) dX11_law_20 (Nat.le_of_ble_eq_true rfl) rfl (Nat.le_of_ble_eq_true rfl) (fun v1 h2 hw => ?_)
  refine r_istore_n [some (.ref (G.1 a0)), some (.int x1), some (.int v1)] C dX11_law_23 (Nat.le_of_ble_eq_true rfl) rfl rfl ?_
  refine r_aload_n C dX11_law_24 rfl ?_
  refine r_iconst (0) C dX11_law_25 (by decide) ?_
  refine pX11_177 C (k0) dX11_law_26 ?_
  refine r_toph (fun h3 eh3 => ?_)
  replace hw := hw h3 eh3
  refine r_iload_n C dX11_law_29 rfl ?_
  refine r_iconst (-1) C dX11_law_30 (by decide) ?_
  refine r_icmp_ne 38 C dX11_law_31 (by decide) (fun hc => ?_) (fun hc => ?_)
  · replace hw := it_f hc hw
    refine r_bipush (-100) C dX11_law_38 (by decide) ?_
    refine r_iload_n C dX11_law_40 rfl ?_
    refine r_isub C dX11_law_41 ?_
    exact r_iret C dX11_law_42 ⟨_, rfl, hw⟩
  · replace hw := it_t hc hw
    refine r_iconst (1) C dX11_law_34 (by decide) ?_
    refine r_goto 42 C dX11_law_35 (by decide) ?_
    exact r_iret C dX11_law_42 ⟨_, rfl, hw⟩
def wX11_law (a0 : Nat) (x1 : Int32) (h : Hp) (Q : Int32 → Hp → Prop) : Prop :=
  if x1 = 0 then (jX11_law_11 a0 x1 h Q) else (if x1 = (1 : Int32) then (jX11_law_11 a0 x1 h Q) else (Q (-1 : Int32) h))
set_option maxRecDepth 20000 in
theorem sX11_law {G : GG} {a0 : Nat} {x1 : Int32} {h : Hp} {Q : Int32 → Hp → Prop} (k0 : kd a0 = 11) (hw : wX11_law a0 x1 h Q) : CI G 126 yX11_law cX11_law 3 (some .int) [.ref (G.1 a0), .int x1] h Q := by
  refine CO_of [some (.ref (G.1 a0)), some (.int x1), none] (by decide) (Nat.le_of_ble_eq_true rfl) rfl (fun X C => ?_)
  unfold wX11_law at hw
  refine r_iload_n C dX11_law_0 rfl ?_
  refine r_if_eq 11 C dX11_law_1 (by decide) (fun hc => ?_) (fun hc => ?_)
  · replace hw := it_t hc hw
    exact tX11_law_11 C (k0) hw
  · replace hw := it_f hc hw
    refine r_iload_n C dX11_law_4 rfl ?_
    refine r_iconst (1) C dX11_law_5 (by decide) ?_
    refine r_icmp_eq 11 C dX11_law_6 (by decide) (fun hc => ?_) (fun hc => ?_)
    · replace hw := it_t hc hw
      exact tX11_law_11 C (k0) hw
    · replace hw := it_f hc hw
      refine r_iconst (-1) C dX11_law_9 (by decide) ?_
      exact r_iret C dX11_law_10 ⟨_, rfl, hw⟩
def wX11_isGateAndWay (a0 : Nat) (x1 : Int32) (h : Hp) (Q : Int32 → Prop) : Prop :=
  if x1 < 0 then (Q (0 : Int32)) else (wX4_has (rf a0 0) (x1 / (10 : Int32)) h (fun v1 => if v1 = 0 then (Q (0 : Int32)) else (if (1 : Int32) < (rm x1 (10 : Int32)) then (Q (0 : Int32)) else (Q (1 : Int32)))))
set_option maxRecDepth 20000 in
theorem sX11_isGateAndWay {G : GG} {a0 : Nat} {x1 : Int32} {h : Hp} {Q : Int32 → Prop} (k0 : kd a0 = 11) (hw : wX11_isGateAndWay a0 x1 h Q) : PI G 1 yX11_isGateAndWay cX11_isGateAndWay 2 (some .boolean) [.ref (G.1 a0), .int x1] h Q := by
  refine CO_of [some (.ref (G.1 a0)), some (.int x1)] (by decide) (Nat.le_of_ble_eq_true rfl) rfl (fun X C => ?_)
  unfold wX11_isGateAndWay at hw
  refine r_iload_n C dX11_isGateAndWay_0 rfl ?_
  refine r_if_lt 30 C dX11_isGateAndWay_1 (by decide) (fun hc => ?_) (fun hc => ?_)
  · replace hw := it_t hc hw
    refine r_iconst (0) C dX11_isGateAndWay_30 (by decide) ?_
    exact r_zret C dX11_isGateAndWay_31 rfl ⟨_, rfl, rfl, hw⟩
  · replace hw := it_f hc hw
    refine r_aload_n C dX11_isGateAndWay_4 rfl ?_
    refine gX11_10 C (k0) dX11_isGateAndWay_5 ?_
    refine r_iload_n C dX11_isGateAndWay_8 rfl ?_
    refine r_bipush (10) C dX11_isGateAndWay_9 (by decide) ?_
    refine r_idiv C dX11_isGateAndWay_11 (by decide) ?_
    refine kX11_143 C (kr11_0 (k0)) (sX4_has (kr11_0 (k0)) hw) dX11_isGateAndWay_12 (Nat.le_of_ble_eq_true rfl) rfl (Nat.le_of_ble_eq_true rfl) (fun v1 hw => ?_)
    refine r_if_eq 30 C dX11_isGateAndWay_15 (by decide) (fun hc => ?_) (fun hc => ?_)
    · replace hw := it_t hc hw
      refine r_iconst (0) C dX11_isGateAndWay_30 (by decide) ?_
      exact r_zret C dX11_isGateAndWay_31 rfl ⟨_, rfl, rfl, hw⟩
    · replace hw := it_f hc hw
      refine r_iload_n C dX11_isGateAndWay_18 rfl ?_
      refine r_bipush (10) C dX11_isGateAndWay_19 (by decide) ?_
      refine r_irem C dX11_isGateAndWay_21 (by decide) ?_
      refine r_iconst (1) C dX11_isGateAndWay_22 (by decide) ?_
      refine r_icmp_gt 30 C dX11_isGateAndWay_23 (by decide) (fun hc => ?_) (fun hc => ?_)
      · replace hw := it_t hc hw
        refine r_iconst (0) C dX11_isGateAndWay_30 (by decide) ?_
        exact r_zret C dX11_isGateAndWay_31 rfl ⟨_, rfl, rfl, hw⟩
      · replace hw := it_f hc hw
        refine r_iconst (1) C dX11_isGateAndWay_26 (by decide) ?_
        refine r_goto 31 C dX11_isGateAndWay_27 (by decide) ?_
        exact r_zret C dX11_isGateAndWay_31 rfl ⟨_, rfl, rfl, hw⟩
def wX11_may (a0 : Nat) (x1 : Int32) (x2 : Int32) (x3 : Int32) (h : Hp) (Q : Int32 → Hp → Prop) : Prop :=
  wX8_has (rf a0 1) x1 h (fun v1 => if v1 = 0 then (Q (-1 : Int32) h) else (wX11_isGateAndWay a0 x2 h (fun v2 => if v2 = 0 then (Q (-1 : Int32) h) else (wX11_isTime x3 h (fun v3 => if v3 = 0 then (Q (-1 : Int32) h) else (wX6_lets (rf a0 4) (rf a0 1) x1 (x2 / (10 : Int32)) (rm x2 (10 : Int32)) x3 h (fun v4 h5 => if v4 = 0 then (Q (0 : Int32) h5) else (Q (1 : Int32) h5))))))))
set_option maxRecDepth 20000 in
theorem sX11_may {G : GG} {a0 : Nat} {x1 : Int32} {x2 : Int32} {x3 : Int32} {h : Hp} {Q : Int32 → Hp → Prop} (k0 : kd a0 = 11) (hw : wX11_may a0 x1 x2 x3 h Q) : CI G 3 yX11_may cX11_may 4 (some .int) [.ref (G.1 a0), .int x1, .int x2, .int x3] h Q := by
  refine CO_of [some (.ref (G.1 a0)), some (.int x1), some (.int x2), some (.int x3)] (by decide) (Nat.le_of_ble_eq_true rfl) rfl (fun X C => ?_)
  unfold wX11_may at hw
  refine r_aload_n C dX11_may_0 rfl ?_
  refine gX11_19 C (k0) dX11_may_1 ?_
  refine r_iload_n C dX11_may_4 rfl ?_
  refine kX11_137 C (kr11_1 (k0)) (sX8_has (kr11_1 (k0)) hw) dX11_may_5 (Nat.le_of_ble_eq_true rfl) rfl (Nat.le_of_ble_eq_true rfl) (fun v1 hw => ?_)
  refine r_if_eq 26 C dX11_may_8 (by decide) (fun hc => ?_) (fun hc => ?_)
  · replace hw := it_t hc hw
    refine r_iconst (-1) C dX11_may_26 (by decide) ?_
    exact r_iret C dX11_may_27 ⟨_, rfl, hw⟩
  · replace hw := it_f hc hw
    refine r_aload_n C dX11_may_11 rfl ?_
    refine r_iload_n C dX11_may_12 rfl ?_
    refine kX11_184 C (k0) (sX11_isGateAndWay (k0) hw) dX11_may_13 (Nat.le_of_ble_eq_true rfl) rfl (Nat.le_of_ble_eq_true rfl) (fun v2 hw => ?_)
    refine r_if_eq 26 C dX11_may_16 (by decide) (fun hc => ?_) (fun hc => ?_)
    · replace hw := it_t hc hw
      refine r_iconst (-1) C dX11_may_26 (by decide) ?_
      exact r_iret C dX11_may_27 ⟨_, rfl, hw⟩
    · replace hw := it_f hc hw
      refine r_iload_n C dX11_may_19 rfl ?_
      refine kX11_187 C (sX11_isTime hw) dX11_may_20 (Nat.le_of_ble_eq_true rfl) rfl (Nat.le_of_ble_eq_true rfl) (fun v3 hw => ?_)
      refine r_if_ne 28 C dX11_may_23 (by decide) (fun hc => ?_) (fun hc => ?_)
      · replace hw := it_f hc hw
        refine r_aload_n C dX11_may_28 rfl ?_
        refine gX11_32 C (k0) dX11_may_29 ?_
        refine r_aload_n C dX11_may_32 rfl ?_
        refine gX11_19 C (k0) dX11_may_33 ?_
        refine r_iload_n C dX11_may_36 rfl ?_
        refine r_iload_n C dX11_may_37 rfl ?_
        refine r_bipush (10) C dX11_may_38 (by decide) ?_
        refine r_idiv C dX11_may_40 (by decide) ?_
        refine r_iload_n C dX11_may_41 rfl ?_
        refine r_bipush (10) C dX11_may_42 (by decide) ?_
        refine r_irem C dX11_may_44 (by decide) ?_
        refine r_iload_n C dX11_may_45 rfl ?_
        refine kX11_190 C (kr11_4 (k0)) (sX6_lets (kr11_4 (k0)) (kr11_1 (k0)) hw) dX11_may_46 (Nat.le_of_ble_eq_true rfl) rfl (Nat.le_of_ble_eq_true rfl) (fun v4 h5 hw => ?_)
        refine r_if_eq 56 C dX11_may_49 (by decide) (fun hc => ?_) (fun hc => ?_)
        · replace hw := it_t hc hw
          refine r_iconst (0) C dX11_may_56 (by decide) ?_
          exact r_iret C dX11_may_57 ⟨_, rfl, hw⟩
        · replace hw := it_f hc hw
          refine r_iconst (1) C dX11_may_52 (by decide) ?_
          refine r_goto 57 C dX11_may_53 (by decide) ?_
          exact r_iret C dX11_may_57 ⟨_, rfl, hw⟩
      · replace hw := it_t hc hw
        refine r_iconst (-1) C dX11_may_26 (by decide) ?_
        exact r_iret C dX11_may_27 ⟨_, rfl, hw⟩
def wX11_comes (a0 : Nat) (x1 : Int32) (x2 : Int32) (h : Hp) (Q : Int32 → Hp → Prop) : Prop :=
  if x1 < 0 then (Q (-1 : Int32) h) else (wX4_has (rf a0 0) (x1 / (10 : Int32)) h (fun v1 => if v1 = 0 then (Q (-1 : Int32) h) else (wX11_isTime x2 h (fun v2 => if v2 = 0 then (Q (-1 : Int32) h) else (wX6_chance (rf a0 4) (x1 / (10 : Int32)) (rm x1 (10 : Int32)) x2 h (fun v3 h4 => Q v3 h4))))))
set_option maxRecDepth 20000 in
theorem sX11_comes {G : GG} {a0 : Nat} {x1 : Int32} {x2 : Int32} {h : Hp} {Q : Int32 → Hp → Prop} (k0 : kd a0 = 11) (hw : wX11_comes a0 x1 x2 h Q) : CI G 3 yX11_comes cX11_comes 3 (some .int) [.ref (G.1 a0), .int x1, .int x2] h Q := by
  refine CO_of [some (.ref (G.1 a0)), some (.int x1), some (.int x2)] (by decide) (Nat.le_of_ble_eq_true rfl) rfl (fun X C => ?_)
  unfold wX11_comes at hw
  refine r_iload_n C dX11_comes_0 rfl ?_
  refine r_if_lt 25 C dX11_comes_1 (by decide) (fun hc => ?_) (fun hc => ?_)
  · replace hw := it_t hc hw
    refine r_iconst (-1) C dX11_comes_25 (by decide) ?_
    exact r_iret C dX11_comes_26 ⟨_, rfl, hw⟩
  · replace hw := it_f hc hw
    refine r_aload_n C dX11_comes_4 rfl ?_
    refine gX11_10 C (k0) dX11_comes_5 ?_
    refine r_iload_n C dX11_comes_8 rfl ?_
    refine r_bipush (10) C dX11_comes_9 (by decide) ?_
    refine r_idiv C dX11_comes_11 (by decide) ?_
    refine kX11_143 C (kr11_0 (k0)) (sX4_has (kr11_0 (k0)) hw) dX11_comes_12 (Nat.le_of_ble_eq_true rfl) rfl (Nat.le_of_ble_eq_true rfl) (fun v1 hw => ?_)
    refine r_if_eq 25 C dX11_comes_15 (by decide) (fun hc => ?_) (fun hc => ?_)
    · replace hw := it_t hc hw
      refine r_iconst (-1) C dX11_comes_25 (by decide) ?_
      exact r_iret C dX11_comes_26 ⟨_, rfl, hw⟩
    · replace hw := it_f hc hw
      refine r_iload_n C dX11_comes_18 rfl ?_
      refine kX11_187 C (sX11_isTime hw) dX11_comes_19 (Nat.le_of_ble_eq_true rfl) rfl (Nat.le_of_ble_eq_true rfl) (fun v2 hw => ?_)
      refine r_if_ne 27 C dX11_comes_22 (by decide) (fun hc => ?_) (fun hc => ?_)
      · replace hw := it_f hc hw
        refine r_aload_n C dX11_comes_27 rfl ?_
        refine gX11_32 C (k0) dX11_comes_28 ?_
        refine r_iload_n C dX11_comes_31 rfl ?_
        refine r_bipush (10) C dX11_comes_32 (by decide) ?_
        refine r_idiv C dX11_comes_34 (by decide) ?_
        refine r_iload_n C dX11_comes_35 rfl ?_
        refine r_bipush (10) C dX11_comes_36 (by decide) ?_
        refine r_irem C dX11_comes_38 (by decide) ?_
        refine r_iload_n C dX11_comes_39 rfl ?_
        refine kX11_194 C (kr11_4 (k0)) (sX6_chance (kr11_4 (k0)) hw) dX11_comes_40 (Nat.le_of_ble_eq_true rfl) rfl (Nat.le_of_ble_eq_true rfl) (fun v3 h4 hw => ?_)
        exact r_iret C dX11_comes_43 ⟨_, rfl, hw⟩
      · replace hw := it_t hc hw
        refine r_iconst (-1) C dX11_comes_25 (by decide) ?_
        exact r_iret C dX11_comes_26 ⟨_, rfl, hw⟩
def wX11_peopleWithin (a0 : Nat) (h : Hp) (Q : Int32 → Prop) : Prop :=
  wJ6_bitCount_0f7a4 (gI h (rf a0 5) 2) h (fun v1 => Q ((gI h (rf a0 1) 3) - v1))
set_option maxRecDepth 20000 in
theorem sX11_peopleWithin {G : GG} {a0 : Nat} {h : Hp} {Q : Int32 → Prop} (k0 : kd a0 = 11) (hw : wX11_peopleWithin a0 h Q) : PI G 1 yX11_peopleWithin cX11_peopleWithin 1 (some .int) [.ref (G.1 a0)] h Q := by
  refine CO_of [some (.ref (G.1 a0))] (by decide) (Nat.le_of_ble_eq_true rfl) rfl (fun X C => ?_)
  unfold wX11_peopleWithin at hw
  refine r_aload_n C dX11_peopleWithin_0 rfl ?_
  refine gX11_19 C (k0) dX11_peopleWithin_1 ?_
  refine gX11_197 C (kr11_1 (k0)) dX11_peopleWithin_4 ?_
  refine r_aload_n C dX11_peopleWithin_7 rfl ?_
  refine gX11_39 C (k0) dX11_peopleWithin_8 ?_
  refine gX11_157 C (kr11_5 (k0)) dX11_peopleWithin_11 ?_
  refine kX11_200 C (sJ6_bitCount_0f7a4 hw) dX11_peopleWithin_14 (Nat.le_of_ble_eq_true rfl) rfl (Nat.le_of_ble_eq_true rfl) (fun v1 hw => ?_)
  refine r_isub C dX11_peopleWithin_17 ?_
  exact r_iret C dX11_peopleWithin_18 ⟨_, rfl, rfl, hw⟩
def jX11_pass_68 (a0 : Nat) (x1 : Int32) (x2 : Int32) (s0 : Int32) (h : Hp) (Q : Int32 → Hp → Prop) : Prop :=
  wJ6_bitCount_0f7a4 x2 h (fun v1 => wX4_numberOf (rf a0 0) (x1 / (10 : Int32)) h (fun v2 => if v1 = v2 then (if (x2 &&& (s0 ^^^ (-1 : Int32))) = 0 then (wX6_lettingOf (rf a0 4) (rf a0 1) x2 (x1 / (10 : Int32)) (rm x1 (10 : Int32)) (gI h (rf a0 5) 1) h (fun v3 h4 => if v3 = x2 then (wX3_move (rf a0 5) x2 (rm x1 (10 : Int32)) h4 (fun h6 => wX11_peopleWithin a0 h6 (fun v7 => Q v7 h6))) else (Q (-2 : Int32) h4))) else (Q (-2 : Int32) h)) else (Q (-2 : Int32) h)))
set_option maxRecDepth 20000 in
theorem tX11_pass_68 {G : GG} {X : XX} {a0 : Nat} {x1 : Int32} {x2 : Int32} {s0 : Int32} {h : Hp}  {Q : Int32 → Hp → Prop} (C : Cx G RX11 cX11_pass 4 (some .int) 4 0 0 X) (k0 : kd a0 = 11) (hw : jX11_pass_68 a0 x1 x2 s0 h Q) : R0 G X 0 0 (ZM G (fun r h' => ∃ v, r = some (.int v) ∧ Q v h') X) 68 [some (.ref (G.1 a0)), some (.int x1), some (.int x2), none] [.int s0] h := by
  unfold jX11_pass_68 at hw
  refine r_istore_n [some (.ref (G.1 a0)), some (.int x1), some (.int x2), some (.int s0)] C dX11_pass_68 (Nat.le_of_ble_eq_true rfl) rfl rfl ?_
  refine r_iload_n C dX11_pass_69 rfl ?_
  refine kX11_200 C (sJ6_bitCount_0f7a4 hw) dX11_pass_70 (Nat.le_of_ble_eq_true rfl) rfl (Nat.le_of_ble_eq_true rfl) (fun v1 hw => ?_)
  refine r_aload_n C dX11_pass_73 rfl ?_
  refine gX11_10 C (k0) dX11_pass_74 ?_
  refine r_iload_n C dX11_pass_77 rfl ?_
  refine r_bipush (10) C dX11_pass_78 (by decide) ?_
  refine r_idiv C dX11_pass_80 (by decide) ?_
  refine kX11_205 C (kr11_0 (k0)) (sX4_numberOf (kr11_0 (k0)) hw) dX11_pass_81 (Nat.le_of_ble_eq_true rfl) rfl (Nat.le_of_ble_eq_true rfl) (fun v2 hw => ?_)
  refine r_icmp_ne 95 C dX11_pass_84 (by decide) (fun hc => ?_) (fun hc => ?_)
  · replace hw := it_f hc hw
    refine r_bipush (-2) C dX11_pass_95 (by decide) ?_
    exact r_iret C dX11_pass_97 ⟨_, rfl, hw⟩
  · replace hw := it_t hc hw
    refine r_iload_n C dX11_pass_87 rfl ?_
    refine r_iload_n C dX11_pass_88 rfl ?_
    refine r_iconst (-1) C dX11_pass_89 (by decide) ?_
    refine r_ixor C dX11_pass_90 ?_
    refine r_iand C dX11_pass_91 ?_
    refine r_if_eq 98 C dX11_pass_92 (by decide) (fun hc => ?_) (fun hc => ?_)
    · replace hw := it_t hc hw
      refine r_aload_n C dX11_pass_98 rfl ?_
      refine gX11_32 C (k0) dX11_pass_99 ?_
      refine r_aload_n C dX11_pass_102 rfl ?_
      refine gX11_19 C (k0) dX11_pass_103 ?_
      refine r_iload_n C dX11_pass_106 rfl ?_
      refine r_iload_n C dX11_pass_107 rfl ?_
      refine r_bipush (10) C dX11_pass_108 (by decide) ?_
      refine r_idiv C dX11_pass_110 (by decide) ?_
      refine r_iload_n C dX11_pass_111 rfl ?_
      refine r_bipush (10) C dX11_pass_112 (by decide) ?_
      refine r_irem C dX11_pass_114 (by decide) ?_
      refine r_aload_n C dX11_pass_115 rfl ?_
      refine gX11_39 C (k0) dX11_pass_116 ?_
      refine gX11_167 C (kr11_5 (k0)) dX11_pass_119 ?_
      refine kX11_208 C (kr11_4 (k0)) (sX6_lettingOf (kr11_4 (k0)) (kr11_1 (k0)) hw) dX11_pass_122 (Nat.le_of_ble_eq_true rfl) rfl (Nat.le_of_ble_eq_true rfl) (fun v3 h4 hw => ?_)
      refine r_iload_n C dX11_pass_125 rfl ?_
      refine r_icmp_eq 132 C dX11_pass_126 (by decide) (fun hc => ?_) (fun hc => ?_)
      · replace hw := it_t hc hw
        refine r_aload_n C dX11_pass_132 rfl ?_
        refine gX11_39 C (k0) dX11_pass_133 ?_
        refine r_iload_n C dX11_pass_136 rfl ?_
        refine r_iload_n C dX11_pass_137 rfl ?_
        refine r_bipush (10) C dX11_pass_138 (by decide) ?_
        refine r_irem C dX11_pass_140 (by decide) ?_
        refine kX11_212 C (kr11_5 (k0)) (sX3_move (kr11_5 (k0)) hw) dX11_pass_141 (Nat.le_of_ble_eq_true rfl) rfl (Nat.le_of_ble_eq_true rfl) (fun h6 hw => ?_)
        refine r_aload_n C dX11_pass_144 rfl ?_
        refine kX11_216 C (k0) (sX11_peopleWithin (k0) hw) dX11_pass_145 (Nat.le_of_ble_eq_true rfl) rfl (Nat.le_of_ble_eq_true rfl) (fun v7 hw => ?_)
        exact r_iret C dX11_pass_148 ⟨_, rfl, hw⟩
      · replace hw := it_f hc hw
        refine r_bipush (-2) C dX11_pass_129 (by decide) ?_
        exact r_iret C dX11_pass_131 ⟨_, rfl, hw⟩
    · replace hw := it_f hc hw
      refine r_bipush (-2) C dX11_pass_95 (by decide) ?_
      exact r_iret C dX11_pass_97 ⟨_, rfl, hw⟩
def wX11_pass (a0 : Nat) (x1 : Int32) (x2 : Int32) (h : Hp) (Q : Int32 → Hp → Prop) : Prop :=
  wX11_isGateAndWay a0 x1 h (fun v1 => if v1 = 0 then (Q (-1 : Int32) h) else (if x2 < 0 then (Q (-1 : Int32) h) else (if x2 < (shl (1 : Int32) (gI h (rf a0 1) 3)) then (if (gI h (rf a0 5) 1) < (60 : Int32) then (if (rm x1 (10 : Int32)) = 0 then (jX11_pass_68 a0 x1 x2 ((gI h (rf a0 5) 2) ^^^ (-1 : Int32)) h Q) else (jX11_pass_68 a0 x1 x2 (gI h (rf a0 5) 2) h Q)) else (Q (-5 : Int32) h)) else (Q (-1 : Int32) h))))
set_option maxRecDepth 20000 in
theorem sX11_pass {G : GG} {a0 : Nat} {x1 : Int32} {x2 : Int32} {h : Hp} {Q : Int32 → Hp → Prop} (k0 : kd a0 = 11) (hw : wX11_pass a0 x1 x2 h Q) : CI G 4 yX11_pass cX11_pass 4 (some .int) [.ref (G.1 a0), .int x1, .int x2] h Q := by
  refine CO_of [some (.ref (G.1 a0)), some (.int x1), some (.int x2), none] (by decide) (Nat.le_of_ble_eq_true rfl) rfl (fun X C => ?_)
  unfold wX11_pass at hw
  refine r_aload_n C dX11_pass_0 rfl ?_
  refine r_iload_n C dX11_pass_1 rfl ?_
  refine kX11_184 C (k0) (sX11_isGateAndWay (k0) hw) dX11_pass_2 (Nat.le_of_ble_eq_true rfl) rfl (Nat.le_of_ble_eq_true rfl) (fun v1 hw => ?_)
  refine r_if_eq 25 C dX11_pass_5 (by decide) (fun hc => ?_) (fun hc => ?_)
  · replace hw := it_t hc hw
    refine r_iconst (-1) C dX11_pass_25 (by decide) ?_
    exact r_iret C dX11_pass_26 ⟨_, rfl, hw⟩
  · replace hw := it_f hc hw
    refine r_iload_n C dX11_pass_8 rfl ?_
    refine r_if_lt 25 C dX11_pass_9 (by decide) (fun hc => ?_) (fun hc => ?_)
    · replace hw := it_t hc hw
      refine r_iconst (-1) C dX11_pass_25 (by decide) ?_
      exact r_iret C dX11_pass_26 ⟨_, rfl, hw⟩
    · replace hw := it_f hc hw
      refine r_iload_n C dX11_pass_12 rfl ?_
      refine r_iconst (1) C dX11_pass_13 (by decide) ?_
      refine r_aload_n C dX11_pass_14 rfl ?_
      refine gX11_19 C (k0) dX11_pass_15 ?_
      refine gX11_197 C (kr11_1 (k0)) dX11_pass_18 ?_
      refine r_ishl C dX11_pass_21 ?_
      refine r_icmp_lt 27 C dX11_pass_22 (by decide) (fun hc => ?_) (fun hc => ?_)
      · replace hw := it_t hc hw
        refine r_aload_n C dX11_pass_27 rfl ?_
        refine gX11_39 C (k0) dX11_pass_28 ?_
        refine gX11_167 C (kr11_5 (k0)) dX11_pass_31 ?_
        refine r_bipush (60) C dX11_pass_34 (by decide) ?_
        refine r_icmp_lt 42 C dX11_pass_36 (by decide) (fun hc => ?_) (fun hc => ?_)
        · replace hw := it_t hc hw
          refine r_iload_n C dX11_pass_42 rfl ?_
          refine r_bipush (10) C dX11_pass_43 (by decide) ?_
          refine r_irem C dX11_pass_45 (by decide) ?_
          refine r_if_ne 61 C dX11_pass_46 (by decide) (fun hc => ?_) (fun hc => ?_)
          · replace hw := it_f hc hw
            refine r_aload_n C dX11_pass_61 rfl ?_
            refine gX11_39 C (k0) dX11_pass_62 ?_
            refine gX11_157 C (kr11_5 (k0)) dX11_pass_65 ?_
            exact tX11_pass_68 C (k0) hw
          · replace hw := it_t hc hw
            refine r_aload_n C dX11_pass_49 rfl ?_
            refine gX11_39 C (k0) dX11_pass_50 ?_
            refine gX11_157 C (kr11_5 (k0)) dX11_pass_53 ?_
            refine r_iconst (-1) C dX11_pass_56 (by decide) ?_
            refine r_ixor C dX11_pass_57 ?_
            refine r_goto 68 C dX11_pass_58 (by decide) ?_
            exact tX11_pass_68 C (k0) hw
        · replace hw := it_f hc hw
          refine r_bipush (-5) C dX11_pass_39 (by decide) ?_
          exact r_iret C dX11_pass_41 ⟨_, rfl, hw⟩
      · replace hw := it_f hc hw
        refine r_iconst (-1) C dX11_pass_25 (by decide) ?_
        exact r_iret C dX11_pass_26 ⟨_, rfl, hw⟩
def fX11_tick_32 (a0 : Nat) (x1 : Int32) (Q : Int32 → Hp → Prop) (K32 : Int32 → Hp → Prop) (x2 : Int32) (h : Hp) : Prop :=
  if x1 ≤ x2 then (Q (gI h (rf a0 5) 1) h) else (wX11_waitingNow a0 h (fun v1 => wX3_pay (rf a0 5) (rf a0 1) v1 h (fun h3 => ∀ h4 : Hp, h4 = sI h3 (rf a0 5) 1 ((gI h3 (rf a0 5) 1) + (1 : Int32)) → (∀ v5 : Int32, v5 = x2 + (1 : Int32) → (K32 v5 h4)))))
def eX11_tick_32 (a0 : Nat) (x1 : Int32) (Q : Int32 → Hp → Prop) (x2 : Int32) (h : Hp) : Prop := ∃ N, lpN (fun (K : Int32 × Hp → Prop) (s : Int32 × Hp) => fX11_tick_32 a0 x1 Q (fun x2 h => K (x2, h)) s.1 s.2) N (x2, h)
theorem iX11_tick_32 {a0 : Nat} {x1 : Int32} {Q : Int32 → Hp → Prop} (I : Int32 → Hp → Prop) (μ : Int32 → Hp → Nat) (hs : ∀ (x2 : Int32) (h : Hp), I x2 h → ∀ K : Int32 → Hp → Prop, (∀ (x2' : Int32) (h' : Hp), I x2' h' → μ x2' h' < μ x2 h → K x2' h') → fX11_tick_32 a0 x1 Q K x2 h) : ∀ (x2 : Int32) (h : Hp), I x2 h → eX11_tick_32 a0 x1 Q x2 h := fun x2 h hI => lp_ind (fun s => I s.1 s.2) (fun s => μ s.1 s.2) (fun s hs' K hK => hs s.1 s.2 hs' _ (fun x2' h' h1 h2 => hK (x2', h') h1 h2)) (x2, h) hI
set_option maxRecDepth 20000 in
theorem tX11_tick_32 {G : GG} {X : XX} {a0 : Nat} {x1 : Int32} {x2 : Int32} {h : Hp}  {Q : Int32 → Hp → Prop} (C : Cx G RX11 cX11_tick 3 (some .int) 3 0 0 X) (k0 : kd a0 = 11) (hw : eX11_tick_32 a0 x1 Q x2 h) : R0 G X 0 0 (ZM G (fun r h' => ∃ v, r = some (.int v) ∧ Q v h') X) 32 [some (.ref (G.1 a0)), some (.int x1), some (.int x2)] [] h := by
  obtain ⟨N, hw⟩ := hw
  induction N generalizing x2 h with
  | zero => exact hw.elim
  | succ N ih =>
    obtain ⟨K32, eK⟩ : ∃ K : Int32 → Hp → Prop, K = (fun x2 h => lpN (fun (K : Int32 × Hp → Prop) (s : Int32 × Hp) => fX11_tick_32 a0 x1 Q (fun x2 h => K (x2, h)) s.1 s.2) N (x2, h)) := ⟨_, rfl⟩
    have hw : fX11_tick_32 a0 x1 Q (fun x2 h => lpN (fun (K : Int32 × Hp → Prop) (s : Int32 × Hp) => fX11_tick_32 a0 x1 Q (fun x2 h => K (x2, h)) s.1 s.2) N (x2, h)) x2 h := hw
    have hK32 : ∀ (x2 : Int32) (h : Hp), K32 x2 h → R0 G X 0 0 (ZM G (fun r h' => ∃ v, r = some (.int v) ∧ Q v h') X) 32 [some (.ref (G.1 a0)), some (.int x1), some (.int x2)] [] h := fun x2 h q => ih (by rw [eK] at q; exact q)
    rw [← eK] at hw
    clear eK ih
    unfold fX11_tick_32 at hw
    refine r_iload_n C dX11_tick_32 rfl ?_
    refine r_iload_n C dX11_tick_33 rfl ?_
    refine r_icmp_ge 71 C dX11_tick_34 (by decide) (fun hc => ?_) (fun hc => ?_)
    · replace hw := it_t hc hw
      refine r_aload_n C dX11_tick_71 rfl ?_
      refine gX11_39 C (k0) dX11_tick_72 ?_
      refine gX11_167 C (kr11_5 (k0)) dX11_tick_75 ?_
      exact r_iret C dX11_tick_78 ⟨_, rfl, hw⟩
    · replace hw := it_f hc hw
      refine r_aload_n C dX11_tick_37 rfl ?_
      refine gX11_39 C (k0) dX11_tick_38 ?_
      refine r_aload_n C dX11_tick_41 rfl ?_
      refine gX11_19 C (k0) dX11_tick_42 ?_
      refine r_aload_n C dX11_tick_45 rfl ?_
      refine kX11_170 C (k0) (sX11_waitingNow (k0) hw) dX11_tick_46 (Nat.le_of_ble_eq_true rfl) rfl (Nat.le_of_ble_eq_true rfl) (fun v1 hw => ?_)
      refine kX11_219 C (kr11_5 (k0)) (sX3_pay (kr11_5 (k0)) (kr11_1 (k0)) hw) dX11_tick_49 (Nat.le_of_ble_eq_true rfl) rfl (Nat.le_of_ble_eq_true rfl) (fun h3 hw => ?_)
      refine r_aload_n C dX11_tick_52 rfl ?_
      refine gX11_39 C (k0) dX11_tick_53 ?_
      refine r_dup C dX11_tick_56 rfl ?_
      refine gX11_167 C (kr11_5 (k0)) dX11_tick_57 ?_
      refine r_iconst (1) C dX11_tick_60 (by decide) ?_
      refine r_iadd C dX11_tick_61 ?_
      refine pX11_167 C (kr11_5 (k0)) dX11_tick_62 ?_
      refine r_toph (fun h4 eh4 => ?_)
      replace hw := hw h4 eh4
      obtain ⟨v5, ev5⟩ : ∃ v : Int32, v = x2 + (1 : Int32) := ⟨_, rfl⟩
      replace hw := hw v5 ev5
      refine r_iinc v5 [some (.ref (G.1 a0)), some (.int x1), some (.int v5)] C dX11_tick_65 rfl (by rw [ev5]; rfl) rfl rfl ?_
      refine r_goto 32 C dX11_tick_68 (by decide) ?_
      exact hK32 _ _ hw
def wX11_tick (a0 : Nat) (x1 : Int32) (h : Hp) (Q : Int32 → Hp → Prop) : Prop :=
  if x1 < (1 : Int32) then (Q (-1 : Int32) h) else (if x1 ≤ (60 : Int32) then (if ((gI h (rf a0 5) 1) + x1) ≤ (60 : Int32) then (eX11_tick_32 a0 x1 Q (0 : Int32) h) else (Q (-5 : Int32) h)) else (Q (-1 : Int32) h))
set_option maxRecDepth 20000 in
theorem sX11_tick {G : GG} {a0 : Nat} {x1 : Int32} {h : Hp} {Q : Int32 → Hp → Prop} (k0 : kd a0 = 11) (hw : wX11_tick a0 x1 h Q) : CI G 3 yX11_tick cX11_tick 3 (some .int) [.ref (G.1 a0), .int x1] h Q := by
  refine CO_of [some (.ref (G.1 a0)), some (.int x1), none] (by decide) (Nat.le_of_ble_eq_true rfl) rfl (fun X C => ?_)
  unfold wX11_tick at hw
  refine r_iload_n C dX11_tick_0 rfl ?_
  refine r_iconst (1) C dX11_tick_1 (by decide) ?_
  refine r_icmp_lt 11 C dX11_tick_2 (by decide) (fun hc => ?_) (fun hc => ?_)
  · replace hw := it_t hc hw
    refine r_iconst (-1) C dX11_tick_11 (by decide) ?_
    exact r_iret C dX11_tick_12 ⟨_, rfl, hw⟩
  · replace hw := it_f hc hw
    refine r_iload_n C dX11_tick_5 rfl ?_
    refine r_bipush (60) C dX11_tick_6 (by decide) ?_
    refine r_icmp_le 13 C dX11_tick_8 (by decide) (fun hc => ?_) (fun hc => ?_)
    · replace hw := it_t hc hw
      refine r_aload_n C dX11_tick_13 rfl ?_
      refine gX11_39 C (k0) dX11_tick_14 ?_
      refine gX11_167 C (kr11_5 (k0)) dX11_tick_17 ?_
      refine r_iload_n C dX11_tick_20 rfl ?_
      refine r_iadd C dX11_tick_21 ?_
      refine r_bipush (60) C dX11_tick_22 (by decide) ?_
      refine r_icmp_le 30 C dX11_tick_24 (by decide) (fun hc => ?_) (fun hc => ?_)
      · replace hw := it_t hc hw
        refine r_iconst (0) C dX11_tick_30 (by decide) ?_
        refine r_istore_n [some (.ref (G.1 a0)), some (.int x1), some (.int (0 : Int32))] C dX11_tick_31 (Nat.le_of_ble_eq_true rfl) rfl rfl ?_
        exact tX11_tick_32 C (k0) hw
      · replace hw := it_f hc hw
        refine r_bipush (-5) C dX11_tick_27 (by decide) ?_
        exact r_iret C dX11_tick_29 ⟨_, rfl, hw⟩
    · replace hw := it_f hc hw
      refine r_iconst (-1) C dX11_tick_11 (by decide) ?_
      exact r_iret C dX11_tick_12 ⟨_, rfl, hw⟩
