def wX0_isKind (x0 : Int32) (h : Hp) (Q : Int32 → Prop) : Prop :=
  if x0 < 0 then (Q (0 : Int32)) else (if (8 : Int32) ≤ x0 then (Q (0 : Int32)) else (Q (1 : Int32)))
set_option maxRecDepth 20000 in
theorem sX0_isKind {G : GG} {x0 : Int32} {h : Hp} {Q : Int32 → Prop} (hw : wX0_isKind x0 h Q) : PI G 0 yX0_isKind cX0_isKind 1 (some .boolean) [.int x0] h Q := by
  refine CO_of [some (.int x0)] (by decide) (Nat.le_of_ble_eq_true rfl) rfl (fun X C => ?_)
  unfold wX0_isKind at hw
  refine r_iload_n C dX0_isKind_0 rfl ?_
  refine r_if_lt 14 C dX0_isKind_1 (by decide) (fun hc => ?_) (fun hc => ?_)
  · replace hw := it_t hc hw
    refine r_iconst (0) C dX0_isKind_14 (by decide) ?_
    exact r_zret C dX0_isKind_15 rfl ⟨_, rfl, rfl, hw⟩
  · replace hw := it_f hc hw
    refine r_iload_n C dX0_isKind_4 rfl ?_
    refine r_bipush (8) C dX0_isKind_5 (by decide) ?_
    refine r_icmp_ge 14 C dX0_isKind_7 (by decide) (fun hc => ?_) (fun hc => ?_)
    · replace hw := it_t hc hw
      refine r_iconst (0) C dX0_isKind_14 (by decide) ?_
      exact r_zret C dX0_isKind_15 rfl ⟨_, rfl, rfl, hw⟩
    · replace hw := it_f hc hw
      refine r_iconst (1) C dX0_isKind_10 (by decide) ?_
      refine r_goto 15 C dX0_isKind_11 (by decide) ?_
      exact r_zret C dX0_isKind_15 rfl ⟨_, rfl, rfl, hw⟩
def fX0_isUnder_4 (x1 : Int32) (h : Hp) (Q : Int32 → Prop) (K4 : Int32 → Int32 → Prop) (x2 : Int32) (x3 : Int32) : Prop :=
  if (8 : Int32) ≤ x3 then (Q (0 : Int32)) else (wX0_isKind x2 h (fun v1 => if v1 = 0 then (Q (0 : Int32)) else (if x2 = x1 then (Q (1 : Int32)) else (vp_in x2 8 ∧ (∀ v3 : Int32, v3 = (abvL.getD x2.toNatClampNeg 0) → (∀ v4 : Int32, v4 = x3 + (1 : Int32) → (K4 v3 v4)))))))
def eX0_isUnder_4 (x1 : Int32) (h : Hp) (Q : Int32 → Prop) (x2 : Int32) (x3 : Int32) : Prop := ∃ N, lpN (fun (K : Int32 × Int32 → Prop) (s : Int32 × Int32) => fX0_isUnder_4 x1 h Q (fun x2 x3 => K (x2, x3)) s.1 s.2) N (x2, x3)
theorem iX0_isUnder_4 {x1 : Int32} {h : Hp} {Q : Int32 → Prop} (I : Int32 → Int32 → Prop) (μ : Int32 → Int32 → Nat) (hs : ∀ (x2 : Int32) (x3 : Int32), I x2 x3 → ∀ K : Int32 → Int32 → Prop, (∀ (x2' : Int32) (x3' : Int32), I x2' x3' → μ x2' x3' < μ x2 x3 → K x2' x3') → fX0_isUnder_4 x1 h Q K x2 x3) : ∀ (x2 : Int32) (x3 : Int32), I x2 x3 → eX0_isUnder_4 x1 h Q x2 x3 := fun x2 x3 hI => lp_ind (fun s => I s.1 s.2) (fun s => μ s.1 s.2) (fun s hs' K hK => hs s.1 s.2 hs' _ (fun x2' x3' h1 h2 => hK (x2', x3') h1 h2)) (x2, x3) hI
set_option maxRecDepth 20000 in
theorem tX0_isUnder_4 {G : GG} {X : XX} {x1 : Int32} {x2 : Int32} {x3 : Int32} {h : Hp}  {Q : Int32 → Prop} (C : Cx G RX0 cX0_isUnder 4 (some .boolean) 1 0 0 X) (hw : eX0_isUnder_4 x1 h Q x2 x3) : R0 G X 0 0 (ZM G (fun r h' => ∃ v, r = some (.int v) ∧ h' = h ∧ Q v) X) 4 [none, some (.int x1), some (.int x2), some (.int x3)] [] h := by
  obtain ⟨N, hw⟩ := hw
  induction N generalizing x2 x3 with
  | zero => exact hw.elim
  | succ N ih =>
    obtain ⟨K4, eK⟩ : ∃ K : Int32 → Int32 → Prop, K = (fun x2 x3 => lpN (fun (K : Int32 × Int32 → Prop) (s : Int32 × Int32) => fX0_isUnder_4 x1 h Q (fun x2 x3 => K (x2, x3)) s.1 s.2) N (x2, x3)) := ⟨_, rfl⟩
    have hw : fX0_isUnder_4 x1 h Q (fun x2 x3 => lpN (fun (K : Int32 × Int32 → Prop) (s : Int32 × Int32) => fX0_isUnder_4 x1 h Q (fun x2 x3 => K (x2, x3)) s.1 s.2) N (x2, x3)) x2 x3 := hw
    have hK4 : ∀ (x2 : Int32) (x3 : Int32), K4 x2 x3 → R0 G X 0 0 (ZM G (fun r h' => ∃ v, r = some (.int v) ∧ h' = h ∧ Q v) X) 4 [none, some (.int x1), some (.int x2), some (.int x3)] [] h := fun x2 x3 q => ih (by rw [eK] at q; exact q)
    rw [← eK] at hw
    clear eK ih
    unfold fX0_isUnder_4 at hw
    refine r_iload_n C dX0_isUnder_4 rfl ?_
    refine r_bipush (8) C dX0_isUnder_5 (by decide) ?_
    refine r_icmp_ge 36 C dX0_isUnder_7 (by decide) (fun hc => ?_) (fun hc => ?_)
    · replace hw := it_t hc hw
      refine r_iconst (0) C dX0_isUnder_36 (by decide) ?_
      exact r_zret C dX0_isUnder_37 rfl ⟨_, rfl, rfl, hw⟩
    · replace hw := it_f hc hw
      refine r_iload_n C dX0_isUnder_10 rfl ?_
      refine kX0_18 C (sX0_isKind hw) dX0_isUnder_11 (Nat.le_of_ble_eq_true rfl) rfl (Nat.le_of_ble_eq_true rfl) (fun v1 hw => ?_)
      refine r_if_eq 36 C dX0_isUnder_14 (by decide) (fun hc => ?_) (fun hc => ?_)
      · replace hw := it_t hc hw
        refine r_iconst (0) C dX0_isUnder_36 (by decide) ?_
        exact r_zret C dX0_isUnder_37 rfl ⟨_, rfl, rfl, hw⟩
      · replace hw := it_f hc hw
        refine r_iload_n C dX0_isUnder_17 rfl ?_
        refine r_iload_n C dX0_isUnder_18 rfl ?_
        refine r_icmp_ne 24 C dX0_isUnder_19 (by decide) (fun hc => ?_) (fun hc => ?_)
        · replace hw := it_f hc hw
          refine r_abv C wd972 dX0_isUnder_24 ?_
          refine r_iload_n C dX0_isUnder_27 rfl ?_
          obtain ⟨hi2, hw⟩ := hw
          refine r_abvi C hi2 dX0_isUnder_28 ?_
          refine r_topi (fun v3 ev3 => ?_)
          replace hw := hw v3 ev3
          refine r_istore_n [none, some (.int x1), some (.int v3), some (.int x3)] C dX0_isUnder_29 (Nat.le_of_ble_eq_true rfl) rfl rfl ?_
          obtain ⟨v4, ev4⟩ : ∃ v : Int32, v = x3 + (1 : Int32) := ⟨_, rfl⟩
          replace hw := hw v4 ev4
          refine r_iinc v4 [none, some (.int x1), some (.int v3), some (.int v4)] C dX0_isUnder_30 rfl (by rw [ev4]; rfl) rfl rfl ?_
          refine r_goto 4 C dX0_isUnder_33 (by decide) ?_
          exact hK4 _ _ hw
        · replace hw := it_t hc hw
          refine r_iconst (1) C dX0_isUnder_22 (by decide) ?_
          exact r_zret C dX0_isUnder_23 rfl ⟨_, rfl, rfl, hw⟩
def wX0_isUnder (x0 : Int32) (x1 : Int32) (h : Hp) (Q : Int32 → Prop) : Prop :=
  eX0_isUnder_4 x1 h Q x0 (0 : Int32)
set_option maxRecDepth 20000 in
theorem sX0_isUnder {G : GG} {x0 : Int32} {x1 : Int32} {h : Hp} {Q : Int32 → Prop} (hw : wX0_isUnder x0 x1 h Q) : PI G 1 yX0_isUnder cX0_isUnder 4 (some .boolean) [.int x0, .int x1] h Q := by
  refine CO_of [some (.int x0), some (.int x1), none, none] (by decide) (Nat.le_of_ble_eq_true rfl) rfl (fun X C => ?_)
  unfold wX0_isUnder at hw
  refine r_iload_n C dX0_isUnder_0 rfl ?_
  refine r_istore_n [some (.int x0), some (.int x1), some (.int x0), none] C dX0_isUnder_1 (Nat.le_of_ble_eq_true rfl) rfl rfl ?_
  refine r_iconst (0) C dX0_isUnder_2 (by decide) ?_
  refine r_istore_n [some (.int x0), some (.int x1), some (.int x0), some (.int (0 : Int32))] C dX0_isUnder_3 (Nat.le_of_ble_eq_true rfl) rfl rfl ?_
  refine r_weak [none, some (.int x1), some (.int x0), some (.int (0 : Int32))] (lw_d (lw_k (lw_k (lw_k (lw_n))))) ?_
  exact tX0_isUnder_4 C  hw
def wX0_add (a0 : Nat) (x1 : Int32) (h : Hp) (Q : Int32 → Hp → Prop) : Prop :=
  if (gI h a0 2) < (50 : Int32) then (vp_in (gI h a0 2) (ln (rf a0 0)) ∧ (∀ h2 : Hp, h2 = sI h (rf a0 0) (gI h a0 2).toNatClampNeg x1 → (∀ h3 : Hp, h3 = sI h2 a0 2 ((gI h2 a0 2) + (1 : Int32)) → (Q ((gI h3 a0 2) - (1 : Int32)) h3)))) else (Q (-3 : Int32) h)
set_option maxRecDepth 20000 in
theorem sX0_add {G : GG} {a0 : Nat} {x1 : Int32} {h : Hp} {Q : Int32 → Hp → Prop} (k0 : kd a0 = 0) (hw : wX0_add a0 x1 h Q) : CI G 0 yX0_add cX0_add 2 (some .int) [.ref (G.1 a0), .int x1] h Q := by
  refine CO_of [some (.ref (G.1 a0)), some (.int x1)] (by decide) (Nat.le_of_ble_eq_true rfl) rfl (fun X C => ?_)
  unfold wX0_add at hw
  refine r_aload_n C dX0_add_0 rfl ?_
  refine gX0_25 C (k0) dX0_add_1 ?_
  refine r_bipush (50) C dX0_add_4 (by decide) ?_
  refine r_icmp_lt 12 C dX0_add_6 (by decide) (fun hc => ?_) (fun hc => ?_)
  · replace hw := it_t hc hw
    refine r_aload_n C dX0_add_12 rfl ?_
    refine gX0_11 C (k0) dX0_add_13 ?_
    refine r_aload_n C dX0_add_16 rfl ?_
    refine gX0_25 C (k0) dX0_add_17 ?_
    refine r_iload_n C dX0_add_20 rfl ?_
    obtain ⟨hi1, hw⟩ := hw
    refine r_iast C (kr0_0 (k0)) hi1 dX0_add_21 ?_
    refine r_toph (fun h2 eh2 => ?_)
    replace hw := hw h2 eh2
    refine r_aload_n C dX0_add_22 rfl ?_
    refine r_dup C dX0_add_23 rfl ?_
    refine gX0_25 C (k0) dX0_add_24 ?_
    refine r_iconst (1) C dX0_add_27 (by decide) ?_
    refine r_iadd C dX0_add_28 ?_
    refine pX0_25 C (k0) dX0_add_29 ?_
    refine r_toph (fun h3 eh3 => ?_)
    replace hw := hw h3 eh3
    refine r_aload_n C dX0_add_32 rfl ?_
    refine gX0_25 C (k0) dX0_add_33 ?_
    refine r_iconst (1) C dX0_add_36 (by decide) ?_
    refine r_isub C dX0_add_37 ?_
    exact r_iret C dX0_add_38 ⟨_, rfl, hw⟩
  · replace hw := it_f hc hw
    refine r_bipush (-3) C dX0_add_9 (by decide) ?_
    exact r_iret C dX0_add_11 ⟨_, rfl, hw⟩
def wX0_has (a0 : Nat) (x1 : Int32) (h : Hp) (Q : Int32 → Prop) : Prop :=
  if x1 < 0 then (Q (0 : Int32)) else (if (gI h a0 2) ≤ x1 then (Q (0 : Int32)) else (Q (1 : Int32)))
set_option maxRecDepth 20000 in
theorem sX0_has {G : GG} {a0 : Nat} {x1 : Int32} {h : Hp} {Q : Int32 → Prop} (k0 : kd a0 = 0) (hw : wX0_has a0 x1 h Q) : PI G 0 yX0_has cX0_has 2 (some .boolean) [.ref (G.1 a0), .int x1] h Q := by
  refine CO_of [some (.ref (G.1 a0)), some (.int x1)] (by decide) (Nat.le_of_ble_eq_true rfl) rfl (fun X C => ?_)
  unfold wX0_has at hw
  refine r_iload_n C dX0_has_0 rfl ?_
  refine r_if_lt 16 C dX0_has_1 (by decide) (fun hc => ?_) (fun hc => ?_)
  · replace hw := it_t hc hw
    refine r_iconst (0) C dX0_has_16 (by decide) ?_
    exact r_zret C dX0_has_17 rfl ⟨_, rfl, rfl, hw⟩
  · replace hw := it_f hc hw
    refine r_iload_n C dX0_has_4 rfl ?_
    refine r_aload_n C dX0_has_5 rfl ?_
    refine gX0_25 C (k0) dX0_has_6 ?_
    refine r_icmp_ge 16 C dX0_has_9 (by decide) (fun hc => ?_) (fun hc => ?_)
    · replace hw := it_t hc hw
      refine r_iconst (0) C dX0_has_16 (by decide) ?_
      exact r_zret C dX0_has_17 rfl ⟨_, rfl, rfl, hw⟩
    · replace hw := it_f hc hw
      refine r_iconst (1) C dX0_has_12 (by decide) ?_
      refine r_goto 17 C dX0_has_13 (by decide) ?_
      exact r_zret C dX0_has_17 rfl ⟨_, rfl, rfl, hw⟩
def wX0_kindOf (a0 : Nat) (x1 : Int32) (h : Hp) (Q : Int32 → Prop) : Prop :=
  wX0_has a0 x1 h (fun v1 => if v1 = 0 then (Q (-1 : Int32)) else (vp_in x1 (ln (rf a0 0)) ∧ (Q (gI h (rf a0 0) x1.toNatClampNeg))))
set_option maxRecDepth 20000 in
theorem sX0_kindOf {G : GG} {a0 : Nat} {x1 : Int32} {h : Hp} {Q : Int32 → Prop} (k0 : kd a0 = 0) (hw : wX0_kindOf a0 x1 h Q) : PI G 1 yX0_kindOf cX0_kindOf 2 (some .int) [.ref (G.1 a0), .int x1] h Q := by
  refine CO_of [some (.ref (G.1 a0)), some (.int x1)] (by decide) (Nat.le_of_ble_eq_true rfl) rfl (fun X C => ?_)
  unfold wX0_kindOf at hw
  refine r_aload_n C dX0_kindOf_0 rfl ?_
  refine r_iload_n C dX0_kindOf_1 rfl ?_
  refine kX0_29 C (k0) (sX0_has (k0) hw) dX0_kindOf_2 (Nat.le_of_ble_eq_true rfl) rfl (Nat.le_of_ble_eq_true rfl) (fun v1 hw => ?_)
  refine r_if_eq 17 C dX0_kindOf_5 (by decide) (fun hc => ?_) (fun hc => ?_)
  · replace hw := it_t hc hw
    refine r_iconst (-1) C dX0_kindOf_17 (by decide) ?_
    exact r_iret C dX0_kindOf_18 ⟨_, rfl, rfl, hw⟩
  · replace hw := it_f hc hw
    refine r_aload_n C dX0_kindOf_8 rfl ?_
    refine gX0_11 C (k0) dX0_kindOf_9 ?_
    refine r_iload_n C dX0_kindOf_12 rfl ?_
    obtain ⟨hi2, hw⟩ := hw
    refine r_iald C (kr0_0 (k0)) hi2 dX0_kindOf_13 ?_
    refine r_goto 18 C dX0_kindOf_14 (by decide) ?_
    exact r_iret C dX0_kindOf_18 ⟨_, rfl, rfl, hw⟩
def wX0_traced (a0 : Nat) (h : Hp) (Q : Int32 → Prop) : Prop :=
  Q (mn (gI h a0 3) (24 : Int32))
set_option maxRecDepth 20000 in
theorem sX0_traced {G : GG} {a0 : Nat} {h : Hp} {Q : Int32 → Prop} (k0 : kd a0 = 0) (hw : wX0_traced a0 h Q) : PI G 1 yX0_traced cX0_traced 1 (some .int) [.ref (G.1 a0)] h Q := by
  refine CO_of [some (.ref (G.1 a0))] (by decide) (Nat.le_of_ble_eq_true rfl) rfl (fun X C => ?_)
  unfold wX0_traced at hw
  refine r_aload_n C dX0_traced_0 rfl ?_
  refine gX0_32 C (k0) dX0_traced_1 ?_
  refine r_bipush (24) C dX0_traced_4 (by decide) ?_
  refine r_mmin C ⟨wd994, wd667, wd109, wd668⟩ (Nat.le_of_ble_eq_true rfl) rfl (Nat.le_of_ble_eq_true rfl) dX0_traced_6 ?_
  exact r_iret C dX0_traced_9 ⟨_, rfl, rfl, hw⟩
def fX0_runFrom_4 (x1 : Int32) (h : Hp) (Q : Int32 → Prop) (K4 : Int32 → Int32 → Prop) (x2 : Int32) (x3 : Int32) : Prop :=
  if (8 : Int32) ≤ x3 then (Q (0 : Int32)) else (wX0_isKind x2 h (fun v1 => if v1 = 0 then (Q (0 : Int32)) else (vp_in ((x2 * (4 : Int32)) + x1) 32 ∧ (if (ownL.getD ((x2 * (4 : Int32)) + x1).toNatClampNeg 0) = 0 then (vp_in x2 8 ∧ (∀ v4 : Int32, v4 = (abvL.getD x2.toNatClampNeg 0) → (∀ v5 : Int32, v5 = x3 + (1 : Int32) → (K4 v4 v5)))) else (vp_in ((x2 * (4 : Int32)) + x1) 32 ∧ (Q (ownL.getD ((x2 * (4 : Int32)) + x1).toNatClampNeg 0)))))))
def eX0_runFrom_4 (x1 : Int32) (h : Hp) (Q : Int32 → Prop) (x2 : Int32) (x3 : Int32) : Prop := ∃ N, lpN (fun (K : Int32 × Int32 → Prop) (s : Int32 × Int32) => fX0_runFrom_4 x1 h Q (fun x2 x3 => K (x2, x3)) s.1 s.2) N (x2, x3)
theorem iX0_runFrom_4 {x1 : Int32} {h : Hp} {Q : Int32 → Prop} (I : Int32 → Int32 → Prop) (μ : Int32 → Int32 → Nat) (hs : ∀ (x2 : Int32) (x3 : Int32), I x2 x3 → ∀ K : Int32 → Int32 → Prop, (∀ (x2' : Int32) (x3' : Int32), I x2' x3' → μ x2' x3' < μ x2 x3 → K x2' x3') → fX0_runFrom_4 x1 h Q K x2 x3) : ∀ (x2 : Int32) (x3 : Int32), I x2 x3 → eX0_runFrom_4 x1 h Q x2 x3 := fun x2 x3 hI => lp_ind (fun s => I s.1 s.2) (fun s => μ s.1 s.2) (fun s hs' K hK => hs s.1 s.2 hs' _ (fun x2' x3' h1 h2 => hK (x2', x3') h1 h2)) (x2, x3) hI
set_option maxRecDepth 20000 in
theorem tX0_runFrom_4 {G : GG} {X : XX} {x1 : Int32} {x2 : Int32} {x3 : Int32} {h : Hp}  {Q : Int32 → Prop} (C : Cx G RX0 cX0_runFrom 4 (some .int) 1 0 0 X) (hw : eX0_runFrom_4 x1 h Q x2 x3) : R0 G X 0 0 (ZM G (fun r h' => ∃ v, r = some (.int v) ∧ h' = h ∧ Q v) X) 4 [none, some (.int x1), some (.int x2), some (.int x3)] [] h := by
  obtain ⟨N, hw⟩ := hw
  induction N generalizing x2 x3 with
  | zero => exact hw.elim
  | succ N ih =>
    obtain ⟨K4, eK⟩ : ∃ K : Int32 → Int32 → Prop, K = (fun x2 x3 => lpN (fun (K : Int32 × Int32 → Prop) (s : Int32 × Int32) => fX0_runFrom_4 x1 h Q (fun x2 x3 => K (x2, x3)) s.1 s.2) N (x2, x3)) := ⟨_, rfl⟩
    have hw : fX0_runFrom_4 x1 h Q (fun x2 x3 => lpN (fun (K : Int32 × Int32 → Prop) (s : Int32 × Int32) => fX0_runFrom_4 x1 h Q (fun x2 x3 => K (x2, x3)) s.1 s.2) N (x2, x3)) x2 x3 := hw
    have hK4 : ∀ (x2 : Int32) (x3 : Int32), K4 x2 x3 → R0 G X 0 0 (ZM G (fun r h' => ∃ v, r = some (.int v) ∧ h' = h ∧ Q v) X) 4 [none, some (.int x1), some (.int x2), some (.int x3)] [] h := fun x2 x3 q => ih (by rw [eK] at q; exact q)
    rw [← eK] at hw
    clear eK ih
    unfold fX0_runFrom_4 at hw
    refine r_iload_n C dX0_runFrom_4 rfl ?_
    refine r_bipush (8) C dX0_runFrom_5 (by decide) ?_
    refine r_icmp_ge 51 C dX0_runFrom_7 (by decide) (fun hc => ?_) (fun hc => ?_)
    · replace hw := it_t hc hw
      refine r_iconst (0) C dX0_runFrom_51 (by decide) ?_
      exact r_iret C dX0_runFrom_52 ⟨_, rfl, rfl, hw⟩
    · replace hw := it_f hc hw
      refine r_iload_n C dX0_runFrom_10 rfl ?_
      refine kX0_18 C (sX0_isKind hw) dX0_runFrom_11 (Nat.le_of_ble_eq_true rfl) rfl (Nat.le_of_ble_eq_true rfl) (fun v1 hw => ?_)
      refine r_if_eq 51 C dX0_runFrom_14 (by decide) (fun hc => ?_) (fun hc => ?_)
      · replace hw := it_t hc hw
        refine r_iconst (0) C dX0_runFrom_51 (by decide) ?_
        exact r_iret C dX0_runFrom_52 ⟨_, rfl, rfl, hw⟩
      · replace hw := it_f hc hw
        refine r_own C wd970 dX0_runFrom_17 ?_
        refine r_iload_n C dX0_runFrom_20 rfl ?_
        refine r_iconst (4) C dX0_runFrom_21 (by decide) ?_
        refine r_imul C dX0_runFrom_22 ?_
        refine r_iload_n C dX0_runFrom_23 rfl ?_
        refine r_iadd C dX0_runFrom_24 ?_
        obtain ⟨hi2, hw⟩ := hw
        refine r_owni C hi2 dX0_runFrom_25 ?_
        refine r_if_eq 39 C dX0_runFrom_26 (by decide) (fun hc => ?_) (fun hc => ?_)
        · replace hw := it_t hc hw
          refine r_abv C wd972 dX0_runFrom_39 ?_
          refine r_iload_n C dX0_runFrom_42 rfl ?_
          obtain ⟨hi3, hw⟩ := hw
          refine r_abvi C hi3 dX0_runFrom_43 ?_
          refine r_topi (fun v4 ev4 => ?_)
          replace hw := hw v4 ev4
          refine r_istore_n [none, some (.int x1), some (.int v4), some (.int x3)] C dX0_runFrom_44 (Nat.le_of_ble_eq_true rfl) rfl rfl ?_
          obtain ⟨v5, ev5⟩ : ∃ v : Int32, v = x3 + (1 : Int32) := ⟨_, rfl⟩
          replace hw := hw v5 ev5
          refine r_iinc v5 [none, some (.int x1), some (.int v4), some (.int v5)] C dX0_runFrom_45 rfl (by rw [ev5]; rfl) rfl rfl ?_
          refine r_goto 4 C dX0_runFrom_48 (by decide) ?_
          exact hK4 _ _ hw
        · replace hw := it_f hc hw
          refine r_own C wd970 dX0_runFrom_29 ?_
          refine r_iload_n C dX0_runFrom_32 rfl ?_
          refine r_iconst (4) C dX0_runFrom_33 (by decide) ?_
          refine r_imul C dX0_runFrom_34 ?_
          refine r_iload_n C dX0_runFrom_35 rfl ?_
          refine r_iadd C dX0_runFrom_36 ?_
          obtain ⟨hi6, hw⟩ := hw
          refine r_owni C hi6 dX0_runFrom_37 ?_
          exact r_iret C dX0_runFrom_38 ⟨_, rfl, rfl, hw⟩
def wX0_runFrom (x0 : Int32) (x1 : Int32) (h : Hp) (Q : Int32 → Prop) : Prop :=
  eX0_runFrom_4 x1 h Q x0 (0 : Int32)
set_option maxRecDepth 20000 in
theorem sX0_runFrom {G : GG} {x0 : Int32} {x1 : Int32} {h : Hp} {Q : Int32 → Prop} (hw : wX0_runFrom x0 x1 h Q) : PI G 1 yX0_runFrom cX0_runFrom 4 (some .int) [.int x0, .int x1] h Q := by
  refine CO_of [some (.int x0), some (.int x1), none, none] (by decide) (Nat.le_of_ble_eq_true rfl) rfl (fun X C => ?_)
  unfold wX0_runFrom at hw
  refine r_iload_n C dX0_runFrom_0 rfl ?_
  refine r_istore_n [some (.int x0), some (.int x1), some (.int x0), none] C dX0_runFrom_1 (Nat.le_of_ble_eq_true rfl) rfl rfl ?_
  refine r_iconst (0) C dX0_runFrom_2 (by decide) ?_
  refine r_istore_n [some (.int x0), some (.int x1), some (.int x0), some (.int (0 : Int32))] C dX0_runFrom_3 (Nat.le_of_ble_eq_true rfl) rfl rfl ?_
  refine r_weak [none, some (.int x1), some (.int x0), some (.int (0 : Int32))] (lw_d (lw_k (lw_k (lw_k (lw_n))))) ?_
  exact tX0_runFrom_4 C  hw
def jX0_begin_19 (a0 : Nat) (h : Hp) (Q : Hp → Prop) : Prop :=
  ∀ h1 : Hp, h1 = sI h a0 3 ((gI h a0 3) + (1 : Int32)) → (Q h1)
set_option maxRecDepth 20000 in
theorem tX0_begin_19 {G : GG} {X : XX} {a0 : Nat} {h : Hp}  {Q : Hp → Prop} (C : Cx G RX0 cX0_begin 2 none 0 0 0 X) (k0 : kd a0 = 0) (hw : jX0_begin_19 a0 h Q) : R0 G X 0 0 (ZM G (fun r h' => r = none ∧ Q h') X) 19 [some (.ref (G.1 a0)), none] [] h := by
  unfold jX0_begin_19 at hw
  refine r_aload_n C dX0_begin_19 rfl ?_
  refine r_dup C dX0_begin_20 rfl ?_
  refine gX0_32 C (k0) dX0_begin_21 ?_
  refine r_iconst (1) C dX0_begin_24 (by decide) ?_
  refine r_iadd C dX0_begin_25 ?_
  refine pX0_32 C (k0) dX0_begin_26 ?_
  refine r_toph (fun h1 eh1 => ?_)
  replace hw := hw h1 eh1
  exact r_vret C dX0_begin_29 ⟨rfl, hw⟩
def wX0_begin (a0 : Nat) (x1 : Int32) (h : Hp) (Q : Hp → Prop) : Prop :=
  if (24 : Int32) ≤ (gI h a0 3) then (jX0_begin_19 a0 h Q) else (vp_in (gI h a0 3) (ln (rf a0 1)) ∧ (∀ h2 : Hp, h2 = sI h (rf a0 1) (gI h a0 3).toNatClampNeg x1 → (jX0_begin_19 a0 h2 Q)))
set_option maxRecDepth 20000 in
theorem sX0_begin {G : GG} {a0 : Nat} {x1 : Int32} {h : Hp} {Q : Hp → Prop} (k0 : kd a0 = 0) (hw : wX0_begin a0 x1 h Q) : CV G 0 yX0_begin cX0_begin 2 none [.ref (G.1 a0), .int x1] h Q := by
  refine CO_of [some (.ref (G.1 a0)), some (.int x1)] (by decide) (Nat.le_of_ble_eq_true rfl) rfl (fun X C => ?_)
  unfold wX0_begin at hw
  refine r_aload_n C dX0_begin_0 rfl ?_
  refine gX0_32 C (k0) dX0_begin_1 ?_
  refine r_bipush (24) C dX0_begin_4 (by decide) ?_
  refine r_icmp_ge 19 C dX0_begin_6 (by decide) (fun hc => ?_) (fun hc => ?_)
  · replace hw := it_t hc hw
    refine r_weak [some (.ref (G.1 a0)), none] (lw_k (lw_d (lw_n))) ?_
    exact tX0_begin_19 C (k0) hw
  · replace hw := it_f hc hw
    refine r_aload_n C dX0_begin_9 rfl ?_
    refine gX0_15 C (k0) dX0_begin_10 ?_
    refine r_aload_n C dX0_begin_13 rfl ?_
    refine gX0_32 C (k0) dX0_begin_14 ?_
    refine r_iload_n C dX0_begin_17 rfl ?_
    obtain ⟨hi1, hw⟩ := hw
    refine r_iast C (kr0_1 (k0)) hi1 dX0_begin_18 ?_
    refine r_toph (fun h2 eh2 => ?_)
    replace hw := hw h2 eh2
    refine r_weak [some (.ref (G.1 a0)), none] (lw_k (lw_d (lw_n))) ?_
    exact tX0_begin_19 C (k0) hw
abbrev TG1 : Type := (Nat → Int32 → Int32 → Int32 → Hp → (Int32 → Hp → Prop) → Prop) × (Nat → Int32 → Int32 → Int32 → Int32 → Hp → (Int32 → Hp → Prop) → Prop) × (Nat → Int32 → Int32 → Int32 → Hp → (Int32 → Hp → Prop) → Prop)
def HG1 (G : GG) (r : TG1) (n : Nat) : Prop := (∀ (a0 : Nat) (x1 : Int32) (x2 : Int32) (x3 : Int32) (h : Hp) (Q : (Int32 → Hp → Prop)), kd a0 = 0 → r.1 a0 x1 x2 x3 h Q → CI G (2 + n) yX0_own cX0_own 4 (some .int) [.ref (G.1 a0), .int x1, .int x2, .int x3] h Q) ∧ (∀ (a0 : Nat) (x1 : Int32) (x2 : Int32) (x3 : Int32) (x4 : Int32) (h : Hp) (Q : (Int32 → Hp → Prop)), kd a0 = 0 → r.2.1 a0 x1 x2 x3 x4 h Q → CI G (2 + n) yX0_above cX0_above 6 (some .int) [.ref (G.1 a0), .int x1, .int x2, .int x3, .int x4] h Q) ∧ (∀ (a0 : Nat) (x1 : Int32) (x2 : Int32) (x3 : Int32) (h : Hp) (Q : (Int32 → Hp → Prop)), kd a0 = 0 → r.2.2 a0 x1 x2 x3 h Q → CI G (2 + n) yX0_run cX0_run 4 (some .int) [.ref (G.1 a0), .int x1, .int x2, .int x3] h Q)
def bX0_own (r : TG1) (a0 : Nat) (x1 : Int32) (x2 : Int32) (x3 : Int32) (h : Hp) (Q : Int32 → Hp → Prop) : Prop :=
  wX0_runFrom (gI h a0 5) x1 h (fun v1 => r.2.2 a0 v1 x2 (x3 + (1 : Int32)) h (fun v2 h3 => Q v2 h3))
set_option maxRecDepth 20000 in
theorem uX0_own {G : GG} {n : Nat} {r : TG1} {a0 : Nat} {x1 : Int32} {x2 : Int32} {x3 : Int32} {h : Hp} {Q : Int32 → Hp → Prop} (hr : HG1 G r n) (k0 : kd a0 = 0) (hw : bX0_own r a0 x1 x2 x3 h Q) : CI G (2 + n + 1) yX0_own cX0_own 4 (some .int) [.ref (G.1 a0), .int x1, .int x2, .int x3] h Q := by
  refine CO_of [some (.ref (G.1 a0)), some (.int x1), some (.int x2), some (.int x3)] (by decide) (Nat.le_of_ble_eq_true rfl) rfl (fun X C => ?_)
  unfold bX0_own at hw
  refine r_aload_n C dX0_own_0 rfl ?_
  refine r_aload_n C dX0_own_1 rfl ?_
  refine gX0_44 C (k0) dX0_own_2 ?_
  refine r_iload_n C dX0_own_5 rfl ?_
  refine kX0_51 C (sX0_runFrom hw) dX0_own_6 (by omega) rfl (Nat.le_of_ble_eq_true rfl) (fun v1 hw => ?_)
  refine r_iload_n C dX0_own_9 rfl ?_
  refine r_iload_n C dX0_own_10 rfl ?_
  refine r_iconst (1) C dX0_own_11 (by decide) ?_
  refine r_iadd C dX0_own_12 ?_
  refine kX0_54 C (k0) (hr.2.2 _ _ _ _ _ _ (k0) hw) dX0_own_13 (by omega) rfl (Nat.le_of_ble_eq_true rfl) (fun v2 h3 hw => ?_)
  exact r_iret C dX0_own_16 ⟨_, rfl, hw⟩
def jX0_above_27 (x2 : Int32) (x3 : Int32) (x4 : Int32) (b0 : Nat) (s1 : Int32) (h : Hp) (r : TG1) (Q : Int32 → Hp → Prop) : Prop :=
  wX0_runFrom s1 x2 h (fun v1 => r.2.2 b0 v1 x3 (x4 + (1 : Int32)) h (fun v2 h3 => Q v2 h3))
set_option maxRecDepth 20000 in
theorem tX0_above_27 {G : GG} {X : XX} {n : Nat} {r : TG1} {x2 : Int32} {x3 : Int32} {x4 : Int32} {b0 : Nat} {s1 : Int32} {h : Hp}  {Q : Int32 → Hp → Prop} (C : Cx G RX0 cX0_above 6 (some .int) (2 + n + 1) 0 0 X) (hr : HG1 G r n) (kb0 : kd b0 = 0) (hw : jX0_above_27 x2 x3 x4 b0 s1 h r Q) : R0 G X 0 0 (ZM G (fun r h' => ∃ v, r = some (.int v) ∧ Q v h') X) 27 [none, none, some (.int x2), some (.int x3), some (.int x4), none] [.int s1, .ref (G.1 b0)] h := by
  unfold jX0_above_27 at hw
  refine r_iload_n C dX0_above_27 rfl ?_
  refine kX0_51 C (sX0_runFrom hw) dX0_above_28 (by omega) rfl (Nat.le_of_ble_eq_true rfl) (fun v1 hw => ?_)
  refine r_iload_n C dX0_above_31 rfl ?_
  refine r_iload C dX0_above_32 rfl ?_
  refine r_iconst (1) C dX0_above_34 (by decide) ?_
  refine r_iadd C dX0_above_35 ?_
  refine kX0_54 C (kb0) (hr.2.2 _ _ _ _ _ _ (kb0) hw) dX0_above_36 (by omega) rfl (Nat.le_of_ble_eq_true rfl) (fun v2 h3 hw => ?_)
  exact r_iret C dX0_above_39 ⟨_, rfl, hw⟩
def bX0_above (r : TG1) (a0 : Nat) (x1 : Int32) (x2 : Int32) (x3 : Int32) (x4 : Int32) (h : Hp) (Q : Int32 → Hp → Prop) : Prop :=
  ∀ v1 : Int32, v1 = ((x1 / (10 : Int32)) - (1 : Int32)) → (wX0_isKind v1 h (fun v2 => if v2 = 0 then (jX0_above_27 x2 x3 x4 a0 (-1 : Int32) h r Q) else (vp_in v1 8 ∧ (jX0_above_27 x2 x3 x4 a0 (abvL.getD v1.toNatClampNeg 0) h r Q))))
set_option maxRecDepth 20000 in
theorem uX0_above {G : GG} {n : Nat} {r : TG1} {a0 : Nat} {x1 : Int32} {x2 : Int32} {x3 : Int32} {x4 : Int32} {h : Hp} {Q : Int32 → Hp → Prop} (hr : HG1 G r n) (k0 : kd a0 = 0) (hw : bX0_above r a0 x1 x2 x3 x4 h Q) : CI G (2 + n + 1) yX0_above cX0_above 6 (some .int) [.ref (G.1 a0), .int x1, .int x2, .int x3, .int x4] h Q := by
  refine CO_of [some (.ref (G.1 a0)), some (.int x1), some (.int x2), some (.int x3), some (.int x4), none] (by decide) (Nat.le_of_ble_eq_true rfl) rfl (fun X C => ?_)
  unfold bX0_above at hw
  refine r_iload_n C dX0_above_0 rfl ?_
  refine r_bipush (10) C dX0_above_1 (by decide) ?_
  refine r_idiv C dX0_above_3 (by decide) ?_
  refine r_iconst (1) C dX0_above_4 (by decide) ?_
  refine r_isub C dX0_above_5 ?_
  refine r_topi (fun v1 ev1 => ?_)
  replace hw := hw v1 ev1
  refine r_istore [some (.ref (G.1 a0)), some (.int x1), some (.int x2), some (.int x3), some (.int x4), some (.int v1)] C dX0_above_6 (Nat.le_of_ble_eq_true rfl) rfl rfl ?_
  refine r_aload_n C dX0_above_8 rfl ?_
  refine r_iload C dX0_above_9 rfl ?_
  refine kX0_18 C (sX0_isKind hw) dX0_above_11 (by omega) rfl (Nat.le_of_ble_eq_true rfl) (fun v2 hw => ?_)
  refine r_if_eq 26 C dX0_above_14 (by decide) (fun hc => ?_) (fun hc => ?_)
  · replace hw := it_t hc hw
    refine r_iconst (-1) C dX0_above_26 (by decide) ?_
    refine r_weak [none, none, some (.int x2), some (.int x3), some (.int x4), none] (lw_d (lw_d (lw_k (lw_k (lw_k (lw_d (lw_n))))))) ?_
    exact tX0_above_27 C hr (k0) hw
  · replace hw := it_f hc hw
    refine r_abv C wd972 dX0_above_17 ?_
    refine r_iload C dX0_above_20 rfl ?_
    obtain ⟨hi3, hw⟩ := hw
    refine r_abvi C hi3 dX0_above_22 ?_
    refine r_goto 27 C dX0_above_23 (by decide) ?_
    refine r_weak [none, none, some (.int x2), some (.int x3), some (.int x4), none] (lw_d (lw_d (lw_k (lw_k (lw_k (lw_d (lw_n))))))) ?_
    exact tX0_above_27 C hr (k0) hw
def bX0_run (r : TG1) (a0 : Nat) (x1 : Int32) (x2 : Int32) (x3 : Int32) (h : Hp) (Q : Int32 → Hp → Prop) : Prop :=
  if x1 = 0 then (Q (0 : Int32) h) else (if x3 ≤ (40 : Int32) then (wX0_begin a0 x1 h (fun h2 => if x1 = (1 : Int32) then (Q (x2 + (gI h2 a0 4)) h2) else (if x1 = (2 : Int32) then (r.1 a0 (1 : Int32) x2 x3 h2 (fun v3 h4 => r.1 a0 (2 : Int32) (1 : Int32) x3 h4 (fun v5 h6 => Q (v3 - v5) h6))) else (if x1 = (10 : Int32) then (r.1 a0 (0 : Int32) x2 x3 h2 (fun v7 h8 => Q (v7 * (2 : Int32)) h8)) else (if x1 = (11 : Int32) then (Q (x2 ^^^ (gI h2 a0 4)) h2) else (if x1 = (20 : Int32) then (r.2.1 a0 x1 (0 : Int32) x2 x3 h2 (fun v9 h10 => Q (v9 + (3 : Int32)) h10)) else (if x1 = (30 : Int32) then (r.2.1 a0 x1 (1 : Int32) x2 x3 h2 (fun v11 h12 => Q (-v11) h12)) else (if x1 = (40 : Int32) then (r.2.1 a0 x1 (2 : Int32) x2 x3 h2 (fun v13 h14 => Q (v13 * (3 : Int32)) h14)) else (if x1 = (41 : Int32) then (r.2.1 a0 x1 (1 : Int32) (x2 + (1 : Int32)) x3 h2 (fun v15 h16 => Q v15 h16)) else (if x1 = (50 : Int32) then (r.2.1 a0 x1 (3 : Int32) x2 x3 h2 (fun v17 h18 => Q (v17 ^^^ (5 : Int32)) h18)) else (if x1 = (60 : Int32) then (r.2.1 a0 x1 (2 : Int32) x2 x3 h2 (fun v19 h20 => r.1 a0 (0 : Int32) (2 : Int32) x3 h20 (fun v21 h22 => Q (v19 - v21) h22))) else (if x1 = (61 : Int32) then (r.2.1 a0 x1 (3 : Int32) x2 x3 h2 (fun v23 h24 => Q (v23 + (1 : Int32)) h24)) else (if x1 = (70 : Int32) then (r.2.1 a0 x1 (0 : Int32) x2 x3 h2 (fun v25 h26 => Q (v25 * (2 : Int32)) h26)) else (if x1 = (80 : Int32) then (r.2.1 a0 x1 (1 : Int32) x2 x3 h2 (fun v27 h28 => r.1 a0 (2 : Int32) (2 : Int32) x3 h28 (fun v29 h30 => Q (v27 + v29) h30))) else (if x1 = (81 : Int32) then (r.2.1 a0 x1 (0 : Int32) x2 x3 h2 (fun v31 h32 => Q (v31 - (1 : Int32)) h32)) else (Q (0 : Int32) h2)))))))))))))))) else (Q (0 : Int32) h))
set_option maxRecDepth 20000 in
theorem uX0_run {G : GG} {n : Nat} {r : TG1} {a0 : Nat} {x1 : Int32} {x2 : Int32} {x3 : Int32} {h : Hp} {Q : Int32 → Hp → Prop} (hr : HG1 G r n) (k0 : kd a0 = 0) (hw : bX0_run r a0 x1 x2 x3 h Q) : CI G (2 + n + 1) yX0_run cX0_run 4 (some .int) [.ref (G.1 a0), .int x1, .int x2, .int x3] h Q := by
  refine CO_of [some (.ref (G.1 a0)), some (.int x1), some (.int x2), some (.int x3)] (by decide) (Nat.le_of_ble_eq_true rfl) rfl (fun X C => ?_)
  unfold bX0_run at hw
  refine r_iload_n C dX0_run_0 rfl ?_
  refine r_if_eq 10 C dX0_run_1 (by decide) (fun hc => ?_) (fun hc => ?_)
  · replace hw := it_t hc hw
    refine r_iconst (0) C dX0_run_10 (by decide) ?_
    exact r_iret C dX0_run_11 ⟨_, rfl, hw⟩
  · replace hw := it_f hc hw
    refine r_iload_n C dX0_run_4 rfl ?_
    refine r_bipush (40) C dX0_run_5 (by decide) ?_
    refine r_icmp_le 12 C dX0_run_7 (by decide) (fun hc => ?_) (fun hc => ?_)
    · replace hw := it_t hc hw
      refine r_aload_n C dX0_run_12 rfl ?_
      refine r_iload_n C dX0_run_13 rfl ?_
      refine kX0_60 C (k0) (sX0_begin (k0) hw) dX0_run_14 (by omega) rfl (Nat.le_of_ble_eq_true rfl) (fun h2 hw => ?_)
      refine r_iload_n C dX0_run_17 rfl ?_
      by_cases hs18_1 : x1 = (1 : Int32)
      · replace hw := it_t hs18_1 hw
        refine r_look (off := 122) 140 C dX0_run_18 (by decide) (by rw [hs18_1]; rfl) (by decide) ?_
        refine r_iload_n C dX0_run_140 rfl ?_
        refine r_aload_n C dX0_run_141 rfl ?_
        refine gX0_41 C (k0) dX0_run_142 ?_
        refine r_iadd C dX0_run_145 ?_
        exact r_iret C dX0_run_146 ⟨_, rfl, hw⟩
      replace hw := it_f hs18_1 hw
      by_cases hs18_2 : x1 = (2 : Int32)
      · replace hw := it_t hs18_2 hw
        refine r_look (off := 129) 147 C dX0_run_18 (by decide) (by rw [hs18_2]; rfl) (by decide) ?_
        refine r_aload_n C dX0_run_147 rfl ?_
        refine r_iconst (1) C dX0_run_148 (by decide) ?_
        refine r_iload_n C dX0_run_149 rfl ?_
        refine r_iload_n C dX0_run_150 rfl ?_
        refine kX0_47 C (k0) (hr.1 _ _ _ _ _ _ (k0) hw) dX0_run_151 (by omega) rfl (Nat.le_of_ble_eq_true rfl) (fun v3 h4 hw => ?_)
        refine r_aload_n C dX0_run_154 rfl ?_
        refine r_iconst (2) C dX0_run_155 (by decide) ?_
        refine r_iconst (1) C dX0_run_156 (by decide) ?_
        refine r_iload_n C dX0_run_157 rfl ?_
        refine kX0_47 C (k0) (hr.1 _ _ _ _ _ _ (k0) hw) dX0_run_158 (by omega) rfl (Nat.le_of_ble_eq_true rfl) (fun v5 h6 hw => ?_)
        refine r_isub C dX0_run_161 ?_
        exact r_iret C dX0_run_162 ⟨_, rfl, hw⟩
      replace hw := it_f hs18_2 hw
      by_cases hs18_10 : x1 = (10 : Int32)
      · replace hw := it_t hs18_10 hw
        refine r_look (off := 145) 163 C dX0_run_18 (by decide) (by rw [hs18_10]; rfl) (by decide) ?_
        refine r_aload_n C dX0_run_163 rfl ?_
        refine r_iconst (0) C dX0_run_164 (by decide) ?_
        refine r_iload_n C dX0_run_165 rfl ?_
        refine r_iload_n C dX0_run_166 rfl ?_
        refine kX0_47 C (k0) (hr.1 _ _ _ _ _ _ (k0) hw) dX0_run_167 (by omega) rfl (Nat.le_of_ble_eq_true rfl) (fun v7 h8 hw => ?_)
        refine r_iconst (2) C dX0_run_170 (by decide) ?_
        refine r_imul C dX0_run_171 ?_
        exact r_iret C dX0_run_172 ⟨_, rfl, hw⟩
      replace hw := it_f hs18_10 hw
      by_cases hs18_11 : x1 = (11 : Int32)
      · replace hw := it_t hs18_11 hw
        refine r_look (off := 155) 173 C dX0_run_18 (by decide) (by rw [hs18_11]; rfl) (by decide) ?_
        refine r_iload_n C dX0_run_173 rfl ?_
        refine r_aload_n C dX0_run_174 rfl ?_
        refine gX0_41 C (k0) dX0_run_175 ?_
        refine r_ixor C dX0_run_178 ?_
        exact r_iret C dX0_run_179 ⟨_, rfl, hw⟩
      replace hw := it_f hs18_11 hw
      by_cases hs18_20 : x1 = (20 : Int32)
      · replace hw := it_t hs18_20 hw
        refine r_look (off := 162) 180 C dX0_run_18 (by decide) (by rw [hs18_20]; rfl) (by decide) ?_
        refine r_aload_n C dX0_run_180 rfl ?_
        refine r_iload_n C dX0_run_181 rfl ?_
        refine r_iconst (0) C dX0_run_182 (by decide) ?_
        refine r_iload_n C dX0_run_183 rfl ?_
        refine r_iload_n C dX0_run_184 rfl ?_
        refine kX0_64 C (k0) (hr.2.1 _ _ _ _ _ _ _ (k0) hw) dX0_run_185 (by omega) rfl (Nat.le_of_ble_eq_true rfl) (fun v9 h10 hw => ?_)
        refine r_iconst (3) C dX0_run_188 (by decide) ?_
        refine r_iadd C dX0_run_189 ?_
        exact r_iret C dX0_run_190 ⟨_, rfl, hw⟩
      replace hw := it_f hs18_20 hw
      by_cases hs18_30 : x1 = (30 : Int32)
      · replace hw := it_t hs18_30 hw
        refine r_look (off := 173) 191 C dX0_run_18 (by decide) (by rw [hs18_30]; rfl) (by decide) ?_
        refine r_aload_n C dX0_run_191 rfl ?_
        refine r_iload_n C dX0_run_192 rfl ?_
        refine r_iconst (1) C dX0_run_193 (by decide) ?_
        refine r_iload_n C dX0_run_194 rfl ?_
        refine r_iload_n C dX0_run_195 rfl ?_
        refine kX0_64 C (k0) (hr.2.1 _ _ _ _ _ _ _ (k0) hw) dX0_run_196 (by omega) rfl (Nat.le_of_ble_eq_true rfl) (fun v11 h12 hw => ?_)
        refine r_ineg C dX0_run_199 ?_
        exact r_iret C dX0_run_200 ⟨_, rfl, hw⟩
      replace hw := it_f hs18_30 hw
      by_cases hs18_40 : x1 = (40 : Int32)
      · replace hw := it_t hs18_40 hw
        refine r_look (off := 183) 201 C dX0_run_18 (by decide) (by rw [hs18_40]; rfl) (by decide) ?_
        refine r_aload_n C dX0_run_201 rfl ?_
        refine r_iload_n C dX0_run_202 rfl ?_
        refine r_iconst (2) C dX0_run_203 (by decide) ?_
        refine r_iload_n C dX0_run_204 rfl ?_
        refine r_iload_n C dX0_run_205 rfl ?_
        refine kX0_64 C (k0) (hr.2.1 _ _ _ _ _ _ _ (k0) hw) dX0_run_206 (by omega) rfl (Nat.le_of_ble_eq_true rfl) (fun v13 h14 hw => ?_)
        refine r_iconst (3) C dX0_run_209 (by decide) ?_
        refine r_imul C dX0_run_210 ?_
        exact r_iret C dX0_run_211 ⟨_, rfl, hw⟩
      replace hw := it_f hs18_40 hw
      by_cases hs18_41 : x1 = (41 : Int32)
      · replace hw := it_t hs18_41 hw
        refine r_look (off := 194) 212 C dX0_run_18 (by decide) (by rw [hs18_41]; rfl) (by decide) ?_
        refine r_aload_n C dX0_run_212 rfl ?_
        refine r_iload_n C dX0_run_213 rfl ?_
        refine r_iconst (1) C dX0_run_214 (by decide) ?_
        refine r_iload_n C dX0_run_215 rfl ?_
        refine r_iconst (1) C dX0_run_216 (by decide) ?_
        refine r_iadd C dX0_run_217 ?_
        refine r_iload_n C dX0_run_218 rfl ?_
        refine kX0_64 C (k0) (hr.2.1 _ _ _ _ _ _ _ (k0) hw) dX0_run_219 (by omega) rfl (Nat.le_of_ble_eq_true rfl) (fun v15 h16 hw => ?_)
        exact r_iret C dX0_run_222 ⟨_, rfl, hw⟩
      replace hw := it_f hs18_41 hw
      by_cases hs18_50 : x1 = (50 : Int32)
      · replace hw := it_t hs18_50 hw
        refine r_look (off := 205) 223 C dX0_run_18 (by decide) (by rw [hs18_50]; rfl) (by decide) ?_
        refine r_aload_n C dX0_run_223 rfl ?_
        refine r_iload_n C dX0_run_224 rfl ?_
        refine r_iconst (3) C dX0_run_225 (by decide) ?_
        refine r_iload_n C dX0_run_226 rfl ?_
        refine r_iload_n C dX0_run_227 rfl ?_
        refine kX0_64 C (k0) (hr.2.1 _ _ _ _ _ _ _ (k0) hw) dX0_run_228 (by omega) rfl (Nat.le_of_ble_eq_true rfl) (fun v17 h18 hw => ?_)
        refine r_iconst (5) C dX0_run_231 (by decide) ?_
        refine r_ixor C dX0_run_232 ?_
        exact r_iret C dX0_run_233 ⟨_, rfl, hw⟩
      replace hw := it_f hs18_50 hw
      by_cases hs18_60 : x1 = (60 : Int32)
      · replace hw := it_t hs18_60 hw
        refine r_look (off := 216) 234 C dX0_run_18 (by decide) (by rw [hs18_60]; rfl) (by decide) ?_
        refine r_aload_n C dX0_run_234 rfl ?_
        refine r_iload_n C dX0_run_235 rfl ?_
        refine r_iconst (2) C dX0_run_236 (by decide) ?_
        refine r_iload_n C dX0_run_237 rfl ?_
        refine r_iload_n C dX0_run_238 rfl ?_
        refine kX0_64 C (k0) (hr.2.1 _ _ _ _ _ _ _ (k0) hw) dX0_run_239 (by omega) rfl (Nat.le_of_ble_eq_true rfl) (fun v19 h20 hw => ?_)
        refine r_aload_n C dX0_run_242 rfl ?_
        refine r_iconst (0) C dX0_run_243 (by decide) ?_
        refine r_iconst (2) C dX0_run_244 (by decide) ?_
        refine r_iload_n C dX0_run_245 rfl ?_
        refine kX0_47 C (k0) (hr.1 _ _ _ _ _ _ (k0) hw) dX0_run_246 (by omega) rfl (Nat.le_of_ble_eq_true rfl) (fun v21 h22 hw => ?_)
        refine r_isub C dX0_run_249 ?_
        exact r_iret C dX0_run_250 ⟨_, rfl, hw⟩
      replace hw := it_f hs18_60 hw
      by_cases hs18_61 : x1 = (61 : Int32)
      · replace hw := it_t hs18_61 hw
        refine r_look (off := 233) 251 C dX0_run_18 (by decide) (by rw [hs18_61]; rfl) (by decide) ?_
        refine r_aload_n C dX0_run_251 rfl ?_
        refine r_iload_n C dX0_run_252 rfl ?_
        refine r_iconst (3) C dX0_run_253 (by decide) ?_
        refine r_iload_n C dX0_run_254 rfl ?_
        refine r_iload_n C dX0_run_255 rfl ?_
        refine kX0_64 C (k0) (hr.2.1 _ _ _ _ _ _ _ (k0) hw) dX0_run_256 (by omega) rfl (Nat.le_of_ble_eq_true rfl) (fun v23 h24 hw => ?_)
        refine r_iconst (1) C dX0_run_259 (by decide) ?_
        refine r_iadd C dX0_run_260 ?_
        exact r_iret C dX0_run_261 ⟨_, rfl, hw⟩
      replace hw := it_f hs18_61 hw
      by_cases hs18_70 : x1 = (70 : Int32)
      · replace hw := it_t hs18_70 hw
        refine r_look (off := 244) 262 C dX0_run_18 (by decide) (by rw [hs18_70]; rfl) (by decide) ?_
        refine r_aload_n C dX0_run_262 rfl ?_
        refine r_iload_n C dX0_run_263 rfl ?_
        refine r_iconst (0) C dX0_run_264 (by decide) ?_
        refine r_iload_n C dX0_run_265 rfl ?_
        refine r_iload_n C dX0_run_266 rfl ?_
        refine kX0_64 C (k0) (hr.2.1 _ _ _ _ _ _ _ (k0) hw) dX0_run_267 (by omega) rfl (Nat.le_of_ble_eq_true rfl) (fun v25 h26 hw => ?_)
        refine r_iconst (2) C dX0_run_270 (by decide) ?_
        refine r_imul C dX0_run_271 ?_
        exact r_iret C dX0_run_272 ⟨_, rfl, hw⟩
      replace hw := it_f hs18_70 hw
      by_cases hs18_80 : x1 = (80 : Int32)
      · replace hw := it_t hs18_80 hw
        refine r_look (off := 255) 273 C dX0_run_18 (by decide) (by rw [hs18_80]; rfl) (by decide) ?_
        refine r_aload_n C dX0_run_273 rfl ?_
        refine r_iload_n C dX0_run_274 rfl ?_
        refine r_iconst (1) C dX0_run_275 (by decide) ?_
        refine r_iload_n C dX0_run_276 rfl ?_
        refine r_iload_n C dX0_run_277 rfl ?_
        refine kX0_64 C (k0) (hr.2.1 _ _ _ _ _ _ _ (k0) hw) dX0_run_278 (by omega) rfl (Nat.le_of_ble_eq_true rfl) (fun v27 h28 hw => ?_)
        refine r_aload_n C dX0_run_281 rfl ?_
        refine r_iconst (2) C dX0_run_282 (by decide) ?_
        refine r_iconst (2) C dX0_run_283 (by decide) ?_
        refine r_iload_n C dX0_run_284 rfl ?_
        refine kX0_47 C (k0) (hr.1 _ _ _ _ _ _ (k0) hw) dX0_run_285 (by omega) rfl (Nat.le_of_ble_eq_true rfl) (fun v29 h30 hw => ?_)
        refine r_iadd C dX0_run_288 ?_
        exact r_iret C dX0_run_289 ⟨_, rfl, hw⟩
      replace hw := it_f hs18_80 hw
      by_cases hs18_81 : x1 = (81 : Int32)
      · replace hw := it_t hs18_81 hw
        refine r_look (off := 272) 290 C dX0_run_18 (by decide) (by rw [hs18_81]; rfl) (by decide) ?_
        refine r_aload_n C dX0_run_290 rfl ?_
        refine r_iload_n C dX0_run_291 rfl ?_
        refine r_iconst (0) C dX0_run_292 (by decide) ?_
        refine r_iload_n C dX0_run_293 rfl ?_
        refine r_iload_n C dX0_run_294 rfl ?_
        refine kX0_64 C (k0) (hr.2.1 _ _ _ _ _ _ _ (k0) hw) dX0_run_295 (by omega) rfl (Nat.le_of_ble_eq_true rfl) (fun v31 h32 hw => ?_)
        refine r_iconst (1) C dX0_run_298 (by decide) ?_
        refine r_isub C dX0_run_299 ?_
        exact r_iret C dX0_run_300 ⟨_, rfl, hw⟩
      replace hw := it_f hs18_81 hw
      refine r_look (off := 283) 301 C dX0_run_18 (by decide) (by show Op.lookupswitch.offset [(1, 122), (2, 129), (10, 145), (11, 155), (20, 162), (30, 173), (40, 183), (41, 194), (50, 205), (60, 216), (61, 233), (70, 244), (80, 255), (81, 272)] 283 _ = _; rw [lv_osw hs18_1 (by decide), lv_osw hs18_2 (by decide), lv_osw hs18_10 (by decide), lv_osw hs18_11 (by decide), lv_osw hs18_20 (by decide), lv_osw hs18_30 (by decide), lv_osw hs18_40 (by decide), lv_osw hs18_41 (by decide), lv_osw hs18_50 (by decide), lv_osw hs18_60 (by decide), lv_osw hs18_61 (by decide), lv_osw hs18_70 (by decide), lv_osw hs18_80 (by decide), lv_osw hs18_81 (by decide)]; rfl) (by decide) ?_
      refine r_iconst (0) C dX0_run_301 (by decide) ?_
      exact r_iret C dX0_run_302 ⟨_, rfl, hw⟩
    · replace hw := it_f hc hw
      refine r_iconst (0) C dX0_run_10 (by decide) ?_
      exact r_iret C dX0_run_11 ⟨_, rfl, hw⟩
def wG1 : Nat → TG1
  | 0 => (fun _ _ _ _ _ _ => False, fun _ _ _ _ _ _ _ => False, fun _ _ _ _ _ _ => False)
  | n + 1 => (bX0_own (wG1 n), bX0_above (wG1 n), bX0_run (wG1 n))
theorem sG1 (G : GG) : ∀ n, HG1 G (wG1 n) n := by
  intro n
  induction n with
  | zero => exact ⟨fun _ _ _ _ _ _ k0 hw => False.elim hw, fun _ _ _ _ _ _ _ k0 hw => False.elim hw, fun _ _ _ _ _ _ k0 hw => False.elim hw⟩
  | succ n ih => exact ⟨fun _ _ _ _ _ _ k0 hw => uX0_own ih k0 hw, fun _ _ _ _ _ _ _ k0 hw => uX0_above ih k0 hw, fun _ _ _ _ _ _ k0 hw => uX0_run ih k0 hw⟩
def wX0_perform (a0 : Nat) (x1 : Int32) (x2 : Int32) (x3 : Int32) (h : Hp) (Q : Int32 → Hp → Prop) : Prop :=
  ∀ h1 : Hp, h1 = sI h a0 3 (0 : Int32) → (wX0_has a0 x1 h1 (fun v2 => if v2 = 0 then (Q (0 : Int32) h1) else (if x2 < 0 then (Q (0 : Int32) h1) else (if x2 < (4 : Int32) then (∀ h3 : Hp, h3 = sI h1 a0 4 x1 → (vp_in x1 (ln (rf a0 0)) ∧ (∀ h5 : Hp, h5 = sI h3 a0 5 (gI h3 (rf a0 0) x1.toNatClampNeg) → (∃ n6, n6 ≤ 120 ∧ ((wG1 n6).1 a0 x2 x3 (0 : Int32) h5 (fun v7 h8 => Q v7 h8)))))) else (Q (0 : Int32) h1)))))
set_option maxRecDepth 20000 in
theorem sX0_perform {G : GG} {a0 : Nat} {x1 : Int32} {x2 : Int32} {x3 : Int32} {h : Hp} {Q : Int32 → Hp → Prop} (k0 : kd a0 = 0) (hw : wX0_perform a0 x1 x2 x3 h Q) : CI G 123 yX0_perform cX0_perform 4 (some .int) [.ref (G.1 a0), .int x1, .int x2, .int x3] h Q := by
  refine CO_of [some (.ref (G.1 a0)), some (.int x1), some (.int x2), some (.int x3)] (by decide) (Nat.le_of_ble_eq_true rfl) rfl (fun X C => ?_)
  unfold wX0_perform at hw
  refine r_aload_n C dX0_perform_0 rfl ?_
  refine r_iconst (0) C dX0_perform_1 (by decide) ?_
  refine pX0_32 C (k0) dX0_perform_2 ?_
  refine r_toph (fun h1 eh1 => ?_)
  replace hw := hw h1 eh1
  refine r_aload_n C dX0_perform_5 rfl ?_
  refine r_iload_n C dX0_perform_6 rfl ?_
  refine kX0_29 C (k0) (sX0_has (k0) hw) dX0_perform_7 (Nat.le_of_ble_eq_true rfl) rfl (Nat.le_of_ble_eq_true rfl) (fun v2 hw => ?_)
  refine r_if_eq 22 C dX0_perform_10 (by decide) (fun hc => ?_) (fun hc => ?_)
  · replace hw := it_t hc hw
    refine r_iconst (0) C dX0_perform_22 (by decide) ?_
    exact r_iret C dX0_perform_23 ⟨_, rfl, hw⟩
  · replace hw := it_f hc hw
    refine r_iload_n C dX0_perform_13 rfl ?_
    refine r_if_lt 22 C dX0_perform_14 (by decide) (fun hc => ?_) (fun hc => ?_)
    · replace hw := it_t hc hw
      refine r_iconst (0) C dX0_perform_22 (by decide) ?_
      exact r_iret C dX0_perform_23 ⟨_, rfl, hw⟩
    · replace hw := it_f hc hw
      refine r_iload_n C dX0_perform_17 rfl ?_
      refine r_iconst (4) C dX0_perform_18 (by decide) ?_
      refine r_icmp_lt 24 C dX0_perform_19 (by decide) (fun hc => ?_) (fun hc => ?_)
      · replace hw := it_t hc hw
        refine r_aload_n C dX0_perform_24 rfl ?_
        refine r_iload_n C dX0_perform_25 rfl ?_
        refine pX0_41 C (k0) dX0_perform_26 ?_
        refine r_toph (fun h3 eh3 => ?_)
        replace hw := hw h3 eh3
        refine r_aload_n C dX0_perform_29 rfl ?_
        refine r_aload_n C dX0_perform_30 rfl ?_
        refine gX0_11 C (k0) dX0_perform_31 ?_
        refine r_iload_n C dX0_perform_34 rfl ?_
        obtain ⟨hi4, hw⟩ := hw
        refine r_iald C (kr0_0 (k0)) hi4 dX0_perform_35 ?_
        refine pX0_44 C (k0) dX0_perform_36 ?_
        refine r_toph (fun h5 eh5 => ?_)
        replace hw := hw h5 eh5
        refine r_aload_n C dX0_perform_39 rfl ?_
        refine r_iload_n C dX0_perform_40 rfl ?_
        refine r_iload_n C dX0_perform_41 rfl ?_
        refine r_iconst (0) C dX0_perform_42 (by decide) ?_
        obtain ⟨n6, hnn6, hw⟩ := hw
        refine kX0_47 C (k0) ((sG1 G n6).1 _ _ _ _ _ _ (k0) hw) dX0_perform_43 (by omega) rfl (Nat.le_of_ble_eq_true rfl) (fun v7 h8 hw => ?_)
        exact r_iret C dX0_perform_46 ⟨_, rfl, hw⟩
      · replace hw := it_f hc hw
        refine r_iconst (0) C dX0_perform_22 (by decide) ?_
        exact r_iret C dX0_perform_23 ⟨_, rfl, hw⟩
def wX1_forgetOldest (a0 : Nat) (h : Hp) (Q : Hp → Prop) : Prop :=
  cpOK a0 a0 (1 : Int32) (0 : Int32) (39 : Int32) ∧ (∀ h2 : Hp, h2 = cpI h a0 a0 (1 : Int32).toNatClampNeg (0 : Int32).toNatClampNeg (39 : Int32).toNatClampNeg → (Q h2))
set_option maxRecDepth 20000 in
theorem sX1_forgetOldest {G : GG} {a0 : Nat} {h : Hp} {Q : Hp → Prop} (k0 : kd a0 = 20) (hw : wX1_forgetOldest a0 h Q) : CV G 1 yX1_forgetOldest cX1_forgetOldest 1 none [.ref (G.1 a0)] h Q := by
  refine CO_of [some (.ref (G.1 a0))] (by decide) (Nat.le_of_ble_eq_true rfl) rfl (fun X C => ?_)
  unfold wX1_forgetOldest at hw
  refine r_aload_n C dX1_forgetOldest_0 rfl ?_
  refine r_iconst (1) C dX1_forgetOldest_1 (by decide) ?_
  refine r_aload_n C dX1_forgetOldest_2 rfl ?_
  refine r_iconst (0) C dX1_forgetOldest_3 (by decide) ?_
  refine r_bipush (39) C dX1_forgetOldest_4 (by decide) ?_
  obtain ⟨hc1, hw⟩ := hw
  refine r_copyi C ⟨wd545, wd547, wd546, wd108⟩ (k0) (k0) hc1 (Nat.le_of_ble_eq_true rfl) rfl (Nat.le_of_ble_eq_true rfl) dX1_forgetOldest_6 ?_
  refine r_toph (fun h2 eh2 => ?_)
  replace hw := hw h2 eh2
  exact r_vret C dX1_forgetOldest_9 ⟨rfl, hw⟩
def jX1_add_43 (a0 : Nat) (x1 : Int32) (x2 : Int32) (x3 : Int32) (x4 : Int32) (h : Hp) (Q : Hp → Prop) : Prop :=
  vp_in (gI h a0 5) (ln (rf a0 0)) ∧ (∀ h2 : Hp, h2 = sI h (rf a0 0) (gI h a0 5).toNatClampNeg x1 → (vp_in (gI h2 a0 5) (ln (rf a0 1)) ∧ (∀ h4 : Hp, h4 = sI h2 (rf a0 1) (gI h2 a0 5).toNatClampNeg x2 → (vp_in (gI h4 a0 5) (ln (rf a0 2)) ∧ (∀ h6 : Hp, h6 = sI h4 (rf a0 2) (gI h4 a0 5).toNatClampNeg x3 → (vp_in (gI h6 a0 5) (ln (rf a0 3)) ∧ (∀ h8 : Hp, h8 = sI h6 (rf a0 3) (gI h6 a0 5).toNatClampNeg x4 → (∀ h9 : Hp, h9 = sI h8 a0 5 ((gI h8 a0 5) + (1 : Int32)) → (∀ h10 : Hp, h10 = sI h9 a0 4 (gI h9 a0 5) → (Q h10))))))))))
set_option maxRecDepth 20000 in
theorem tX1_add_43 {G : GG} {X : XX} {a0 : Nat} {x1 : Int32} {x2 : Int32} {x3 : Int32} {x4 : Int32} {h : Hp}  {Q : Hp → Prop} (C : Cx G RX1 cX1_add 5 none 2 0 0 X) (k0 : kd a0 = 1) (hw : jX1_add_43 a0 x1 x2 x3 x4 h Q) : R0 G X 0 0 (ZM G (fun r h' => r = none ∧ Q h') X) 43 [some (.ref (G.1 a0)), some (.int x1), some (.int x2), some (.int x3), some (.int x4)] [] h := by
  unfold jX1_add_43 at hw
  refine r_aload_n C dX1_add_43 rfl ?_
  refine gX1_9 C (k0) dX1_add_44 ?_
  refine r_aload_n C dX1_add_47 rfl ?_
  refine gX1_22 C (k0) dX1_add_48 ?_
  refine r_iload_n C dX1_add_51 rfl ?_
  obtain ⟨hi1, hw⟩ := hw
  refine r_iast C (kr1_0 (k0)) hi1 dX1_add_52 ?_
  refine r_toph (fun h2 eh2 => ?_)
  replace hw := hw h2 eh2
  refine r_aload_n C dX1_add_53 rfl ?_
  refine gX1_13 C (k0) dX1_add_54 ?_
  refine r_aload_n C dX1_add_57 rfl ?_
  refine gX1_22 C (k0) dX1_add_58 ?_
  refine r_iload_n C dX1_add_61 rfl ?_
  obtain ⟨hi3, hw⟩ := hw
  refine r_iast C (kr1_1 (k0)) hi3 dX1_add_62 ?_
  refine r_toph (fun h4 eh4 => ?_)
  replace hw := hw h4 eh4
  refine r_aload_n C dX1_add_63 rfl ?_
  refine gX1_16 C (k0) dX1_add_64 ?_
  refine r_aload_n C dX1_add_67 rfl ?_
  refine gX1_22 C (k0) dX1_add_68 ?_
  refine r_iload_n C dX1_add_71 rfl ?_
  obtain ⟨hi5, hw⟩ := hw
  refine r_iast C (kr1_2 (k0)) hi5 dX1_add_72 ?_
  refine r_toph (fun h6 eh6 => ?_)
  replace hw := hw h6 eh6
  refine r_aload_n C dX1_add_73 rfl ?_
  refine gX1_19 C (k0) dX1_add_74 ?_
  refine r_aload_n C dX1_add_77 rfl ?_
  refine gX1_22 C (k0) dX1_add_78 ?_
  refine r_iload C dX1_add_81 rfl ?_
  obtain ⟨hi7, hw⟩ := hw
  refine r_iast C (kr1_3 (k0)) hi7 dX1_add_83 ?_
  refine r_toph (fun h8 eh8 => ?_)
  replace hw := hw h8 eh8
  refine r_aload_n C dX1_add_84 rfl ?_
  refine r_dup C dX1_add_85 rfl ?_
  refine gX1_22 C (k0) dX1_add_86 ?_
  refine r_iconst (1) C dX1_add_89 (by decide) ?_
  refine r_iadd C dX1_add_90 ?_
  refine pX1_22 C (k0) dX1_add_91 ?_
  refine r_toph (fun h9 eh9 => ?_)
  replace hw := hw h9 eh9
  refine r_aload_n C dX1_add_94 rfl ?_
  refine r_aload_n C dX1_add_95 rfl ?_
  refine gX1_22 C (k0) dX1_add_96 ?_
  refine pX1_30 C (k0) dX1_add_99 ?_
  refine r_toph (fun h10 eh10 => ?_)
  replace hw := hw h10 eh10
  exact r_vret C dX1_add_102 ⟨rfl, hw⟩
def wX1_add (a0 : Nat) (x1 : Int32) (x2 : Int32) (x3 : Int32) (x4 : Int32) (h : Hp) (Q : Hp → Prop) : Prop :=
  if (gI h a0 5) < (40 : Int32) then (jX1_add_43 a0 x1 x2 x3 x4 h Q) else (wX1_forgetOldest (rf a0 0) h (fun h2 => wX1_forgetOldest (rf a0 1) h2 (fun h4 => wX1_forgetOldest (rf a0 2) h4 (fun h6 => wX1_forgetOldest (rf a0 3) h6 (fun h8 => ∀ h9 : Hp, h9 = sI h8 a0 5 (39 : Int32) → (jX1_add_43 a0 x1 x2 x3 x4 h9 Q))))))
set_option maxRecDepth 20000 in
theorem sX1_add {G : GG} {a0 : Nat} {x1 : Int32} {x2 : Int32} {x3 : Int32} {x4 : Int32} {h : Hp} {Q : Hp → Prop} (k0 : kd a0 = 1) (hw : wX1_add a0 x1 x2 x3 x4 h Q) : CV G 2 yX1_add cX1_add 5 none [.ref (G.1 a0), .int x1, .int x2, .int x3, .int x4] h Q := by
  refine CO_of [some (.ref (G.1 a0)), some (.int x1), some (.int x2), some (.int x3), some (.int x4)] (by decide) (Nat.le_of_ble_eq_true rfl) rfl (fun X C => ?_)
  unfold wX1_add at hw
  refine r_aload_n C dX1_add_0 rfl ?_
  refine gX1_22 C (k0) dX1_add_1 ?_
  refine r_bipush (40) C dX1_add_4 (by decide) ?_
  refine r_icmp_lt 43 C dX1_add_6 (by decide) (fun hc => ?_) (fun hc => ?_)
  · replace hw := it_t hc hw
    exact tX1_add_43 C (k0) hw
  · replace hw := it_f hc hw
    refine r_aload_n C dX1_add_9 rfl ?_
    refine gX1_9 C (k0) dX1_add_10 ?_
    refine kX1_26 C (sX1_forgetOldest (kr1_0 (k0)) hw) dX1_add_13 (Nat.le_of_ble_eq_true rfl) rfl (Nat.le_of_ble_eq_true rfl) (fun h2 hw => ?_)
    refine r_aload_n C dX1_add_16 rfl ?_
    refine gX1_13 C (k0) dX1_add_17 ?_
    refine kX1_26 C (sX1_forgetOldest (kr1_1 (k0)) hw) dX1_add_20 (Nat.le_of_ble_eq_true rfl) rfl (Nat.le_of_ble_eq_true rfl) (fun h4 hw => ?_)
    refine r_aload_n C dX1_add_23 rfl ?_
    refine gX1_16 C (k0) dX1_add_24 ?_
    refine kX1_26 C (sX1_forgetOldest (kr1_2 (k0)) hw) dX1_add_27 (Nat.le_of_ble_eq_true rfl) rfl (Nat.le_of_ble_eq_true rfl) (fun h6 hw => ?_)
    refine r_aload_n C dX1_add_30 rfl ?_
    refine gX1_19 C (k0) dX1_add_31 ?_
    refine kX1_26 C (sX1_forgetOldest (kr1_3 (k0)) hw) dX1_add_34 (Nat.le_of_ble_eq_true rfl) rfl (Nat.le_of_ble_eq_true rfl) (fun h8 hw => ?_)
    refine r_aload_n C dX1_add_37 rfl ?_
    refine r_bipush (39) C dX1_add_38 (by decide) ?_
    refine pX1_22 C (k0) dX1_add_40 ?_
    refine r_toph (fun h9 eh9 => ?_)
    replace hw := hw h9 eh9
    exact tX1_add_43 C (k0) hw
def wX1_lastDone (a0 : Nat) (h : Hp) (Q : Int32 → Prop) : Prop :=
  Q ((gI h a0 5) - (1 : Int32))
set_option maxRecDepth 20000 in
theorem sX1_lastDone {G : GG} {a0 : Nat} {h : Hp} {Q : Int32 → Prop} (k0 : kd a0 = 1) (hw : wX1_lastDone a0 h Q) : PI G 0 yX1_lastDone cX1_lastDone 1 (some .int) [.ref (G.1 a0)] h Q := by
  refine CO_of [some (.ref (G.1 a0))] (by decide) (Nat.le_of_ble_eq_true rfl) rfl (fun X C => ?_)
  unfold wX1_lastDone at hw
  refine r_aload_n C dX1_lastDone_0 rfl ?_
  refine gX1_22 C (k0) dX1_lastDone_1 ?_
  refine r_iconst (1) C dX1_lastDone_4 (by decide) ?_
  refine r_isub C dX1_lastDone_5 ?_
  exact r_iret C dX1_lastDone_6 ⟨_, rfl, rfl, hw⟩
def wX1_firstUndone (a0 : Nat) (h : Hp) (Q : Int32 → Prop) : Prop :=
  if (gI h a0 4) ≤ (gI h a0 5) then (Q (-1 : Int32)) else (Q (gI h a0 5))
set_option maxRecDepth 20000 in
theorem sX1_firstUndone {G : GG} {a0 : Nat} {h : Hp} {Q : Int32 → Prop} (k0 : kd a0 = 1) (hw : wX1_firstUndone a0 h Q) : PI G 0 yX1_firstUndone cX1_firstUndone 1 (some .int) [.ref (G.1 a0)] h Q := by
  refine CO_of [some (.ref (G.1 a0))] (by decide) (Nat.le_of_ble_eq_true rfl) rfl (fun X C => ?_)
  unfold wX1_firstUndone at hw
  refine r_aload_n C dX1_firstUndone_0 rfl ?_
  refine gX1_22 C (k0) dX1_firstUndone_1 ?_
  refine r_aload_n C dX1_firstUndone_4 rfl ?_
  refine gX1_30 C (k0) dX1_firstUndone_5 ?_
  refine r_icmp_ge 18 C dX1_firstUndone_8 (by decide) (fun hc => ?_) (fun hc => ?_)
  · replace hw := it_t hc hw
    refine r_iconst (-1) C dX1_firstUndone_18 (by decide) ?_
    exact r_iret C dX1_firstUndone_19 ⟨_, rfl, rfl, hw⟩
  · replace hw := it_f hc hw
    refine r_aload_n C dX1_firstUndone_11 rfl ?_
    refine gX1_22 C (k0) dX1_firstUndone_12 ?_
    refine r_goto 19 C dX1_firstUndone_15 (by decide) ?_
    exact r_iret C dX1_firstUndone_19 ⟨_, rfl, rfl, hw⟩
def wX1_stepBack (a0 : Nat) (h : Hp) (Q : Int32 → Hp → Prop) : Prop :=
  ∀ h1 : Hp, h1 = sI h a0 5 ((gI h a0 5) - (1 : Int32)) → (Q (gI h1 a0 5) h1)
set_option maxRecDepth 20000 in
theorem sX1_stepBack {G : GG} {a0 : Nat} {h : Hp} {Q : Int32 → Hp → Prop} (k0 : kd a0 = 1) (hw : wX1_stepBack a0 h Q) : CI G 0 yX1_stepBack cX1_stepBack 1 (some .int) [.ref (G.1 a0)] h Q := by
  refine CO_of [some (.ref (G.1 a0))] (by decide) (Nat.le_of_ble_eq_true rfl) rfl (fun X C => ?_)
  unfold wX1_stepBack at hw
  refine r_aload_n C dX1_stepBack_0 rfl ?_
  refine r_dup C dX1_stepBack_1 rfl ?_
  refine gX1_22 C (k0) dX1_stepBack_2 ?_
  refine r_iconst (1) C dX1_stepBack_5 (by decide) ?_
  refine r_isub C dX1_stepBack_6 ?_
  refine pX1_22 C (k0) dX1_stepBack_7 ?_
  refine r_toph (fun h1 eh1 => ?_)
  replace hw := hw h1 eh1
  refine r_aload_n C dX1_stepBack_10 rfl ?_
  refine gX1_22 C (k0) dX1_stepBack_11 ?_
  exact r_iret C dX1_stepBack_14 ⟨_, rfl, hw⟩
def wX1_stepOn (a0 : Nat) (h : Hp) (Q : Int32 → Hp → Prop) : Prop :=
  ∀ h1 : Hp, h1 = sI h a0 5 ((gI h a0 5) + (1 : Int32)) → (Q ((gI h1 a0 4) - (gI h1 a0 5)) h1)
set_option maxRecDepth 20000 in
theorem sX1_stepOn {G : GG} {a0 : Nat} {h : Hp} {Q : Int32 → Hp → Prop} (k0 : kd a0 = 1) (hw : wX1_stepOn a0 h Q) : CI G 0 yX1_stepOn cX1_stepOn 1 (some .int) [.ref (G.1 a0)] h Q := by
  refine CO_of [some (.ref (G.1 a0))] (by decide) (Nat.le_of_ble_eq_true rfl) rfl (fun X C => ?_)
  unfold wX1_stepOn at hw
  refine r_aload_n C dX1_stepOn_0 rfl ?_
  refine r_dup C dX1_stepOn_1 rfl ?_
  refine gX1_22 C (k0) dX1_stepOn_2 ?_
  refine r_iconst (1) C dX1_stepOn_5 (by decide) ?_
  refine r_iadd C dX1_stepOn_6 ?_
  refine pX1_22 C (k0) dX1_stepOn_7 ?_
  refine r_toph (fun h1 eh1 => ?_)
  replace hw := hw h1 eh1
  refine r_aload_n C dX1_stepOn_10 rfl ?_
  refine gX1_30 C (k0) dX1_stepOn_11 ?_
  refine r_aload_n C dX1_stepOn_14 rfl ?_
  refine gX1_22 C (k0) dX1_stepOn_15 ?_
  refine r_isub C dX1_stepOn_18 ?_
  exact r_iret C dX1_stepOn_19 ⟨_, rfl, hw⟩
def fX4_sumsOf_20 (a0 : Nat) (x1 : Int32) (x4 : Int32) (h : Hp) (K5 : Int64 → Int32 → Prop) (Q : Int64 → Prop) (K20 : Int64 → Int64 → Int32 → Prop) (x2 : Int64) (x5 : Int64) (x7 : Int32) : Prop :=
  if x1 ≤ x7 then (∀ v1 : Int32, v1 = x4 + (1 : Int32) → (K5 x2 v1)) else (vp_in x4 (ln (rf a0 0)) ∧ (∀ v3 : Int64, v3 = (shlL x5 (gI h (rf a0 0) x4.toNatClampNeg)) → (∀ v4 : Int64, v4 = (x2 ||| v3) → (∀ v5 : Int32, v5 = x7 + (1 : Int32) → (K20 v4 v3 v5)))))
def eX4_sumsOf_20 (a0 : Nat) (x1 : Int32) (x4 : Int32) (h : Hp) (K5 : Int64 → Int32 → Prop) (Q : Int64 → Prop) (x2 : Int64) (x5 : Int64) (x7 : Int32) : Prop := ∃ N, lpN (fun (K : Int64 × Int64 × Int32 → Prop) (s : Int64 × Int64 × Int32) => fX4_sumsOf_20 a0 x1 x4 h K5 Q (fun x2 x5 x7 => K (x2, x5, x7)) s.1 s.2.1 s.2.2) N (x2, x5, x7)
theorem iX4_sumsOf_20 {a0 : Nat} {x1 : Int32} {x4 : Int32} {h : Hp} {K5 : Int64 → Int32 → Prop} {Q : Int64 → Prop} (I : Int64 → Int64 → Int32 → Prop) (μ : Int64 → Int64 → Int32 → Nat) (hs : ∀ (x2 : Int64) (x5 : Int64) (x7 : Int32), I x2 x5 x7 → ∀ K : Int64 → Int64 → Int32 → Prop, (∀ (x2' : Int64) (x5' : Int64) (x7' : Int32), I x2' x5' x7' → μ x2' x5' x7' < μ x2 x5 x7 → K x2' x5' x7') → fX4_sumsOf_20 a0 x1 x4 h K5 Q K x2 x5 x7) : ∀ (x2 : Int64) (x5 : Int64) (x7 : Int32), I x2 x5 x7 → eX4_sumsOf_20 a0 x1 x4 h K5 Q x2 x5 x7 := fun x2 x5 x7 hI => lp_ind (fun s => I s.1 s.2.1 s.2.2) (fun s => μ s.1 s.2.1 s.2.2) (fun s hs' K hK => hs s.1 s.2.1 s.2.2 hs' _ (fun x2' x5' x7' h1 h2 => hK (x2', x5', x7') h1 h2)) (x2, x5, x7) hI
set_option maxRecDepth 20000 in
theorem tX4_sumsOf_20 {G : GG} {X : XX} {a0 : Nat} {x1 : Int32} {x2 : Int64} {x4 : Int32} {x5 : Int64} {x7 : Int32} {h : Hp}  {K5 : Int64 → Int32 → Prop} {Q : Int64 → Prop} (C : Cx G RX4 cX4_sumsOf 8 (some .long) 0 0 0 X) (k0 : kd a0 = 4) (hK5 : ∀ (y2 : Int64) (y4 : Int32), K5 y2 y4 → R0 G X 0 0 (ZM G (fun r h' => ∃ v, r = some (.long v) ∧ h' = h ∧ Q v) X) 5 [some (.ref (G.1 a0)), some (.int x1), some (.long y2), none, some (.int y4), none, none, none] [] h) (hw : eX4_sumsOf_20 a0 x1 x4 h K5 Q x2 x5 x7) : R0 G X 0 0 (ZM G (fun r h' => ∃ v, r = some (.long v) ∧ h' = h ∧ Q v) X) 20 [some (.ref (G.1 a0)), some (.int x1), some (.long x2), none, some (.int x4), some (.long x5), none, some (.int x7)] [] h := by
  obtain ⟨N, hw⟩ := hw
  induction N generalizing x2 x5 x7 with
  | zero => exact hw.elim
  | succ N ih =>
    obtain ⟨K20, eK⟩ : ∃ K : Int64 → Int64 → Int32 → Prop, K = (fun x2 x5 x7 => lpN (fun (K : Int64 × Int64 × Int32 → Prop) (s : Int64 × Int64 × Int32) => fX4_sumsOf_20 a0 x1 x4 h K5 Q (fun x2 x5 x7 => K (x2, x5, x7)) s.1 s.2.1 s.2.2) N (x2, x5, x7)) := ⟨_, rfl⟩
    have hw : fX4_sumsOf_20 a0 x1 x4 h K5 Q (fun x2 x5 x7 => lpN (fun (K : Int64 × Int64 × Int32 → Prop) (s : Int64 × Int64 × Int32) => fX4_sumsOf_20 a0 x1 x4 h K5 Q (fun x2 x5 x7 => K (x2, x5, x7)) s.1 s.2.1 s.2.2) N (x2, x5, x7)) x2 x5 x7 := hw
    have hK20 : ∀ (x2 : Int64) (x5 : Int64) (x7 : Int32), K20 x2 x5 x7 → R0 G X 0 0 (ZM G (fun r h' => ∃ v, r = some (.long v) ∧ h' = h ∧ Q v) X) 20 [some (.ref (G.1 a0)), some (.int x1), some (.long x2), none, some (.int x4), some (.long x5), none, some (.int x7)] [] h := fun x2 x5 x7 q => ih (by rw [eK] at q; exact q)
    rw [← eK] at hw
    clear eK ih
    unfold fX4_sumsOf_20 at hw
    refine r_iload C dX4_sumsOf_20 rfl ?_
    refine r_iload_n C dX4_sumsOf_22 rfl ?_
    refine r_icmp_ge 49 C dX4_sumsOf_23 (by decide) (fun hc => ?_) (fun hc => ?_)
    · replace hw := it_t hc hw
      obtain ⟨v1, ev1⟩ : ∃ v : Int32, v = x4 + (1 : Int32) := ⟨_, rfl⟩
      replace hw := hw v1 ev1
      refine r_iinc v1 [some (.ref (G.1 a0)), some (.int x1), some (.long x2), none, some (.int v1), some (.long x5), none, some (.int x7)] C dX4_sumsOf_49 rfl (by rw [ev1]; rfl) rfl rfl ?_
      refine r_goto 5 C dX4_sumsOf_52 (by decide) ?_
      refine r_weak [some (.ref (G.1 a0)), some (.int x1), some (.long x2), none, some (.int v1), none, none, none] (lw_k (lw_k (lw_k (lw_k (lw_k (lw_d (lw_k (lw_d (lw_n))))))))) ?_
      exact hK5 _ _ hw
    · replace hw := it_f hc hw
      refine r_lload C dX4_sumsOf_26 rfl ?_
      refine r_aload_n C dX4_sumsOf_28 rfl ?_
      refine gX4_9 C (k0) dX4_sumsOf_29 ?_
      refine r_iload C dX4_sumsOf_32 rfl ?_
      obtain ⟨hi2, hw⟩ := hw
      refine r_iald C (kr4_0 (k0)) hi2 dX4_sumsOf_34 ?_
      refine r_lshl C dX4_sumsOf_35 ?_
      refine r_topl (fun v3 ev3 => ?_)
      replace hw := hw v3 ev3
      refine r_lstore [some (.ref (G.1 a0)), some (.int x1), some (.long x2), none, some (.int x4), some (.long v3), none, some (.int x7)] C dX4_sumsOf_36 (Nat.le_of_ble_eq_true rfl) rfl rfl ?_
      refine r_lload_n C dX4_sumsOf_38 rfl ?_
      refine r_lload C dX4_sumsOf_39 rfl ?_
      refine r_lor C dX4_sumsOf_41 ?_
      refine r_topl (fun v4 ev4 => ?_)
      replace hw := hw v4 ev4
      refine r_lstore_n [some (.ref (G.1 a0)), some (.int x1), some (.long v4), none, some (.int x4), some (.long v3), none, some (.int x7)] C dX4_sumsOf_42 (Nat.le_of_ble_eq_true rfl) rfl rfl ?_
      obtain ⟨v5, ev5⟩ : ∃ v : Int32, v = x7 + (1 : Int32) := ⟨_, rfl⟩
      replace hw := hw v5 ev5
      refine r_iinc v5 [some (.ref (G.1 a0)), some (.int x1), some (.long v4), none, some (.int x4), some (.long v3), none, some (.int v5)] C dX4_sumsOf_43 rfl (by rw [ev5]; rfl) rfl rfl ?_
      refine r_goto 20 C dX4_sumsOf_46 (by decide) ?_
      exact hK20 _ _ _ hw
def fX4_sumsOf_5 (a0 : Nat) (x1 : Int32) (h : Hp) (Q : Int64 → Prop) (K5 : Int64 → Int32 → Prop) (x2 : Int64) (x4 : Int32) : Prop :=
  if (gI h a0 1) ≤ x4 then (Q x2) else (eX4_sumsOf_20 a0 x1 x4 h K5 Q x2 x2 (0 : Int32))
def eX4_sumsOf_5 (a0 : Nat) (x1 : Int32) (h : Hp) (Q : Int64 → Prop) (x2 : Int64) (x4 : Int32) : Prop := ∃ N, lpN (fun (K : Int64 × Int32 → Prop) (s : Int64 × Int32) => fX4_sumsOf_5 a0 x1 h Q (fun x2 x4 => K (x2, x4)) s.1 s.2) N (x2, x4)
theorem iX4_sumsOf_5 {a0 : Nat} {x1 : Int32} {h : Hp} {Q : Int64 → Prop} (I : Int64 → Int32 → Prop) (μ : Int64 → Int32 → Nat) (hs : ∀ (x2 : Int64) (x4 : Int32), I x2 x4 → ∀ K : Int64 → Int32 → Prop, (∀ (x2' : Int64) (x4' : Int32), I x2' x4' → μ x2' x4' < μ x2 x4 → K x2' x4') → fX4_sumsOf_5 a0 x1 h Q K x2 x4) : ∀ (x2 : Int64) (x4 : Int32), I x2 x4 → eX4_sumsOf_5 a0 x1 h Q x2 x4 := fun x2 x4 hI => lp_ind (fun s => I s.1 s.2) (fun s => μ s.1 s.2) (fun s hs' K hK => hs s.1 s.2 hs' _ (fun x2' x4' h1 h2 => hK (x2', x4') h1 h2)) (x2, x4) hI
set_option maxRecDepth 20000 in
theorem tX4_sumsOf_5 {G : GG} {X : XX} {a0 : Nat} {x1 : Int32} {x2 : Int64} {x4 : Int32} {h : Hp}  {Q : Int64 → Prop} (C : Cx G RX4 cX4_sumsOf 8 (some .long) 0 0 0 X) (k0 : kd a0 = 4) (hw : eX4_sumsOf_5 a0 x1 h Q x2 x4) : R0 G X 0 0 (ZM G (fun r h' => ∃ v, r = some (.long v) ∧ h' = h ∧ Q v) X) 5 [some (.ref (G.1 a0)), some (.int x1), some (.long x2), none, some (.int x4), none, none, none] [] h := by
  obtain ⟨N, hw⟩ := hw
  induction N generalizing x2 x4 with
  | zero => exact hw.elim
  | succ N ih =>
    obtain ⟨K5, eK⟩ : ∃ K : Int64 → Int32 → Prop, K = (fun x2 x4 => lpN (fun (K : Int64 × Int32 → Prop) (s : Int64 × Int32) => fX4_sumsOf_5 a0 x1 h Q (fun x2 x4 => K (x2, x4)) s.1 s.2) N (x2, x4)) := ⟨_, rfl⟩
    have hw : fX4_sumsOf_5 a0 x1 h Q (fun x2 x4 => lpN (fun (K : Int64 × Int32 → Prop) (s : Int64 × Int32) => fX4_sumsOf_5 a0 x1 h Q (fun x2 x4 => K (x2, x4)) s.1 s.2) N (x2, x4)) x2 x4 := hw
    have hK5 : ∀ (x2 : Int64) (x4 : Int32), K5 x2 x4 → R0 G X 0 0 (ZM G (fun r h' => ∃ v, r = some (.long v) ∧ h' = h ∧ Q v) X) 5 [some (.ref (G.1 a0)), some (.int x1), some (.long x2), none, some (.int x4), none, none, none] [] h := fun x2 x4 q => ih (by rw [eK] at q; exact q)
    rw [← eK] at hw
    clear eK ih
    unfold fX4_sumsOf_5 at hw
    refine r_iload C dX4_sumsOf_5 rfl ?_
    refine r_aload_n C dX4_sumsOf_7 rfl ?_
    refine gX4_15 C (k0) dX4_sumsOf_8 ?_
    refine r_icmp_ge 55 C dX4_sumsOf_11 (by decide) (fun hc => ?_) (fun hc => ?_)
    · replace hw := it_t hc hw
      refine r_lload_n C dX4_sumsOf_55 rfl ?_
      exact r_lret C dX4_sumsOf_56 ⟨_, rfl, rfl, hw⟩
    · replace hw := it_f hc hw
      refine r_lload_n C dX4_sumsOf_14 rfl ?_
      refine r_lstore [some (.ref (G.1 a0)), some (.int x1), some (.long x2), none, some (.int x4), some (.long x2), none, none] C dX4_sumsOf_15 (Nat.le_of_ble_eq_true rfl) rfl rfl ?_
      refine r_iconst (0) C dX4_sumsOf_17 (by decide) ?_
      refine r_istore [some (.ref (G.1 a0)), some (.int x1), some (.long x2), none, some (.int x4), some (.long x2), none, some (.int (0 : Int32))] C dX4_sumsOf_18 (Nat.le_of_ble_eq_true rfl) rfl rfl ?_
      exact tX4_sumsOf_20 C (k0) hK5 hw
def wX4_sumsOf (a0 : Nat) (x1 : Int32) (h : Hp) (Q : Int64 → Prop) : Prop :=
  eX4_sumsOf_5 a0 x1 h Q (1 : Int64) (0 : Int32)
set_option maxRecDepth 20000 in
theorem sX4_sumsOf {G : GG} {a0 : Nat} {x1 : Int32} {h : Hp} {Q : Int64 → Prop} (k0 : kd a0 = 4) (hw : wX4_sumsOf a0 x1 h Q) : PJ G 0 yX4_sumsOf cX4_sumsOf 8 (some .long) [.ref (G.1 a0), .int x1] h Q := by
  refine CO_of [some (.ref (G.1 a0)), some (.int x1), none, none, none, none, none, none] (by decide) (Nat.le_of_ble_eq_true rfl) rfl (fun X C => ?_)
  unfold wX4_sumsOf at hw
  refine r_lconst (1) C dX4_sumsOf_0 (by decide) ?_
  refine r_lstore_n [some (.ref (G.1 a0)), some (.int x1), some (.long (1 : Int64)), none, none, none, none, none] C dX4_sumsOf_1 (Nat.le_of_ble_eq_true rfl) rfl rfl ?_
  refine r_iconst (0) C dX4_sumsOf_2 (by decide) ?_
  refine r_istore [some (.ref (G.1 a0)), some (.int x1), some (.long (1 : Int64)), none, some (.int (0 : Int32)), none, none, none] C dX4_sumsOf_3 (Nat.le_of_ble_eq_true rfl) rfl rfl ?_
  exact tX4_sumsOf_5 C (k0) hw
def fX2_begin_40 (a0 : Nat) (Q : Hp → Prop) (K40 : Int32 → Hp → Prop) (x2 : Int32) (h : Hp) : Prop :=
  if (12 : Int32) ≤ x2 then (Q h) else (vp_in x2 (ln (rf a0 3)) ∧ (∀ h2 : Hp, h2 = sI h (rf a0 3) x2.toNatClampNeg (-2 : Int32) → (vp_in x2 (ln (rf a0 4)) ∧ (∀ h4 : Hp, h4 = sI h2 (rf a0 4) x2.toNatClampNeg (-2 : Int32) → (∀ v5 : Int32, v5 = x2 + (1 : Int32) → (K40 v5 h4))))))
def eX2_begin_40 (a0 : Nat) (Q : Hp → Prop) (x2 : Int32) (h : Hp) : Prop := ∃ N, lpN (fun (K : Int32 × Hp → Prop) (s : Int32 × Hp) => fX2_begin_40 a0 Q (fun x2 h => K (x2, h)) s.1 s.2) N (x2, h)
theorem iX2_begin_40 {a0 : Nat} {Q : Hp → Prop} (I : Int32 → Hp → Prop) (μ : Int32 → Hp → Nat) (hs : ∀ (x2 : Int32) (h : Hp), I x2 h → ∀ K : Int32 → Hp → Prop, (∀ (x2' : Int32) (h' : Hp), I x2' h' → μ x2' h' < μ x2 h → K x2' h') → fX2_begin_40 a0 Q K x2 h) : ∀ (x2 : Int32) (h : Hp), I x2 h → eX2_begin_40 a0 Q x2 h := fun x2 h hI => lp_ind (fun s => I s.1 s.2) (fun s => μ s.1 s.2) (fun s hs' K hK => hs s.1 s.2 hs' _ (fun x2' h' h1 h2 => hK (x2', h') h1 h2)) (x2, h) hI
set_option maxRecDepth 20000 in
theorem tX2_begin_40 {G : GG} {X : XX} {a0 : Nat} {x2 : Int32} {h : Hp}  {Q : Hp → Prop} (C : Cx G RX2 cX2_begin 3 none 1 0 0 X) (k0 : kd a0 = 2) (hw : eX2_begin_40 a0 Q x2 h) : R0 G X 0 0 (ZM G (fun r h' => r = none ∧ Q h') X) 40 [some (.ref (G.1 a0)), none, some (.int x2)] [] h := by
  obtain ⟨N, hw⟩ := hw
  induction N generalizing x2 h with
  | zero => exact hw.elim
  | succ N ih =>
    obtain ⟨K40, eK⟩ : ∃ K : Int32 → Hp → Prop, K = (fun x2 h => lpN (fun (K : Int32 × Hp → Prop) (s : Int32 × Hp) => fX2_begin_40 a0 Q (fun x2 h => K (x2, h)) s.1 s.2) N (x2, h)) := ⟨_, rfl⟩
    have hw : fX2_begin_40 a0 Q (fun x2 h => lpN (fun (K : Int32 × Hp → Prop) (s : Int32 × Hp) => fX2_begin_40 a0 Q (fun x2 h => K (x2, h)) s.1 s.2) N (x2, h)) x2 h := hw
    have hK40 : ∀ (x2 : Int32) (h : Hp), K40 x2 h → R0 G X 0 0 (ZM G (fun r h' => r = none ∧ Q h') X) 40 [some (.ref (G.1 a0)), none, some (.int x2)] [] h := fun x2 h q => ih (by rw [eK] at q; exact q)
    rw [← eK] at hw
    clear eK ih
    unfold fX2_begin_40 at hw
    refine r_iload_n C dX2_begin_40 rfl ?_
    refine r_bipush (12) C dX2_begin_41 (by decide) ?_
    refine r_icmp_ge 68 C dX2_begin_43 (by decide) (fun hc => ?_) (fun hc => ?_)
    · replace hw := it_t hc hw
      exact r_vret C dX2_begin_68 ⟨rfl, hw⟩
    · replace hw := it_f hc hw
      refine r_aload_n C dX2_begin_46 rfl ?_
      refine gX2_9 C (k0) dX2_begin_47 ?_
      refine r_iload_n C dX2_begin_50 rfl ?_
      refine r_bipush (-2) C dX2_begin_51 (by decide) ?_
      obtain ⟨hi1, hw⟩ := hw
      refine r_iast C (kr2_3 (k0)) hi1 dX2_begin_53 ?_
      refine r_toph (fun h2 eh2 => ?_)
      replace hw := hw h2 eh2
      refine r_aload_n C dX2_begin_54 rfl ?_
      refine gX2_15 C (k0) dX2_begin_55 ?_
      refine r_iload_n C dX2_begin_58 rfl ?_
      refine r_bipush (-2) C dX2_begin_59 (by decide) ?_
      obtain ⟨hi3, hw⟩ := hw
      refine r_iast C (kr2_4 (k0)) hi3 dX2_begin_61 ?_
      refine r_toph (fun h4 eh4 => ?_)
      replace hw := hw h4 eh4
      obtain ⟨v5, ev5⟩ : ∃ v : Int32, v = x2 + (1 : Int32) := ⟨_, rfl⟩
      replace hw := hw v5 ev5
      refine r_iinc v5 [some (.ref (G.1 a0)), none, some (.int v5)] C dX2_begin_62 rfl (by rw [ev5]; rfl) rfl rfl ?_
      refine r_goto 40 C dX2_begin_65 (by decide) ?_
      exact hK40 _ _ hw
def wX2_begin (a0 : Nat) (x1 : Int32) (h : Hp) (Q : Hp → Prop) : Prop :=
  ∀ h1 : Hp, h1 = sI h a0 5 x1 → (wX4_sumsOf (rf a0 0) (12 : Int32) h1 (fun v2 => ∀ h3 : Hp, h3 = sL h1 a0 6 v2 → (∀ h4 : Hp, h4 = sI h3 a0 7 (0 : Int32) → (∀ h5 : Hp, h5 = sI h4 a0 8 (0 : Int32) → (∀ h6 : Hp, h6 = sI h5 a0 9 (0 : Int32) → (∀ h7 : Hp, h7 = sI h6 a0 10 (0 : Int32) → (eX2_begin_40 a0 Q (0 : Int32) h7)))))))
set_option maxRecDepth 20000 in
theorem sX2_begin {G : GG} {a0 : Nat} {x1 : Int32} {h : Hp} {Q : Hp → Prop} (k0 : kd a0 = 2) (hw : wX2_begin a0 x1 h Q) : CV G 1 yX2_begin cX2_begin 3 none [.ref (G.1 a0), .int x1] h Q := by
  refine CO_of [some (.ref (G.1 a0)), some (.int x1), none] (by decide) (Nat.le_of_ble_eq_true rfl) rfl (fun X C => ?_)
  unfold wX2_begin at hw
  refine r_aload_n C dX2_begin_0 rfl ?_
  refine r_iload_n C dX2_begin_1 rfl ?_
  refine pX2_66 C (k0) dX2_begin_2 ?_
  refine r_toph (fun h1 eh1 => ?_)
  replace hw := hw h1 eh1
  refine r_aload_n C dX2_begin_5 rfl ?_
  refine r_aload_n C dX2_begin_6 rfl ?_
  refine gX2_18 C (k0) dX2_begin_7 ?_
  refine r_bipush (12) C dX2_begin_10 (by decide) ?_
  refine kX2_69 C (kr2_0 (k0)) (sX4_sumsOf (kr2_0 (k0)) hw) dX2_begin_12 (Nat.le_of_ble_eq_true rfl) rfl (Nat.le_of_ble_eq_true rfl) (fun v2 hw => ?_)
  refine pX2_73 C (k0) dX2_begin_15 ?_
  refine r_toph (fun h3 eh3 => ?_)
  replace hw := hw h3 eh3
  refine r_aload_n C dX2_begin_18 rfl ?_
  refine r_iconst (0) C dX2_begin_19 (by decide) ?_
  refine pX2_40 C (k0) dX2_begin_20 ?_
  refine r_toph (fun h4 eh4 => ?_)
  replace hw := hw h4 eh4
  refine r_aload_n C dX2_begin_23 rfl ?_
  refine r_iconst (0) C dX2_begin_24 (by decide) ?_
  refine pX2_53 C (k0) dX2_begin_25 ?_
  refine r_toph (fun h5 eh5 => ?_)
  replace hw := hw h5 eh5
  refine r_aload_n C dX2_begin_28 rfl ?_
  refine r_iconst (0) C dX2_begin_29 (by decide) ?_
  refine pX2_59 C (k0) dX2_begin_30 ?_
  refine r_toph (fun h6 eh6 => ?_)
  replace hw := hw h6 eh6
  refine r_aload_n C dX2_begin_33 rfl ?_
  refine r_iconst (0) C dX2_begin_34 (by decide) ?_
  refine pX2_77 C (k0) dX2_begin_35 ?_
  refine r_toph (fun h7 eh7 => ?_)
  replace hw := hw h7 eh7
  refine r_iconst (0) C dX2_begin_38 (by decide) ?_
  refine r_istore_n [some (.ref (G.1 a0)), some (.int x1), some (.int (0 : Int32))] C dX2_begin_39 (Nat.le_of_ble_eq_true rfl) rfl rfl ?_
  refine r_weak [some (.ref (G.1 a0)), none, some (.int (0 : Int32))] (lw_k (lw_d (lw_k (lw_n)))) ?_
  exact tX2_begin_40 C (k0) hw
def fX8_dueBy_5 (a0 : Nat) (a1 : Nat) (x2 : Int32) (h : Hp) (Q : Int32 → Prop) (K5 : Int32 → Int32 → Prop) (x3 : Int32) (x4 : Int32) : Prop :=
  if (gI h a0 3) ≤ x4 then (Q x3) else (vp_in x4 (ln a1) ∧ (if x2 < (gI h a1 x4.toNatClampNeg) then (∀ v2 : Int32, v2 = x4 + (1 : Int32) → (K5 x3 v2)) else (∀ v3 : Int32, v3 = (x3 ||| (shl (1 : Int32) x4)) → (∀ v4 : Int32, v4 = x4 + (1 : Int32) → (K5 v3 v4)))))
def eX8_dueBy_5 (a0 : Nat) (a1 : Nat) (x2 : Int32) (h : Hp) (Q : Int32 → Prop) (x3 : Int32) (x4 : Int32) : Prop := ∃ N, lpN (fun (K : Int32 × Int32 → Prop) (s : Int32 × Int32) => fX8_dueBy_5 a0 a1 x2 h Q (fun x3 x4 => K (x3, x4)) s.1 s.2) N (x3, x4)
theorem iX8_dueBy_5 {a0 : Nat} {a1 : Nat} {x2 : Int32} {h : Hp} {Q : Int32 → Prop} (I : Int32 → Int32 → Prop) (μ : Int32 → Int32 → Nat) (hs : ∀ (x3 : Int32) (x4 : Int32), I x3 x4 → ∀ K : Int32 → Int32 → Prop, (∀ (x3' : Int32) (x4' : Int32), I x3' x4' → μ x3' x4' < μ x3 x4 → K x3' x4') → fX8_dueBy_5 a0 a1 x2 h Q K x3 x4) : ∀ (x3 : Int32) (x4 : Int32), I x3 x4 → eX8_dueBy_5 a0 a1 x2 h Q x3 x4 := fun x3 x4 hI => lp_ind (fun s => I s.1 s.2) (fun s => μ s.1 s.2) (fun s hs' K hK => hs s.1 s.2 hs' _ (fun x3' x4' h1 h2 => hK (x3', x4') h1 h2)) (x3, x4) hI
set_option maxRecDepth 20000 in
theorem tX8_dueBy_5 {G : GG} {X : XX} {a0 : Nat} {a1 : Nat} {x2 : Int32} {x3 : Int32} {x4 : Int32} {h : Hp}  {Q : Int32 → Prop} (C : Cx G RX8 cX8_dueBy 5 (some .int) 0 0 0 X) (k0 : kd a0 = 8) (k1 : kd a1 = 20) (hw : eX8_dueBy_5 a0 a1 x2 h Q x3 x4) : R0 G X 0 0 (ZM G (fun r h' => ∃ v, r = some (.int v) ∧ h' = h ∧ Q v) X) 5 [some (.ref (G.1 a0)), some (.ref (G.1 a1)), some (.int x2), some (.int x3), some (.int x4)] [] h := by
  obtain ⟨N, hw⟩ := hw
  induction N generalizing x3 x4 with
  | zero => exact hw.elim
  | succ N ih =>
    obtain ⟨K5, eK⟩ : ∃ K : Int32 → Int32 → Prop, K = (fun x3 x4 => lpN (fun (K : Int32 × Int32 → Prop) (s : Int32 × Int32) => fX8_dueBy_5 a0 a1 x2 h Q (fun x3 x4 => K (x3, x4)) s.1 s.2) N (x3, x4)) := ⟨_, rfl⟩
    have hw : fX8_dueBy_5 a0 a1 x2 h Q (fun x3 x4 => lpN (fun (K : Int32 × Int32 → Prop) (s : Int32 × Int32) => fX8_dueBy_5 a0 a1 x2 h Q (fun x3 x4 => K (x3, x4)) s.1 s.2) N (x3, x4)) x3 x4 := hw
    have hK5 : ∀ (x3 : Int32) (x4 : Int32), K5 x3 x4 → R0 G X 0 0 (ZM G (fun r h' => ∃ v, r = some (.int v) ∧ h' = h ∧ Q v) X) 5 [some (.ref (G.1 a0)), some (.ref (G.1 a1)), some (.int x2), some (.int x3), some (.int x4)] [] h := fun x3 x4 q => ih (by rw [eK] at q; exact q)
    rw [← eK] at hw
    clear eK ih
    unfold fX8_dueBy_5 at hw
    refine r_iload C dX8_dueBy_5 rfl ?_
    refine r_aload_n C dX8_dueBy_7 rfl ?_
    refine gX8_25 C (k0) dX8_dueBy_8 ?_
    refine r_icmp_ge 35 C dX8_dueBy_11 (by decide) (fun hc => ?_) (fun hc => ?_)
    · replace hw := it_t hc hw
      refine r_iload_n C dX8_dueBy_35 rfl ?_
      exact r_iret C dX8_dueBy_36 ⟨_, rfl, rfl, hw⟩
    · replace hw := it_f hc hw
      refine r_aload_n C dX8_dueBy_14 rfl ?_
      refine r_iload C dX8_dueBy_15 rfl ?_
      obtain ⟨hi1, hw⟩ := hw
      refine r_iald C (k1) hi1 dX8_dueBy_17 ?_
      refine r_iload_n C dX8_dueBy_18 rfl ?_
      refine r_icmp_gt 29 C dX8_dueBy_19 (by decide) (fun hc => ?_) (fun hc => ?_)
      · replace hw := it_t hc hw
        obtain ⟨v2, ev2⟩ : ∃ v : Int32, v = x4 + (1 : Int32) := ⟨_, rfl⟩
        replace hw := hw v2 ev2
        refine r_iinc v2 [some (.ref (G.1 a0)), some (.ref (G.1 a1)), some (.int x2), some (.int x3), some (.int v2)] C dX8_dueBy_29 rfl (by rw [ev2]; rfl) rfl rfl ?_
        refine r_goto 5 C dX8_dueBy_32 (by decide) ?_
        exact hK5 _ _ hw
      · replace hw := it_f hc hw
        refine r_iload_n C dX8_dueBy_22 rfl ?_
        refine r_iconst (1) C dX8_dueBy_23 (by decide) ?_
        refine r_iload C dX8_dueBy_24 rfl ?_
        refine r_ishl C dX8_dueBy_26 ?_
        refine r_ior C dX8_dueBy_27 ?_
        refine r_topi (fun v3 ev3 => ?_)
        replace hw := hw v3 ev3
        refine r_istore_n [some (.ref (G.1 a0)), some (.ref (G.1 a1)), some (.int x2), some (.int v3), some (.int x4)] C dX8_dueBy_28 (Nat.le_of_ble_eq_true rfl) rfl rfl ?_
        obtain ⟨v4, ev4⟩ : ∃ v : Int32, v = x4 + (1 : Int32) := ⟨_, rfl⟩
        replace hw := hw v4 ev4
        refine r_iinc v4 [some (.ref (G.1 a0)), some (.ref (G.1 a1)), some (.int x2), some (.int v3), some (.int v4)] C dX8_dueBy_29 rfl (by rw [ev4]; rfl) rfl rfl ?_
        refine r_goto 5 C dX8_dueBy_32 (by decide) ?_
        exact hK5 _ _ hw
def wX8_dueBy (a0 : Nat) (a1 : Nat) (x2 : Int32) (h : Hp) (Q : Int32 → Prop) : Prop :=
  eX8_dueBy_5 a0 a1 x2 h Q (0 : Int32) (0 : Int32)
set_option maxRecDepth 20000 in
theorem sX8_dueBy {G : GG} {a0 : Nat} {a1 : Nat} {x2 : Int32} {h : Hp} {Q : Int32 → Prop} (k0 : kd a0 = 8) (k1 : kd a1 = 20) (hw : wX8_dueBy a0 a1 x2 h Q) : PI G 0 yX8_dueBy cX8_dueBy 5 (some .int) [.ref (G.1 a0), .ref (G.1 a1), .int x2] h Q := by
  refine CO_of [some (.ref (G.1 a0)), some (.ref (G.1 a1)), some (.int x2), none, none] (by decide) (Nat.le_of_ble_eq_true rfl) rfl (fun X C => ?_)
  unfold wX8_dueBy at hw
  refine r_iconst (0) C dX8_dueBy_0 (by decide) ?_
  refine r_istore_n [some (.ref (G.1 a0)), some (.ref (G.1 a1)), some (.int x2), some (.int (0 : Int32)), none] C dX8_dueBy_1 (Nat.le_of_ble_eq_true rfl) rfl rfl ?_
  refine r_iconst (0) C dX8_dueBy_2 (by decide) ?_
  refine r_istore [some (.ref (G.1 a0)), some (.ref (G.1 a1)), some (.int x2), some (.int (0 : Int32)), some (.int (0 : Int32))] C dX8_dueBy_3 (Nat.le_of_ble_eq_true rfl) rfl rfl ?_
  exact tX8_dueBy_5 C (k0) (k1) hw
def wX8_waitingOut (a0 : Nat) (x1 : Int32) (x2 : Int32) (h : Hp) (Q : Int32 → Prop) : Prop :=
  wX8_dueBy a0 (rf a0 0) x1 h (fun v1 => Q (v1 &&& (x2 ^^^ (-1 : Int32))))
set_option maxRecDepth 20000 in
theorem sX8_waitingOut {G : GG} {a0 : Nat} {x1 : Int32} {x2 : Int32} {h : Hp} {Q : Int32 → Prop} (k0 : kd a0 = 8) (hw : wX8_waitingOut a0 x1 x2 h Q) : PI G 1 yX8_waitingOut cX8_waitingOut 3 (some .int) [.ref (G.1 a0), .int x1, .int x2] h Q := by
  refine CO_of [some (.ref (G.1 a0)), some (.int x1), some (.int x2)] (by decide) (Nat.le_of_ble_eq_true rfl) rfl (fun X C => ?_)
  unfold wX8_waitingOut at hw
  refine r_aload_n C dX8_waitingOut_0 rfl ?_
  refine r_aload_n C dX8_waitingOut_1 rfl ?_
  refine gX8_9 C (k0) dX8_waitingOut_2 ?_
  refine r_iload_n C dX8_waitingOut_5 rfl ?_
  refine kX8_29 C (k0) (sX8_dueBy (k0) (kr8_0 (k0)) hw) dX8_waitingOut_6 (Nat.le_of_ble_eq_true rfl) rfl (Nat.le_of_ble_eq_true rfl) (fun v1 hw => ?_)
  refine r_iload_n C dX8_waitingOut_9 rfl ?_
  refine r_iconst (-1) C dX8_waitingOut_10 (by decide) ?_
  refine r_ixor C dX8_waitingOut_11 ?_
  refine r_iand C dX8_waitingOut_12 ?_
  exact r_iret C dX8_waitingOut_13 ⟨_, rfl, rfl, hw⟩
def wX4_has (a0 : Nat) (x1 : Int32) (h : Hp) (Q : Int32 → Prop) : Prop :=
  if x1 < 0 then (Q (0 : Int32)) else (if (gI h a0 1) ≤ x1 then (Q (0 : Int32)) else (Q (1 : Int32)))
set_option maxRecDepth 20000 in
theorem sX4_has {G : GG} {a0 : Nat} {x1 : Int32} {h : Hp} {Q : Int32 → Prop} (k0 : kd a0 = 4) (hw : wX4_has a0 x1 h Q) : PI G 0 yX4_has cX4_has 2 (some .boolean) [.ref (G.1 a0), .int x1] h Q := by
  refine CO_of [some (.ref (G.1 a0)), some (.int x1)] (by decide) (Nat.le_of_ble_eq_true rfl) rfl (fun X C => ?_)
  unfold wX4_has at hw
  refine r_iload_n C dX4_has_0 rfl ?_
  refine r_if_lt 16 C dX4_has_1 (by decide) (fun hc => ?_) (fun hc => ?_)
  · replace hw := it_t hc hw
    refine r_iconst (0) C dX4_has_16 (by decide) ?_
    exact r_zret C dX4_has_17 rfl ⟨_, rfl, rfl, hw⟩
  · replace hw := it_f hc hw
    refine r_iload_n C dX4_has_4 rfl ?_
    refine r_aload_n C dX4_has_5 rfl ?_
    refine gX4_15 C (k0) dX4_has_6 ?_
    refine r_icmp_ge 16 C dX4_has_9 (by decide) (fun hc => ?_) (fun hc => ?_)
    · replace hw := it_t hc hw
      refine r_iconst (0) C dX4_has_16 (by decide) ?_
      exact r_zret C dX4_has_17 rfl ⟨_, rfl, rfl, hw⟩
    · replace hw := it_f hc hw
      refine r_iconst (1) C dX4_has_12 (by decide) ?_
      refine r_goto 17 C dX4_has_13 (by decide) ?_
      exact r_zret C dX4_has_17 rfl ⟨_, rfl, rfl, hw⟩
def wX4_numberOf (a0 : Nat) (x1 : Int32) (h : Hp) (Q : Int32 → Prop) : Prop :=
  wX4_has a0 x1 h (fun v1 => if v1 = 0 then (Q (1 : Int32)) else (vp_in x1 (ln (rf a0 0)) ∧ (Q (gI h (rf a0 0) x1.toNatClampNeg))))
set_option maxRecDepth 20000 in
theorem sX4_numberOf {G : GG} {a0 : Nat} {x1 : Int32} {h : Hp} {Q : Int32 → Prop} (k0 : kd a0 = 4) (hw : wX4_numberOf a0 x1 h Q) : PI G 1 yX4_numberOf cX4_numberOf 2 (some .int) [.ref (G.1 a0), .int x1] h Q := by
  refine CO_of [some (.ref (G.1 a0)), some (.int x1)] (by decide) (Nat.le_of_ble_eq_true rfl) rfl (fun X C => ?_)
  unfold wX4_numberOf at hw
  refine r_aload_n C dX4_numberOf_0 rfl ?_
  refine r_iload_n C dX4_numberOf_1 rfl ?_
  refine kX4_19 C (k0) (sX4_has (k0) hw) dX4_numberOf_2 (Nat.le_of_ble_eq_true rfl) rfl (Nat.le_of_ble_eq_true rfl) (fun v1 hw => ?_)
  refine r_if_eq 17 C dX4_numberOf_5 (by decide) (fun hc => ?_) (fun hc => ?_)
  · replace hw := it_t hc hw
    refine r_iconst (1) C dX4_numberOf_17 (by decide) ?_
    exact r_iret C dX4_numberOf_18 ⟨_, rfl, rfl, hw⟩
  · replace hw := it_f hc hw
    refine r_aload_n C dX4_numberOf_8 rfl ?_
    refine gX4_9 C (k0) dX4_numberOf_9 ?_
    refine r_iload_n C dX4_numberOf_12 rfl ?_
    obtain ⟨hi2, hw⟩ := hw
    refine r_iald C (kr4_0 (k0)) hi2 dX4_numberOf_13 ?_
    refine r_goto 18 C dX4_numberOf_14 (by decide) ?_
    exact r_iret C dX4_numberOf_18 ⟨_, rfl, rfl, hw⟩
def wJ6_bitCount_0f7a4 (x0 : Int32) (h : Hp) (Q : Int32 → Prop) : Prop :=
  ∀ v1 : Int32, v1 = (x0 - ((ushr x0 (1 : Int32)) &&& (1431655765 : Int32))) → (∀ v2 : Int32, v2 = ((v1 &&& (858993459 : Int32)) + ((ushr v1 (2 : Int32)) &&& (858993459 : Int32))) → (∀ v3 : Int32, v3 = ((v2 + (ushr v2 (4 : Int32))) &&& (252645135 : Int32)) → (∀ v4 : Int32, v4 = (v3 + (ushr v3 (8 : Int32))) → (∀ v5 : Int32, v5 = (v4 + (ushr v4 (16 : Int32))) → (Q (v5 &&& (63 : Int32)))))))
set_option maxRecDepth 20000 in
theorem sJ6_bitCount_0f7a4 {G : GG} {x0 : Int32} {h : Hp} {Q : Int32 → Prop} (hw : wJ6_bitCount_0f7a4 x0 h Q) : PI G 0 yJ6_bitCount_0f7a4 cJ6_bitCount_0f7a4 1 (some .int) [.int x0] h Q := by
  refine CO_of [some (.int x0)] (by decide) (Nat.le_of_ble_eq_true rfl) rfl (fun X C => ?_)
  unfold wJ6_bitCount_0f7a4 at hw
  refine r_iload_n C dJ6_bitCount_0f7a4_0 rfl ?_
  refine r_iload_n C dJ6_bitCount_0f7a4_1 rfl ?_
  refine r_iconst (1) C dJ6_bitCount_0f7a4_2 (by decide) ?_
  refine r_iushr C dJ6_bitCount_0f7a4_3 ?_
  refine r_ldc_w (1431655765) C wd679 dJ6_bitCount_0f7a4_4 ?_
  refine r_iand C dJ6_bitCount_0f7a4_7 ?_
  refine r_isub C dJ6_bitCount_0f7a4_8 ?_
  refine r_topi (fun v1 ev1 => ?_)
  replace hw := hw v1 ev1
  refine r_istore_n [some (.int v1)] C dJ6_bitCount_0f7a4_9 (Nat.le_of_ble_eq_true rfl) rfl rfl ?_
  refine r_iload_n C dJ6_bitCount_0f7a4_10 rfl ?_
  refine r_ldc_w (858993459) C wd680 dJ6_bitCount_0f7a4_11 ?_
  refine r_iand C dJ6_bitCount_0f7a4_14 ?_
  refine r_iload_n C dJ6_bitCount_0f7a4_15 rfl ?_
  refine r_iconst (2) C dJ6_bitCount_0f7a4_16 (by decide) ?_
  refine r_iushr C dJ6_bitCount_0f7a4_17 ?_
  refine r_ldc_w (858993459) C wd680 dJ6_bitCount_0f7a4_18 ?_
  refine r_iand C dJ6_bitCount_0f7a4_21 ?_
  refine r_iadd C dJ6_bitCount_0f7a4_22 ?_
  refine r_topi (fun v2 ev2 => ?_)
  replace hw := hw v2 ev2
  refine r_istore_n [some (.int v2)] C dJ6_bitCount_0f7a4_23 (Nat.le_of_ble_eq_true rfl) rfl rfl ?_
  refine r_iload_n C dJ6_bitCount_0f7a4_24 rfl ?_
  refine r_iload_n C dJ6_bitCount_0f7a4_25 rfl ?_
  refine r_iconst (4) C dJ6_bitCount_0f7a4_26 (by decide) ?_
  refine r_iushr C dJ6_bitCount_0f7a4_27 ?_
  refine r_iadd C dJ6_bitCount_0f7a4_28 ?_
  refine r_ldc_w (252645135) C wd681 dJ6_bitCount_0f7a4_29 ?_
  refine r_iand C dJ6_bitCount_0f7a4_32 ?_
  refine r_topi (fun v3 ev3 => ?_)
  replace hw := hw v3 ev3
  refine r_istore_n [some (.int v3)] C dJ6_bitCount_0f7a4_33 (Nat.le_of_ble_eq_true rfl) rfl rfl ?_
  refine r_iload_n C dJ6_bitCount_0f7a4_34 rfl ?_
  refine r_iload_n C dJ6_bitCount_0f7a4_35 rfl ?_
  refine r_bipush (8) C dJ6_bitCount_0f7a4_36 (by decide) ?_
  refine r_iushr C dJ6_bitCount_0f7a4_38 ?_
  refine r_iadd C dJ6_bitCount_0f7a4_39 ?_
  refine r_topi (fun v4 ev4 => ?_)
  replace hw := hw v4 ev4
  refine r_istore_n [some (.int v4)] C dJ6_bitCount_0f7a4_40 (Nat.le_of_ble_eq_true rfl) rfl rfl ?_
  refine r_iload_n C dJ6_bitCount_0f7a4_41 rfl ?_
  refine r_iload_n C dJ6_bitCount_0f7a4_42 rfl ?_
  refine r_bipush (16) C dJ6_bitCount_0f7a4_43 (by decide) ?_
  refine r_iushr C dJ6_bitCount_0f7a4_45 ?_
  refine r_iadd C dJ6_bitCount_0f7a4_46 ?_
  refine r_topi (fun v5 ev5 => ?_)
  replace hw := hw v5 ev5
  refine r_istore_n [some (.int v5)] C dJ6_bitCount_0f7a4_47 (Nat.le_of_ble_eq_true rfl) rfl rfl ?_
  refine r_iload_n C dJ6_bitCount_0f7a4_48 rfl ?_
  refine r_bipush (63) C dJ6_bitCount_0f7a4_49 (by decide) ?_
  refine r_iand C dJ6_bitCount_0f7a4_51 ?_
  exact r_iret C dJ6_bitCount_0f7a4_52 ⟨_, rfl, rfl, hw⟩
def wX11_bit (x0 : Int32) (x1 : Int32) (h : Hp) (Q : Int32 → Prop) : Prop :=
  Q ((shr x0 x1) &&& (1 : Int32))
set_option maxRecDepth 20000 in
theorem sX11_bit {G : GG} {x0 : Int32} {x1 : Int32} {h : Hp} {Q : Int32 → Prop} (hw : wX11_bit x0 x1 h Q) : PI G 0 yX11_bit cX11_bit 2 (some .int) [.int x0, .int x1] h Q := by
  refine CO_of [some (.int x0), some (.int x1)] (by decide) (Nat.le_of_ble_eq_true rfl) rfl (fun X C => ?_)
  unfold wX11_bit at hw
  refine r_iload_n C dX11_bit_0 rfl ?_
  refine r_iload_n C dX11_bit_1 rfl ?_
  refine r_ishr C dX11_bit_2 ?_
  refine r_iconst (1) C dX11_bit_3 (by decide) ?_
  refine r_iand C dX11_bit_4 ?_
  exact r_iret C dX11_bit_5 ⟨_, rfl, rfl, hw⟩
def wX8_has (a0 : Nat) (x1 : Int32) (h : Hp) (Q : Int32 → Prop) : Prop :=
  if x1 < 0 then (Q (0 : Int32)) else (if (gI h a0 3) ≤ x1 then (Q (0 : Int32)) else (Q (1 : Int32)))
set_option maxRecDepth 20000 in
theorem sX8_has {G : GG} {a0 : Nat} {x1 : Int32} {h : Hp} {Q : Int32 → Prop} (k0 : kd a0 = 8) (hw : wX8_has a0 x1 h Q) : PI G 0 yX8_has cX8_has 2 (some .boolean) [.ref (G.1 a0), .int x1] h Q := by
  refine CO_of [some (.ref (G.1 a0)), some (.int x1)] (by decide) (Nat.le_of_ble_eq_true rfl) rfl (fun X C => ?_)
  unfold wX8_has at hw
  refine r_iload_n C dX8_has_0 rfl ?_
  refine r_if_lt 16 C dX8_has_1 (by decide) (fun hc => ?_) (fun hc => ?_)
  · replace hw := it_t hc hw
    refine r_iconst (0) C dX8_has_16 (by decide) ?_
    exact r_zret C dX8_has_17 rfl ⟨_, rfl, rfl, hw⟩
  · replace hw := it_f hc hw
    refine r_iload_n C dX8_has_4 rfl ?_
    refine r_aload_n C dX8_has_5 rfl ?_
    refine gX8_25 C (k0) dX8_has_6 ?_
    refine r_icmp_ge 16 C dX8_has_9 (by decide) (fun hc => ?_) (fun hc => ?_)
    · replace hw := it_t hc hw
      refine r_iconst (0) C dX8_has_16 (by decide) ?_
      exact r_zret C dX8_has_17 rfl ⟨_, rfl, rfl, hw⟩
    · replace hw := it_f hc hw
      refine r_iconst (1) C dX8_has_12 (by decide) ?_
      refine r_goto 17 C dX8_has_13 (by decide) ?_
      exact r_zret C dX8_has_17 rfl ⟨_, rfl, rfl, hw⟩
def wX6_name (a0 : Nat) (x1 : Int32) (x2 : Int32) (x3 : Int32) (x4 : Int32) (x5 : Int32) (x6 : Int32) (h : Hp) (Q : Hp → Prop) : Prop :=
  vp_in (0 : Int32) (ln (rf a0 0)) ∧ (∀ h2 : Hp, h2 = sI h (rf a0 0) (0 : Int32).toNatClampNeg x1 → (vp_in (1 : Int32) (ln (rf a0 0)) ∧ (∀ h4 : Hp, h4 = sI h2 (rf a0 0) (1 : Int32).toNatClampNeg x2 → (vp_in (2 : Int32) (ln (rf a0 0)) ∧ (∀ h6 : Hp, h6 = sI h4 (rf a0 0) (2 : Int32).toNatClampNeg x3 → (vp_in (3 : Int32) (ln (rf a0 0)) ∧ (∀ h8 : Hp, h8 = sI h6 (rf a0 0) (3 : Int32).toNatClampNeg x4 → (vp_in (4 : Int32) (ln (rf a0 0)) ∧ (∀ h10 : Hp, h10 = sI h8 (rf a0 0) (4 : Int32).toNatClampNeg x5 → (vp_in (5 : Int32) (ln (rf a0 0)) ∧ (∀ h12 : Hp, h12 = sI h10 (rf a0 0) (5 : Int32).toNatClampNeg x6 → (Q h12))))))))))))
set_option maxRecDepth 20000 in
theorem sX6_name {G : GG} {a0 : Nat} {x1 : Int32} {x2 : Int32} {x3 : Int32} {x4 : Int32} {x5 : Int32} {x6 : Int32} {h : Hp} {Q : Hp → Prop} (k0 : kd a0 = 6) (hw : wX6_name a0 x1 x2 x3 x4 x5 x6 h Q) : CV G 0 yX6_name cX6_name 7 none [.ref (G.1 a0), .int x1, .int x2, .int x3, .int x4, .int x5, .int x6] h Q := by
  refine CO_of [some (.ref (G.1 a0)), some (.int x1), some (.int x2), some (.int x3), some (.int x4), some (.int x5), some (.int x6)] (by decide) (Nat.le_of_ble_eq_true rfl) rfl (fun X C => ?_)
  unfold wX6_name at hw
  refine r_aload_n C dX6_name_0 rfl ?_
  refine gX6_11 C (k0) dX6_name_1 ?_
  refine r_iconst (0) C dX6_name_4 (by decide) ?_
  refine r_iload_n C dX6_name_5 rfl ?_
  obtain ⟨hi1, hw⟩ := hw
  refine r_iast C (kr6_0 (k0)) hi1 dX6_name_6 ?_
  refine r_toph (fun h2 eh2 => ?_)
  replace hw := hw h2 eh2
  refine r_aload_n C dX6_name_7 rfl ?_
  refine gX6_11 C (k0) dX6_name_8 ?_
  refine r_iconst (1) C dX6_name_11 (by decide) ?_
  refine r_iload_n C dX6_name_12 rfl ?_
  obtain ⟨hi3, hw⟩ := hw
  refine r_iast C (kr6_0 (k0)) hi3 dX6_name_13 ?_
  refine r_toph (fun h4 eh4 => ?_)
  replace hw := hw h4 eh4
  refine r_aload_n C dX6_name_14 rfl ?_
  refine gX6_11 C (k0) dX6_name_15 ?_
  refine r_iconst (2) C dX6_name_18 (by decide) ?_
  refine r_iload_n C dX6_name_19 rfl ?_
  obtain ⟨hi5, hw⟩ := hw
  refine r_iast C (kr6_0 (k0)) hi5 dX6_name_20 ?_
  refine r_toph (fun h6 eh6 => ?_)
  replace hw := hw h6 eh6
  refine r_aload_n C dX6_name_21 rfl ?_
  refine gX6_11 C (k0) dX6_name_22 ?_
  refine r_iconst (3) C dX6_name_25 (by decide) ?_
  refine r_iload C dX6_name_26 rfl ?_
  obtain ⟨hi7, hw⟩ := hw
  refine r_iast C (kr6_0 (k0)) hi7 dX6_name_28 ?_
  refine r_toph (fun h8 eh8 => ?_)
  replace hw := hw h8 eh8
  refine r_aload_n C dX6_name_29 rfl ?_
  refine gX6_11 C (k0) dX6_name_30 ?_
  refine r_iconst (4) C dX6_name_33 (by decide) ?_
  refine r_iload C dX6_name_34 rfl ?_
  obtain ⟨hi9, hw⟩ := hw
  refine r_iast C (kr6_0 (k0)) hi9 dX6_name_36 ?_
  refine r_toph (fun h10 eh10 => ?_)
  replace hw := hw h10 eh10
  refine r_aload_n C dX6_name_37 rfl ?_
  refine gX6_11 C (k0) dX6_name_38 ?_
  refine r_iconst (5) C dX6_name_41 (by decide) ?_
  refine r_iload C dX6_name_42 rfl ?_
  obtain ⟨hi11, hw⟩ := hw
  refine r_iast C (kr6_0 (k0)) hi11 dX6_name_44 ?_
  refine r_toph (fun h12 eh12 => ?_)
  replace hw := hw h12 eh12
  exact r_vret C dX6_name_45 ⟨rfl, hw⟩
def wX5_joined (x0 : Int32) (x1 : Int32) (x2 : Int32) (h : Hp) (Q : Int32 → Prop) : Prop :=
  if x0 = (37 : Int32) then (if x2 = 0 then (Q (0 : Int32)) else (¬ x2 = 0 ∧ (Q (rm x1 x2)))) else (if x0 = (38 : Int32) then (if x1 = 0 then (Q (0 : Int32)) else (if x2 = 0 then (Q (0 : Int32)) else (Q (1 : Int32)))) else (if x0 = (42 : Int32) then (Q (x1 * x2)) else (if x0 = (43 : Int32) then (Q (x1 + x2)) else (if x0 = (45 : Int32) then (Q (x1 - x2)) else (if x0 = (47 : Int32) then (if x2 = 0 then (Q (0 : Int32)) else (¬ x2 = 0 ∧ (Q (x1 / x2)))) else (if x0 = (60 : Int32) then (if x2 ≤ x1 then (Q (0 : Int32)) else (Q (1 : Int32))) else (if x0 = (61 : Int32) then (if x1 = x2 then (Q (1 : Int32)) else (Q (0 : Int32))) else (if x0 = (62 : Int32) then (if x1 ≤ x2 then (Q (0 : Int32)) else (Q (1 : Int32))) else (if x0 = (124 : Int32) then (if x1 = 0 then (if x2 = 0 then (Q (0 : Int32)) else (Q (1 : Int32))) else (Q (1 : Int32))) else (Q (0 : Int32)))))))))))
set_option maxRecDepth 20000 in
theorem sX5_joined {G : GG} {x0 : Int32} {x1 : Int32} {x2 : Int32} {h : Hp} {Q : Int32 → Prop} (hw : wX5_joined x0 x1 x2 h Q) : PI G 0 yX5_joined cX5_joined 3 (some .int) [.int x0, .int x1, .int x2] h Q := by
  refine CO_of [some (.int x0), some (.int x1), some (.int x2)] (by decide) (Nat.le_of_ble_eq_true rfl) rfl (fun X C => ?_)
  unfold wX5_joined at hw
  refine r_iload_n C dX5_joined_0 rfl ?_
  by_cases hs1_37 : x0 = (37 : Int32)
  · replace hw := it_t hs1_37 hw
    refine r_look (off := 115) 116 C dX5_joined_1 (by decide) (by rw [hs1_37]; rfl) (by decide) ?_
    refine r_iload_n C dX5_joined_116 rfl ?_
    refine r_if_ne 124 C dX5_joined_117 (by decide) (fun hc => ?_) (fun hc => ?_)
    · replace hw := it_f hc hw
      refine r_iload_n C dX5_joined_124 rfl ?_
      refine r_iload_n C dX5_joined_125 rfl ?_
      obtain ⟨hz1, hw⟩ := hw
      refine r_irem C dX5_joined_126 hz1 ?_
      exact r_iret C dX5_joined_127 ⟨_, rfl, rfl, hw⟩
    · replace hw := it_t hc hw
      refine r_iconst (0) C dX5_joined_120 (by decide) ?_
      refine r_goto 127 C dX5_joined_121 (by decide) ?_
      exact r_iret C dX5_joined_127 ⟨_, rfl, rfl, hw⟩
  replace hw := it_f hs1_37 hw
  by_cases hs1_38 : x0 = (38 : Int32)
  · replace hw := it_t hs1_38 hw
    refine r_look (off := 160) 161 C dX5_joined_1 (by decide) (by rw [hs1_38]; rfl) (by decide) ?_
    refine r_iload_n C dX5_joined_161 rfl ?_
    refine r_if_eq 173 C dX5_joined_162 (by decide) (fun hc => ?_) (fun hc => ?_)
    · replace hw := it_t hc hw
      refine r_iconst (0) C dX5_joined_173 (by decide) ?_
      exact r_iret C dX5_joined_174 ⟨_, rfl, rfl, hw⟩
    · replace hw := it_f hc hw
      refine r_iload_n C dX5_joined_165 rfl ?_
      refine r_if_eq 173 C dX5_joined_166 (by decide) (fun hc => ?_) (fun hc => ?_)
      · replace hw := it_t hc hw
        refine r_iconst (0) C dX5_joined_173 (by decide) ?_
        exact r_iret C dX5_joined_174 ⟨_, rfl, rfl, hw⟩
      · replace hw := it_f hc hw
        refine r_iconst (1) C dX5_joined_169 (by decide) ?_
        refine r_goto 174 C dX5_joined_170 (by decide) ?_
        exact r_iret C dX5_joined_174 ⟨_, rfl, rfl, hw⟩
  replace hw := it_f hs1_38 hw
  by_cases hs1_42 : x0 = (42 : Int32)
  · replace hw := it_t hs1_42 hw
    refine r_look (off := 99) 100 C dX5_joined_1 (by decide) (by rw [hs1_42]; rfl) (by decide) ?_
    refine r_iload_n C dX5_joined_100 rfl ?_
    refine r_iload_n C dX5_joined_101 rfl ?_
    refine r_imul C dX5_joined_102 ?_
    exact r_iret C dX5_joined_103 ⟨_, rfl, rfl, hw⟩
  replace hw := it_f hs1_42 hw
  by_cases hs1_43 : x0 = (43 : Int32)
  · replace hw := it_t hs1_43 hw
    refine r_look (off := 91) 92 C dX5_joined_1 (by decide) (by rw [hs1_43]; rfl) (by decide) ?_
    refine r_iload_n C dX5_joined_92 rfl ?_
    refine r_iload_n C dX5_joined_93 rfl ?_
    refine r_iadd C dX5_joined_94 ?_
    exact r_iret C dX5_joined_95 ⟨_, rfl, rfl, hw⟩
  replace hw := it_f hs1_43 hw
  by_cases hs1_45 : x0 = (45 : Int32)
  · replace hw := it_t hs1_45 hw
    refine r_look (off := 95) 96 C dX5_joined_1 (by decide) (by rw [hs1_45]; rfl) (by decide) ?_
    refine r_iload_n C dX5_joined_96 rfl ?_
    refine r_iload_n C dX5_joined_97 rfl ?_
    refine r_isub C dX5_joined_98 ?_
    exact r_iret C dX5_joined_99 ⟨_, rfl, rfl, hw⟩
  replace hw := it_f hs1_45 hw
  by_cases hs1_47 : x0 = (47 : Int32)
  · replace hw := it_t hs1_47 hw
    refine r_look (off := 103) 104 C dX5_joined_1 (by decide) (by rw [hs1_47]; rfl) (by decide) ?_
    refine r_iload_n C dX5_joined_104 rfl ?_
    refine r_if_ne 112 C dX5_joined_105 (by decide) (fun hc => ?_) (fun hc => ?_)
    · replace hw := it_f hc hw
      refine r_iload_n C dX5_joined_112 rfl ?_
      refine r_iload_n C dX5_joined_113 rfl ?_
      obtain ⟨hz2, hw⟩ := hw
      refine r_idiv C dX5_joined_114 hz2 ?_
      exact r_iret C dX5_joined_115 ⟨_, rfl, rfl, hw⟩
    · replace hw := it_t hc hw
      refine r_iconst (0) C dX5_joined_108 (by decide) ?_
      refine r_goto 115 C dX5_joined_109 (by decide) ?_
      exact r_iret C dX5_joined_115 ⟨_, rfl, rfl, hw⟩
  replace hw := it_f hs1_47 hw
  by_cases hs1_60 : x0 = (60 : Int32)
  · replace hw := it_t hs1_60 hw
    refine r_look (off := 127) 128 C dX5_joined_1 (by decide) (by rw [hs1_60]; rfl) (by decide) ?_
    refine r_iload_n C dX5_joined_128 rfl ?_
    refine r_iload_n C dX5_joined_129 rfl ?_
    refine r_icmp_ge 137 C dX5_joined_130 (by decide) (fun hc => ?_) (fun hc => ?_)
    · replace hw := it_t hc hw
      refine r_iconst (0) C dX5_joined_137 (by decide) ?_
      exact r_iret C dX5_joined_138 ⟨_, rfl, rfl, hw⟩
    · replace hw := it_f hc hw
      refine r_iconst (1) C dX5_joined_133 (by decide) ?_
      refine r_goto 138 C dX5_joined_134 (by decide) ?_
      exact r_iret C dX5_joined_138 ⟨_, rfl, rfl, hw⟩
  replace hw := it_f hs1_60 hw
  by_cases hs1_61 : x0 = (61 : Int32)
  · replace hw := it_t hs1_61 hw
    refine r_look (off := 138) 139 C dX5_joined_1 (by decide) (by rw [hs1_61]; rfl) (by decide) ?_
    refine r_iload_n C dX5_joined_139 rfl ?_
    refine r_iload_n C dX5_joined_140 rfl ?_
    refine r_icmp_ne 148 C dX5_joined_141 (by decide) (fun hc => ?_) (fun hc => ?_)
    · replace hw := it_f hc hw
      refine r_iconst (0) C dX5_joined_148 (by decide) ?_
      exact r_iret C dX5_joined_149 ⟨_, rfl, rfl, hw⟩
    · replace hw := it_t hc hw
      refine r_iconst (1) C dX5_joined_144 (by decide) ?_
      refine r_goto 149 C dX5_joined_145 (by decide) ?_
      exact r_iret C dX5_joined_149 ⟨_, rfl, rfl, hw⟩
  replace hw := it_f hs1_61 hw
  by_cases hs1_62 : x0 = (62 : Int32)
  · replace hw := it_t hs1_62 hw
    refine r_look (off := 149) 150 C dX5_joined_1 (by decide) (by rw [hs1_62]; rfl) (by decide) ?_
    refine r_iload_n C dX5_joined_150 rfl ?_
    refine r_iload_n C dX5_joined_151 rfl ?_
    refine r_icmp_le 159 C dX5_joined_152 (by decide) (fun hc => ?_) (fun hc => ?_)
    · replace hw := it_t hc hw
      refine r_iconst (0) C dX5_joined_159 (by decide) ?_
      exact r_iret C dX5_joined_160 ⟨_, rfl, rfl, hw⟩
    · replace hw := it_f hc hw
      refine r_iconst (1) C dX5_joined_155 (by decide) ?_
      refine r_goto 160 C dX5_joined_156 (by decide) ?_
      exact r_iret C dX5_joined_160 ⟨_, rfl, rfl, hw⟩
  replace hw := it_f hs1_62 hw
  by_cases hs1_124 : x0 = (124 : Int32)
  · replace hw := it_t hs1_124 hw
    refine r_look (off := 174) 175 C dX5_joined_1 (by decide) (by rw [hs1_124]; rfl) (by decide) ?_
    refine r_iload_n C dX5_joined_175 rfl ?_
    refine r_if_ne 183 C dX5_joined_176 (by decide) (fun hc => ?_) (fun hc => ?_)
    · replace hw := it_f hc hw
      refine r_iconst (1) C dX5_joined_183 (by decide) ?_
      refine r_goto 188 C dX5_joined_184 (by decide) ?_
      exact r_iret C dX5_joined_188 ⟨_, rfl, rfl, hw⟩
    · replace hw := it_t hc hw
      refine r_iload_n C dX5_joined_179 rfl ?_
      refine r_if_eq 187 C dX5_joined_180 (by decide) (fun hc => ?_) (fun hc => ?_)
      · replace hw := it_t hc hw
        refine r_iconst (0) C dX5_joined_187 (by decide) ?_
        exact r_iret C dX5_joined_188 ⟨_, rfl, rfl, hw⟩
      · replace hw := it_f hc hw
        refine r_iconst (1) C dX5_joined_183 (by decide) ?_
        refine r_goto 188 C dX5_joined_184 (by decide) ?_
        exact r_iret C dX5_joined_188 ⟨_, rfl, rfl, hw⟩
  replace hw := it_f hs1_124 hw
  refine r_look (off := 188) 189 C dX5_joined_1 (by decide) (by show Op.lookupswitch.offset [(37, 115), (38, 160), (42, 99), (43, 91), (45, 95), (47, 103), (60, 127), (61, 138), (62, 149), (124, 174)] 188 _ = _; rw [lv_osw hs1_37 (by decide), lv_osw hs1_38 (by decide), lv_osw hs1_42 (by decide), lv_osw hs1_43 (by decide), lv_osw hs1_45 (by decide), lv_osw hs1_47 (by decide), lv_osw hs1_60 (by decide), lv_osw hs1_61 (by decide), lv_osw hs1_62 (by decide), lv_osw hs1_124 (by decide)]; rfl) (by decide) ?_
  refine r_iconst (0) C dX5_joined_189 (by decide) ?_
  exact r_iret C dX5_joined_190 ⟨_, rfl, rfl, hw⟩
