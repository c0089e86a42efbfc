def wX11_isWay (x0 : Int32) (h : Hp) (Q : Int32 → Prop) : Prop :=
  if x0 < 0 then (Q (0 : Int32)) else (if (2 : Int32) < x0 then (Q (0 : Int32)) else (Q (1 : Int32)))
set_option maxRecDepth 20000 in
theorem sX11_isWay {G : GG} {x0 : Int32} {h : Hp} {Q : Int32 → Prop} (hw : wX11_isWay x0 h Q) : PI G 0 yX11_isWay cX11_isWay 1 (some .boolean) [.int x0] h Q := by
  refine CO_of [some (.int x0)] (by decide) (Nat.le_of_ble_eq_true rfl) rfl (fun X C => ?_)
  unfold wX11_isWay at hw
  refine r_iload_n C dX11_isWay_0 rfl ?_
  refine r_if_lt 13 C dX11_isWay_1 (by decide) (fun hc => ?_) (fun hc => ?_)
  · replace hw := it_t hc hw
    refine r_iconst (0) C dX11_isWay_13 (by decide) ?_
    exact r_zret C dX11_isWay_14 rfl ⟨_, rfl, rfl, hw⟩
  · replace hw := it_f hc hw
    refine r_iload_n C dX11_isWay_4 rfl ?_
    refine r_iconst (2) C dX11_isWay_5 (by decide) ?_
    refine r_icmp_gt 13 C dX11_isWay_6 (by decide) (fun hc => ?_) (fun hc => ?_)
    · replace hw := it_t hc hw
      refine r_iconst (0) C dX11_isWay_13 (by decide) ?_
      exact r_zret C dX11_isWay_14 rfl ⟨_, rfl, rfl, hw⟩
    · replace hw := it_f hc hw
      refine r_iconst (1) C dX11_isWay_9 (by decide) ?_
      refine r_goto 14 C dX11_isWay_10 (by decide) ?_
      exact r_zret C dX11_isWay_14 rfl ⟨_, rfl, rfl, hw⟩
def wX11_day (a0 : Nat) (x1 : Int32) (x2 : Int32) (x3 : Int32) (h : Hp) (Q : Int32 → Hp → Prop) : Prop :=
  wX11_isWay x1 h (fun v1 => if v1 = 0 then (Q (-1 : Int32) h) else (wX8_has (rf a0 1) x2 h (fun v2 => if v2 = 0 then (Q (-1 : Int32) h) else (if x3 < 0 then (Q (-1 : Int32) h) else (if x3 ≤ (1 : Int32) then (wX2_goThrough (rf a0 8) x1 h (fun h4 => if x3 = 0 then (vp_in x2 (ln (rf (rf a0 8) 3)) ∧ (Q (gI h4 (rf (rf a0 8) 3) x2.toNatClampNeg) h4)) else (vp_in x2 (ln (rf (rf a0 8) 4)) ∧ (Q (gI h4 (rf (rf a0 8) 4) x2.toNatClampNeg) h4)))) else (Q (-1 : Int32) h))))))
set_option maxRecDepth 20000 in
theorem sX11_day {G : GG} {a0 : Nat} {x1 : Int32} {x2 : Int32} {x3 : Int32} {h : Hp} {Q : Int32 → Hp → Prop} (k0 : kd a0 = 11) (hw : wX11_day a0 x1 x2 x3 h Q) : CI G 6 yX11_day cX11_day 4 (some .int) [.ref (G.1 a0), .int x1, .int x2, .int x3] h Q := by
  refine CO_of [some (.ref (G.1 a0)), some (.int x1), some (.int x2), some (.int x3)] (by decide) (Nat.le_of_ble_eq_true rfl) rfl (fun X C => ?_)
  unfold wX11_day at hw
  refine r_iload_n C dX11_day_0 rfl ?_
  refine kX11_229 C (sX11_isWay hw) dX11_day_1 (Nat.le_of_ble_eq_true rfl) rfl (Nat.le_of_ble_eq_true rfl) (fun v1 hw => ?_)
  refine r_if_eq 27 C dX11_day_4 (by decide) (fun hc => ?_) (fun hc => ?_)
  · replace hw := it_t hc hw
    refine r_iconst (-1) C dX11_day_27 (by decide) ?_
    exact r_iret C dX11_day_28 ⟨_, rfl, hw⟩
  · replace hw := it_f hc hw
    refine r_aload_n C dX11_day_7 rfl ?_
    refine gX11_19 C (k0) dX11_day_8 ?_
    refine r_iload_n C dX11_day_11 rfl ?_
    refine kX11_137 C (kr11_1 (k0)) (sX8_has (kr11_1 (k0)) hw) dX11_day_12 (Nat.le_of_ble_eq_true rfl) rfl (Nat.le_of_ble_eq_true rfl) (fun v2 hw => ?_)
    refine r_if_eq 27 C dX11_day_15 (by decide) (fun hc => ?_) (fun hc => ?_)
    · replace hw := it_t hc hw
      refine r_iconst (-1) C dX11_day_27 (by decide) ?_
      exact r_iret C dX11_day_28 ⟨_, rfl, hw⟩
    · replace hw := it_f hc hw
      refine r_iload_n C dX11_day_18 rfl ?_
      refine r_if_lt 27 C dX11_day_19 (by decide) (fun hc => ?_) (fun hc => ?_)
      · replace hw := it_t hc hw
        refine r_iconst (-1) C dX11_day_27 (by decide) ?_
        exact r_iret C dX11_day_28 ⟨_, rfl, hw⟩
      · replace hw := it_f hc hw
        refine r_iload_n C dX11_day_22 rfl ?_
        refine r_iconst (1) C dX11_day_23 (by decide) ?_
        refine r_icmp_le 29 C dX11_day_24 (by decide) (fun hc => ?_) (fun hc => ?_)
        · replace hw := it_t hc hw
          refine r_aload_n C dX11_day_29 rfl ?_
          refine gX11_51 C (k0) dX11_day_30 ?_
          refine r_iload_n C dX11_day_33 rfl ?_
          refine kX11_232 C (kr11_8 (k0)) (sX2_goThrough (kr11_8 (k0)) hw) dX11_day_34 (Nat.le_of_ble_eq_true rfl) rfl (Nat.le_of_ble_eq_true rfl) (fun h4 hw => ?_)
          refine r_iload_n C dX11_day_37 rfl ?_
          refine r_if_ne 53 C dX11_day_38 (by decide) (fun hc => ?_) (fun hc => ?_)
          · replace hw := it_f hc hw
            refine r_aload_n C dX11_day_53 rfl ?_
            refine gX11_51 C (k0) dX11_day_54 ?_
            refine gX11_239 C (kr11_8 (k0)) dX11_day_57 ?_
            refine r_iload_n C dX11_day_60 rfl ?_
            obtain ⟨hi5, hw⟩ := hw
            refine r_iald C (kr2_4 (kr11_8 (k0))) hi5 dX11_day_61 ?_
            exact r_iret C dX11_day_62 ⟨_, rfl, hw⟩
          · replace hw := it_t hc hw
            refine r_aload_n C dX11_day_41 rfl ?_
            refine gX11_51 C (k0) dX11_day_42 ?_
            refine gX11_236 C (kr11_8 (k0)) dX11_day_45 ?_
            refine r_iload_n C dX11_day_48 rfl ?_
            obtain ⟨hi6, hw⟩ := hw
            refine r_iald C (kr2_3 (kr11_8 (k0))) hi6 dX11_day_49 ?_
            refine r_goto 62 C dX11_day_50 (by decide) ?_
            exact r_iret C dX11_day_62 ⟨_, rfl, hw⟩
        · replace hw := it_f hc hw
          refine r_iconst (-1) C dX11_day_27 (by decide) ?_
          exact r_iret C dX11_day_28 ⟨_, rfl, hw⟩
def wX11_sum (a0 : Nat) (x1 : Int32) (x2 : Int32) (h : Hp) (Q : Int32 → Hp → Prop) : Prop :=
  wX11_isWay x1 h (fun v1 => if v1 = 0 then (Q (-1 : Int32) h) else (if x2 < 0 then (Q (-1 : Int32) h) else (if x2 ≤ (2 : Int32) then (wX2_goThrough (rf a0 8) x1 h (fun h3 => if x2 = 0 then (Q (gI h3 (rf a0 8) 9) h3) else (if x2 = (1 : Int32) then (Q (gI h3 (rf a0 8) 10) h3) else (wJ6_bitCount_0f7a4 (gI h3 (rf a0 8) 8) h3 (fun v4 => Q v4 h3))))) else (Q (-1 : Int32) h))))
set_option maxRecDepth 20000 in
theorem sX11_sum {G : GG} {a0 : Nat} {x1 : Int32} {x2 : Int32} {h : Hp} {Q : Int32 → Hp → Prop} (k0 : kd a0 = 11) (hw : wX11_sum a0 x1 x2 h Q) : CI G 6 yX11_sum cX11_sum 3 (some .int) [.ref (G.1 a0), .int x1, .int x2] h Q := by
  refine CO_of [some (.ref (G.1 a0)), some (.int x1), some (.int x2)] (by decide) (Nat.le_of_ble_eq_true rfl) rfl (fun X C => ?_)
  unfold wX11_sum at hw
  refine r_iload_n C dX11_sum_0 rfl ?_
  refine kX11_229 C (sX11_isWay hw) dX11_sum_1 (Nat.le_of_ble_eq_true rfl) rfl (Nat.le_of_ble_eq_true rfl) (fun v1 hw => ?_)
  refine r_if_eq 16 C dX11_sum_4 (by decide) (fun hc => ?_) (fun hc => ?_)
  · replace hw := it_t hc hw
    refine r_iconst (-1) C dX11_sum_16 (by decide) ?_
    exact r_iret C dX11_sum_17 ⟨_, rfl, hw⟩
  · replace hw := it_f hc hw
    refine r_iload_n C dX11_sum_7 rfl ?_
    refine r_if_lt 16 C dX11_sum_8 (by decide) (fun hc => ?_) (fun hc => ?_)
    · replace hw := it_t hc hw
      refine r_iconst (-1) C dX11_sum_16 (by decide) ?_
      exact r_iret C dX11_sum_17 ⟨_, rfl, hw⟩
    · replace hw := it_f hc hw
      refine r_iload_n C dX11_sum_11 rfl ?_
      refine r_iconst (2) C dX11_sum_12 (by decide) ?_
      refine r_icmp_le 18 C dX11_sum_13 (by decide) (fun hc => ?_) (fun hc => ?_)
      · replace hw := it_t hc hw
        refine r_aload_n C dX11_sum_18 rfl ?_
        refine gX11_51 C (k0) dX11_sum_19 ?_
        refine r_iload_n C dX11_sum_22 rfl ?_
        refine kX11_232 C (kr11_8 (k0)) (sX2_goThrough (kr11_8 (k0)) hw) dX11_sum_23 (Nat.le_of_ble_eq_true rfl) rfl (Nat.le_of_ble_eq_true rfl) (fun h3 hw => ?_)
        refine r_iload_n C dX11_sum_26 rfl ?_
        refine r_if_ne 38 C dX11_sum_27 (by decide) (fun hc => ?_) (fun hc => ?_)
        · replace hw := it_f hc hw
          refine r_iload_n C dX11_sum_38 rfl ?_
          refine r_iconst (1) C dX11_sum_39 (by decide) ?_
          refine r_icmp_ne 53 C dX11_sum_40 (by decide) (fun hc => ?_) (fun hc => ?_)
          · replace hw := it_f hc hw
            refine r_aload_n C dX11_sum_53 rfl ?_
            refine gX11_51 C (k0) dX11_sum_54 ?_
            refine gX11_248 C (kr11_8 (k0)) dX11_sum_57 ?_
            refine kX11_200 C (sJ6_bitCount_0f7a4 hw) dX11_sum_60 (Nat.le_of_ble_eq_true rfl) rfl (Nat.le_of_ble_eq_true rfl) (fun v4 hw => ?_)
            exact r_iret C dX11_sum_63 ⟨_, rfl, hw⟩
          · replace hw := it_t hc hw
            refine r_aload_n C dX11_sum_43 rfl ?_
            refine gX11_51 C (k0) dX11_sum_44 ?_
            refine gX11_245 C (kr11_8 (k0)) dX11_sum_47 ?_
            refine r_goto 63 C dX11_sum_50 (by decide) ?_
            exact r_iret C dX11_sum_63 ⟨_, rfl, hw⟩
        · replace hw := it_t hc hw
          refine r_aload_n C dX11_sum_30 rfl ?_
          refine gX11_51 C (k0) dX11_sum_31 ?_
          refine gX11_242 C (kr11_8 (k0)) dX11_sum_34 ?_
          exact r_iret C dX11_sum_37 ⟨_, rfl, hw⟩
      · replace hw := it_f hc hw
        refine r_iconst (-1) C dX11_sum_16 (by decide) ?_
        exact r_iret C dX11_sum_17 ⟨_, rfl, hw⟩
def wX11_best (a0 : Nat) (h : Hp) (Q : Int32 → Hp → Prop) : Prop :=
  if (5 : Int32) < (gI h (rf a0 1) 3) then (Q (-5 : Int32) h) else (if (gI h (rf a0 0) 1) = 0 then (Q (-5 : Int32) h) else (wX7_cost (rf a0 9) h (fun v1 h2 => Q v1 h2)))
set_option maxRecDepth 20000 in
theorem sX11_best {G : GG} {a0 : Nat} {h : Hp} {Q : Int32 → Hp → Prop} (k0 : kd a0 = 11) (hw : wX11_best a0 h Q) : CI G 6 yX11_best cX11_best 1 (some .int) [.ref (G.1 a0)] h Q := by
  refine CO_of [some (.ref (G.1 a0))] (by decide) (Nat.le_of_ble_eq_true rfl) rfl (fun X C => ?_)
  unfold wX11_best at hw
  refine r_aload_n C dX11_best_0 rfl ?_
  refine gX11_19 C (k0) dX11_best_1 ?_
  refine gX11_197 C (kr11_1 (k0)) dX11_best_4 ?_
  refine r_iconst (5) C dX11_best_7 (by decide) ?_
  refine r_icmp_gt 21 C dX11_best_8 (by decide) (fun hc => ?_) (fun hc => ?_)
  · replace hw := it_t hc hw
    refine r_bipush (-5) C dX11_best_21 (by decide) ?_
    exact r_iret C dX11_best_23 ⟨_, rfl, hw⟩
  · replace hw := it_f hc hw
    refine r_aload_n C dX11_best_11 rfl ?_
    refine gX11_10 C (k0) dX11_best_12 ?_
    refine gX11_249 C (kr11_0 (k0)) dX11_best_15 ?_
    refine r_if_ne 24 C dX11_best_18 (by decide) (fun hc => ?_) (fun hc => ?_)
    · replace hw := it_f hc hw
      refine r_aload_n C dX11_best_24 rfl ?_
      refine gX11_58 C (k0) dX11_best_25 ?_
      refine kX11_250 C (kr11_9 (k0)) (sX7_cost (kr11_9 (k0)) hw) dX11_best_28 (Nat.le_of_ble_eq_true rfl) rfl (Nat.le_of_ble_eq_true rfl) (fun v1 h2 hw => ?_)
      exact r_iret C dX11_best_31 ⟨_, rfl, hw⟩
    · replace hw := it_t hc hw
      refine r_bipush (-5) C dX11_best_21 (by decide) ?_
      exact r_iret C dX11_best_23 ⟨_, rfl, hw⟩
def wX11_isWithinOf (x0 : Int32) (h : Hp) (Q : Int32 → Prop) : Prop :=
  if x0 < 0 then (Q (0 : Int32)) else (if (40 : Int32) < (rm x0 (100 : Int32)) then (Q (0 : Int32)) else (if (rm x0 (100 : Int32)) < (x0 / (100 : Int32)) then (Q (0 : Int32)) else (Q (1 : Int32))))
set_option maxRecDepth 20000 in
theorem sX11_isWithinOf {G : GG} {x0 : Int32} {h : Hp} {Q : Int32 → Prop} (hw : wX11_isWithinOf x0 h Q) : PI G 0 yX11_isWithinOf cX11_isWithinOf 1 (some .boolean) [.int x0] h Q := by
  refine CO_of [some (.int x0)] (by decide) (Nat.le_of_ble_eq_true rfl) rfl (fun X C => ?_)
  unfold wX11_isWithinOf at hw
  refine r_iload_n C dX11_isWithinOf_0 rfl ?_
  refine r_if_lt 28 C dX11_isWithinOf_1 (by decide) (fun hc => ?_) (fun hc => ?_)
  · replace hw := it_t hc hw
    refine r_iconst (0) C dX11_isWithinOf_28 (by decide) ?_
    exact r_zret C dX11_isWithinOf_29 rfl ⟨_, rfl, rfl, hw⟩
  · replace hw := it_f hc hw
    refine r_iload_n C dX11_isWithinOf_4 rfl ?_
    refine r_bipush (100) C dX11_isWithinOf_5 (by decide) ?_
    refine r_irem C dX11_isWithinOf_7 (by decide) ?_
    refine r_bipush (40) C dX11_isWithinOf_8 (by decide) ?_
    refine r_icmp_gt 28 C dX11_isWithinOf_10 (by decide) (fun hc => ?_) (fun hc => ?_)
    · replace hw := it_t hc hw
      refine r_iconst (0) C dX11_isWithinOf_28 (by decide) ?_
      exact r_zret C dX11_isWithinOf_29 rfl ⟨_, rfl, rfl, hw⟩
    · replace hw := it_f hc hw
      refine r_iload_n C dX11_isWithinOf_13 rfl ?_
      refine r_bipush (100) C dX11_isWithinOf_14 (by decide) ?_
      refine r_idiv C dX11_isWithinOf_16 (by decide) ?_
      refine r_iload_n C dX11_isWithinOf_17 rfl ?_
      refine r_bipush (100) C dX11_isWithinOf_18 (by decide) ?_
      refine r_irem C dX11_isWithinOf_20 (by decide) ?_
      refine r_icmp_gt 28 C dX11_isWithinOf_21 (by decide) (fun hc => ?_) (fun hc => ?_)
      · replace hw := it_t hc hw
        refine r_iconst (0) C dX11_isWithinOf_28 (by decide) ?_
        exact r_zret C dX11_isWithinOf_29 rfl ⟨_, rfl, rfl, hw⟩
      · replace hw := it_f hc hw
        refine r_iconst (1) C dX11_isWithinOf_24 (by decide) ?_
        refine r_goto 29 C dX11_isWithinOf_25 (by decide) ?_
        exact r_zret C dX11_isWithinOf_29 rfl ⟨_, rfl, rfl, hw⟩
def wX11_reach (a0 : Nat) (x1 : Int32) (h : Hp) (Q : Int64 → Prop) : Prop :=
  wX11_isWithinOf x1 h (fun v1 => if v1 = 0 then (Q (-1 : Int64)) else (wX4_everFrom (rf a0 0) (shlL (1 : Int64) (x1 / (100 : Int32))) (rm x1 (100 : Int32)) h (fun v2 => Q v2)))
set_option maxRecDepth 20000 in
theorem sX11_reach {G : GG} {a0 : Nat} {x1 : Int32} {h : Hp} {Q : Int64 → Prop} (k0 : kd a0 = 11) (hw : wX11_reach a0 x1 h Q) : PJ G 3 yX11_reach cX11_reach 2 (some .long) [.ref (G.1 a0), .int x1] h Q := by
  refine CO_of [some (.ref (G.1 a0)), some (.int x1)] (by decide) (Nat.le_of_ble_eq_true rfl) rfl (fun X C => ?_)
  unfold wX11_reach at hw
  refine r_iload_n C dX11_reach_0 rfl ?_
  refine kX11_252 C (sX11_isWithinOf hw) dX11_reach_1 (Nat.le_of_ble_eq_true rfl) rfl (Nat.le_of_ble_eq_true rfl) (fun v1 hw => ?_)
  refine r_if_eq 27 C dX11_reach_4 (by decide) (fun hc => ?_) (fun hc => ?_)
  · replace hw := it_t hc hw
    refine r_ldc2_w (-1) C wd822 dX11_reach_27 ?_
    exact r_lret C dX11_reach_30 ⟨_, rfl, rfl, hw⟩
  · replace hw := it_f hc hw
    refine r_aload_n C dX11_reach_7 rfl ?_
    refine gX11_10 C (k0) dX11_reach_8 ?_
    refine r_lconst (1) C dX11_reach_11 (by decide) ?_
    refine r_iload_n C dX11_reach_12 rfl ?_
    refine r_bipush (100) C dX11_reach_13 (by decide) ?_
    refine r_idiv C dX11_reach_15 (by decide) ?_
    refine r_lshl C dX11_reach_16 ?_
    refine r_iload_n C dX11_reach_17 rfl ?_
    refine r_bipush (100) C dX11_reach_18 (by decide) ?_
    refine r_irem C dX11_reach_20 (by decide) ?_
    refine kX11_255 C (kr11_0 (k0)) (sX4_everFrom (kr11_0 (k0)) hw) dX11_reach_21 (Nat.le_of_ble_eq_true rfl) rfl (Nat.le_of_ble_eq_true rfl) (fun v2 hw => ?_)
    refine r_goto 30 C dX11_reach_24 (by decide) ?_
    exact r_lret C dX11_reach_30 ⟨_, rfl, rfl, hw⟩
def wX11_steps (a0 : Nat) (x1 : Int32) (x2 : Int32) (h : Hp) (Q : Int32 → Prop) : Prop :=
  wX11_isWithinOf x1 h (fun v1 => if v1 = 0 then (Q (-1 : Int32)) else (if x2 < 0 then (Q (-1 : Int32)) else (if x2 ≤ (rm x1 (100 : Int32)) then (wX4_fewestPassings (rf a0 0) (x1 / (100 : Int32)) (rm x1 (100 : Int32)) x2 h (fun v2 => Q v2)) else (Q (-1 : Int32)))))
set_option maxRecDepth 20000 in
theorem sX11_steps {G : GG} {a0 : Nat} {x1 : Int32} {x2 : Int32} {h : Hp} {Q : Int32 → Prop} (k0 : kd a0 = 11) (hw : wX11_steps a0 x1 x2 h Q) : PI G 3 yX11_steps cX11_steps 3 (some .int) [.ref (G.1 a0), .int x1, .int x2] h Q := by
  refine CO_of [some (.ref (G.1 a0)), some (.int x1), some (.int x2)] (by decide) (Nat.le_of_ble_eq_true rfl) rfl (fun X C => ?_)
  unfold wX11_steps at hw
  refine r_iload_n C dX11_steps_0 rfl ?_
  refine kX11_252 C (sX11_isWithinOf hw) dX11_steps_1 (Nat.le_of_ble_eq_true rfl) rfl (Nat.le_of_ble_eq_true rfl) (fun v1 hw => ?_)
  refine r_if_eq 19 C dX11_steps_4 (by decide) (fun hc => ?_) (fun hc => ?_)
  · replace hw := it_t hc hw
    refine r_iconst (-1) C dX11_steps_19 (by decide) ?_
    exact r_iret C dX11_steps_20 ⟨_, rfl, rfl, hw⟩
  · replace hw := it_f hc hw
    refine r_iload_n C dX11_steps_7 rfl ?_
    refine r_if_lt 19 C dX11_steps_8 (by decide) (fun hc => ?_) (fun hc => ?_)
    · replace hw := it_t hc hw
      refine r_iconst (-1) C dX11_steps_19 (by decide) ?_
      exact r_iret C dX11_steps_20 ⟨_, rfl, rfl, hw⟩
    · replace hw := it_f hc hw
      refine r_iload_n C dX11_steps_11 rfl ?_
      refine r_iload_n C dX11_steps_12 rfl ?_
      refine r_bipush (100) C dX11_steps_13 (by decide) ?_
      refine r_irem C dX11_steps_15 (by decide) ?_
      refine r_icmp_le 21 C dX11_steps_16 (by decide) (fun hc => ?_) (fun hc => ?_)
      · replace hw := it_t hc hw
        refine r_aload_n C dX11_steps_21 rfl ?_
        refine gX11_10 C (k0) dX11_steps_22 ?_
        refine r_iload_n C dX11_steps_25 rfl ?_
        refine r_bipush (100) C dX11_steps_26 (by decide) ?_
        refine r_idiv C dX11_steps_28 (by decide) ?_
        refine r_iload_n C dX11_steps_29 rfl ?_
        refine r_bipush (100) C dX11_steps_30 (by decide) ?_
        refine r_irem C dX11_steps_32 (by decide) ?_
        refine r_iload_n C dX11_steps_33 rfl ?_
        refine kX11_261 C (kr11_0 (k0)) (sX4_fewestPassings (kr11_0 (k0)) hw) dX11_steps_34 (Nat.le_of_ble_eq_true rfl) rfl (Nat.le_of_ble_eq_true rfl) (fun v2 hw => ?_)
        exact r_iret C dX11_steps_37 ⟨_, rfl, rfl, hw⟩
      · replace hw := it_f hc hw
        refine r_iconst (-1) C dX11_steps_19 (by decide) ?_
        exact r_iret C dX11_steps_20 ⟨_, rfl, rfl, hw⟩
def wX11_boat (a0 : Nat) (x1 : Int32) (x2 : Int32) (h : Hp) (Q : Int32 → Prop) : Prop :=
  wX11_isWithinOf x1 h (fun v1 => if v1 = 0 then (Q (-1 : Int32)) else (if x2 < (100 : Int32) then (Q (-1 : Int32)) else (if (9 : Int32) < (x2 / (100 : Int32)) then (Q (-1 : Int32)) else (if (rm x2 (100 : Int32)) ≤ (rm x1 (100 : Int32)) then (wX4_fewestTrips (rf a0 0) (x1 / (100 : Int32)) (rm x1 (100 : Int32)) (x2 / (100 : Int32)) (rm x2 (100 : Int32)) h (fun v2 => Q v2)) else (Q (-1 : Int32))))))
set_option maxRecDepth 20000 in
theorem sX11_boat {G : GG} {a0 : Nat} {x1 : Int32} {x2 : Int32} {h : Hp} {Q : Int32 → Prop} (k0 : kd a0 = 11) (hw : wX11_boat a0 x1 x2 h Q) : PI G 4 yX11_boat cX11_boat 3 (some .int) [.ref (G.1 a0), .int x1, .int x2] h Q := by
  refine CO_of [some (.ref (G.1 a0)), some (.int x1), some (.int x2)] (by decide) (Nat.le_of_ble_eq_true rfl) rfl (fun X C => ?_)
  unfold wX11_boat at hw
  refine r_iload_n C dX11_boat_0 rfl ?_
  refine kX11_252 C (sX11_isWithinOf hw) dX11_boat_1 (Nat.le_of_ble_eq_true rfl) rfl (Nat.le_of_ble_eq_true rfl) (fun v1 hw => ?_)
  refine r_if_eq 33 C dX11_boat_4 (by decide) (fun hc => ?_) (fun hc => ?_)
  · replace hw := it_t hc hw
    refine r_iconst (-1) C dX11_boat_33 (by decide) ?_
    exact r_iret C dX11_boat_34 ⟨_, rfl, rfl, hw⟩
  · replace hw := it_f hc hw
    refine r_iload_n C dX11_boat_7 rfl ?_
    refine r_bipush (100) C dX11_boat_8 (by decide) ?_
    refine r_icmp_lt 33 C dX11_boat_10 (by decide) (fun hc => ?_) (fun hc => ?_)
    · replace hw := it_t hc hw
      refine r_iconst (-1) C dX11_boat_33 (by decide) ?_
      exact r_iret C dX11_boat_34 ⟨_, rfl, rfl, hw⟩
    · replace hw := it_f hc hw
      refine r_iload_n C dX11_boat_13 rfl ?_
      refine r_bipush (100) C dX11_boat_14 (by decide) ?_
      refine r_idiv C dX11_boat_16 (by decide) ?_
      refine r_bipush (9) C dX11_boat_17 (by decide) ?_
      refine r_icmp_gt 33 C dX11_boat_19 (by decide) (fun hc => ?_) (fun hc => ?_)
      · replace hw := it_t hc hw
        refine r_iconst (-1) C dX11_boat_33 (by decide) ?_
        exact r_iret C dX11_boat_34 ⟨_, rfl, rfl, hw⟩
      · replace hw := it_f hc hw
        refine r_iload_n C dX11_boat_22 rfl ?_
        refine r_bipush (100) C dX11_boat_23 (by decide) ?_
        refine r_irem C dX11_boat_25 (by decide) ?_
        refine r_iload_n C dX11_boat_26 rfl ?_
        refine r_bipush (100) C dX11_boat_27 (by decide) ?_
        refine r_irem C dX11_boat_29 (by decide) ?_
        refine r_icmp_le 35 C dX11_boat_30 (by decide) (fun hc => ?_) (fun hc => ?_)
        · replace hw := it_t hc hw
          refine r_aload_n C dX11_boat_35 rfl ?_
          refine gX11_10 C (k0) dX11_boat_36 ?_
          refine r_iload_n C dX11_boat_39 rfl ?_
          refine r_bipush (100) C dX11_boat_40 (by decide) ?_
          refine r_idiv C dX11_boat_42 (by decide) ?_
          refine r_iload_n C dX11_boat_43 rfl ?_
          refine r_bipush (100) C dX11_boat_44 (by decide) ?_
          refine r_irem C dX11_boat_46 (by decide) ?_
          refine r_iload_n C dX11_boat_47 rfl ?_
          refine r_bipush (100) C dX11_boat_48 (by decide) ?_
          refine r_idiv C dX11_boat_50 (by decide) ?_
          refine r_iload_n C dX11_boat_51 rfl ?_
          refine r_bipush (100) C dX11_boat_52 (by decide) ?_
          refine r_irem C dX11_boat_54 (by decide) ?_
          refine kX11_264 C (kr11_0 (k0)) (sX4_fewestTrips (kr11_0 (k0)) hw) dX11_boat_55 (Nat.le_of_ble_eq_true rfl) rfl (Nat.le_of_ble_eq_true rfl) (fun v2 hw => ?_)
          exact r_iret C dX11_boat_58 ⟨_, rfl, rfl, hw⟩
        · replace hw := it_f hc hw
          refine r_iconst (-1) C dX11_boat_33 (by decide) ?_
          exact r_iret C dX11_boat_34 ⟨_, rfl, rfl, hw⟩
def wX11_escort (a0 : Nat) (x1 : Int32) (x2 : Int32) (h : Hp) (Q : Int32 → Prop) : Prop :=
  if x1 < 0 then (Q (-1 : Int32)) else (wX4_has (rf a0 0) (x1 / (10 : Int32)) h (fun v1 => if v1 = 0 then (Q (-1 : Int32)) else (if x2 < 0 then (Q (-1 : Int32)) else (if x2 ≤ (1 : Int32) then (wX4_numberOf (rf a0 0) (x1 / (10 : Int32)) h (fun v2 => ¬ v2 = 0 ∧ (if (rm (rm x1 (10 : Int32)) v2) = 0 then (if x2 = 0 then (Q (0 : Int32)) else (¬ v2 = 0 ∧ (Q ((rm x1 (10 : Int32)) / v2)))) else (Q (-2 : Int32))))) else (Q (-1 : Int32))))))
set_option maxRecDepth 20000 in
theorem sX11_escort {G : GG} {a0 : Nat} {x1 : Int32} {x2 : Int32} {h : Hp} {Q : Int32 → Prop} (k0 : kd a0 = 11) (hw : wX11_escort a0 x1 x2 h Q) : PI G 2 yX11_escort cX11_escort 4 (some .int) [.ref (G.1 a0), .int x1, .int x2] h Q := by
  refine CO_of [some (.ref (G.1 a0)), some (.int x1), some (.int x2), none] (by decide) (Nat.le_of_ble_eq_true rfl) rfl (fun X C => ?_)
  unfold wX11_escort at hw
  refine r_iload_n C dX11_escort_0 rfl ?_
  refine r_if_lt 27 C dX11_escort_1 (by decide) (fun hc => ?_) (fun hc => ?_)
  · replace hw := it_t hc hw
    refine r_iconst (-1) C dX11_escort_27 (by decide) ?_
    exact r_iret C dX11_escort_28 ⟨_, rfl, rfl, hw⟩
  · replace hw := it_f hc hw
    refine r_aload_n C dX11_escort_4 rfl ?_
    refine gX11_10 C (k0) dX11_escort_5 ?_
    refine r_iload_n C dX11_escort_8 rfl ?_
    refine r_bipush (10) C dX11_escort_9 (by decide) ?_
    refine r_idiv C dX11_escort_11 (by decide) ?_
    refine kX11_143 C (kr11_0 (k0)) (sX4_has (kr11_0 (k0)) hw) dX11_escort_12 (Nat.le_of_ble_eq_true rfl) rfl (Nat.le_of_ble_eq_true rfl) (fun v1 hw => ?_)
    refine r_if_eq 27 C dX11_escort_15 (by decide) (fun hc => ?_) (fun hc => ?_)
    · replace hw := it_t hc hw
      refine r_iconst (-1) C dX11_escort_27 (by decide) ?_
      exact r_iret C dX11_escort_28 ⟨_, rfl, rfl, hw⟩
    · replace hw := it_f hc hw
      refine r_iload_n C dX11_escort_18 rfl ?_
      refine r_if_lt 27 C dX11_escort_19 (by decide) (fun hc => ?_) (fun hc => ?_)
      · replace hw := it_t hc hw
        refine r_iconst (-1) C dX11_escort_27 (by decide) ?_
        exact r_iret C dX11_escort_28 ⟨_, rfl, rfl, hw⟩
      · replace hw := it_f hc hw
        refine r_iload_n C dX11_escort_22 rfl ?_
        refine r_iconst (1) C dX11_escort_23 (by decide) ?_
        refine r_icmp_le 29 C dX11_escort_24 (by decide) (fun hc => ?_) (fun hc => ?_)
        · replace hw := it_t hc hw
          refine r_aload_n C dX11_escort_29 rfl ?_
          refine gX11_10 C (k0) dX11_escort_30 ?_
          refine r_iload_n C dX11_escort_33 rfl ?_
          refine r_bipush (10) C dX11_escort_34 (by decide) ?_
          refine r_idiv C dX11_escort_36 (by decide) ?_
          refine kX11_205 C (kr11_0 (k0)) (sX4_numberOf (kr11_0 (k0)) hw) dX11_escort_37 (Nat.le_of_ble_eq_true rfl) rfl (Nat.le_of_ble_eq_true rfl) (fun v2 hw => ?_)
          refine r_istore_n [some (.ref (G.1 a0)), some (.int x1), some (.int x2), some (.int v2)] C dX11_escort_40 (Nat.le_of_ble_eq_true rfl) rfl rfl ?_
          refine r_iload_n C dX11_escort_41 rfl ?_
          refine r_bipush (10) C dX11_escort_42 (by decide) ?_
          refine r_irem C dX11_escort_44 (by decide) ?_
          refine r_iload_n C dX11_escort_45 rfl ?_
          obtain ⟨hz3, hw⟩ := hw
          refine r_irem C dX11_escort_46 hz3 ?_
          refine r_if_eq 53 C dX11_escort_47 (by decide) (fun hc => ?_) (fun hc => ?_)
          · replace hw := it_t hc hw
            refine r_iload_n C dX11_escort_53 rfl ?_
            refine r_if_ne 61 C dX11_escort_54 (by decide) (fun hc => ?_) (fun hc => ?_)
            · replace hw := it_f hc hw
              refine r_iload_n C dX11_escort_61 rfl ?_
              refine r_bipush (10) C dX11_escort_62 (by decide) ?_
              refine r_irem C dX11_escort_64 (by decide) ?_
              refine r_iload_n C dX11_escort_65 rfl ?_
              obtain ⟨hz4, hw⟩ := hw
              refine r_idiv C dX11_escort_66 hz4 ?_
              exact r_iret C dX11_escort_67 ⟨_, rfl, rfl, hw⟩
            · replace hw := it_t hc hw
              refine r_iconst (0) C dX11_escort_57 (by decide) ?_
              refine r_goto 67 C dX11_escort_58 (by decide) ?_
              exact r_iret C dX11_escort_67 ⟨_, rfl, rfl, hw⟩
          · replace hw := it_f hc hw
            refine r_bipush (-2) C dX11_escort_50 (by decide) ?_
            exact r_iret C dX11_escort_52 ⟨_, rfl, rfl, hw⟩
        · replace hw := it_f hc hw
          refine r_iconst (-1) C dX11_escort_27 (by decide) ?_
          exact r_iret C dX11_escort_28 ⟨_, rfl, rfl, hw⟩
def wX11_soon (a0 : Nat) (x1 : Int32) (h : Hp) (Q : Int32 → Prop) : Prop :=
  if x1 < 0 then (Q (-1 : Int32)) else (if x1 ≤ (60 : Int32) then (wX4_soonest (rf a0 0) x1 h (fun v1 => Q v1)) else (Q (-1 : Int32)))
set_option maxRecDepth 20000 in
theorem sX11_soon {G : GG} {a0 : Nat} {x1 : Int32} {h : Hp} {Q : Int32 → Prop} (k0 : kd a0 = 11) (hw : wX11_soon a0 x1 h Q) : PI G 2 yX11_soon cX11_soon 2 (some .int) [.ref (G.1 a0), .int x1] h Q := by
  refine CO_of [some (.ref (G.1 a0)), some (.int x1)] (by decide) (Nat.le_of_ble_eq_true rfl) rfl (fun X C => ?_)
  unfold wX11_soon at hw
  refine r_iload_n C dX11_soon_0 rfl ?_
  refine r_if_lt 10 C dX11_soon_1 (by decide) (fun hc => ?_) (fun hc => ?_)
  · replace hw := it_t hc hw
    refine r_iconst (-1) C dX11_soon_10 (by decide) ?_
    exact r_iret C dX11_soon_11 ⟨_, rfl, rfl, hw⟩
  · replace hw := it_f hc hw
    refine r_iload_n C dX11_soon_4 rfl ?_
    refine r_bipush (60) C dX11_soon_5 (by decide) ?_
    refine r_icmp_le 12 C dX11_soon_7 (by decide) (fun hc => ?_) (fun hc => ?_)
    · replace hw := it_t hc hw
      refine r_aload_n C dX11_soon_12 rfl ?_
      refine gX11_10 C (k0) dX11_soon_13 ?_
      refine r_iload_n C dX11_soon_16 rfl ?_
      refine kX11_268 C (kr11_0 (k0)) (sX4_soonest (kr11_0 (k0)) hw) dX11_soon_17 (Nat.le_of_ble_eq_true rfl) rfl (Nat.le_of_ble_eq_true rfl) (fun v1 hw => ?_)
      exact r_iret C dX11_soon_20 ⟨_, rfl, rfl, hw⟩
    · replace hw := it_f hc hw
      refine r_iconst (-1) C dX11_soon_10 (by decide) ?_
      exact r_iret C dX11_soon_11 ⟨_, rfl, rfl, hw⟩
def jX11_oneMoreLook_70 (a0 : Nat) (x1 : Int32) (x2 : Int32) (x3 : Int32) (x4 : Int32) (x5 : Int32) (h : Hp) (K5 : Int32 → Hp → Prop) (Q : Hp → Prop) : Prop :=
  vp_in x4 (ln (rf a0 11)) ∧ (vp_in x4 (ln (rf a0 11)) ∧ (∀ h3 : Hp, h3 = sL h (rf a0 11) x4.toNatClampNeg ((gL h (rf a0 11) x4.toNatClampNeg) * ((12 : Int32) - x5).toInt64) → (∀ v4 : Int32, v4 = x4 + (-1 : Int32) → (K5 v4 h3))))
set_option maxRecDepth 20000 in
theorem tX11_oneMoreLook_70 {G : GG} {X : XX} {a0 : Nat} {x1 : Int32} {x2 : Int32} {x3 : Int32} {x4 : Int32} {x5 : Int32} {h : Hp}  {K5 : Int32 → Hp → Prop} {Q : Hp → Prop} (C : Cx G RX11 cX11_oneMoreLook 6 none 3 0 0 X) (k0 : kd a0 = 11) (hK5 : ∀ (y4 : Int32) (h' : Hp), K5 y4 h' → R0 G X 0 0 (ZM G (fun r h' => r = none ∧ Q h') X) 5 [some (.ref (G.1 a0)), some (.int x1), some (.int x2), some (.int x3), some (.int y4), none] [] h') (hw : jX11_oneMoreLook_70 a0 x1 x2 x3 x4 x5 h K5 Q) : R0 G X 0 0 (ZM G (fun r h' => r = none ∧ Q h') X) 70 [some (.ref (G.1 a0)), some (.int x1), some (.int x2), some (.int x3), some (.int x4), some (.int x5)] [] h := by
  unfold jX11_oneMoreLook_70 at hw
  refine r_aload_n C dX11_oneMoreLook_70 rfl ?_
  refine gX11_69 C (k0) dX11_oneMoreLook_71 ?_
  refine r_iload C dX11_oneMoreLook_74 rfl ?_
  refine r_dup2_11 C dX11_oneMoreLook_76 rfl rfl ?_
  obtain ⟨hi1, hw⟩ := hw
  refine r_lald C (kr11_11 (k0)) hi1 dX11_oneMoreLook_77 ?_
  refine r_bipush (12) C dX11_oneMoreLook_78 (by decide) ?_
  refine r_iload C dX11_oneMoreLook_80 rfl ?_
  refine r_isub C dX11_oneMoreLook_82 ?_
  refine r_i2l C dX11_oneMoreLook_83 ?_
  refine r_lmul C dX11_oneMoreLook_84 ?_
  obtain ⟨hi2, hw⟩ := hw
  refine r_last C (kr11_11 (k0)) hi2 dX11_oneMoreLook_85 ?_
  refine r_toph (fun h3 eh3 => ?_)
  replace hw := hw h3 eh3
  obtain ⟨v4, ev4⟩ : ∃ v : Int32, v = x4 + (-1 : Int32) := ⟨_, rfl⟩
  replace hw := hw v4 ev4
  refine r_iinc v4 [some (.ref (G.1 a0)), some (.int x1), some (.int x2), some (.int x3), some (.int v4), some (.int x5)] C dX11_oneMoreLook_86 rfl (by rw [ev4]; rfl) rfl rfl ?_
  refine r_goto 5 C dX11_oneMoreLook_89 (by decide) ?_
  refine r_weak [some (.ref (G.1 a0)), some (.int x1), some (.int x2), some (.int x3), some (.int v4), none] (lw_k (lw_k (lw_k (lw_k (lw_k (lw_d (lw_n))))))) ?_
  exact hK5 _ _ hw
def jX11_oneMoreLook_37 (a0 : Nat) (x1 : Int32) (x2 : Int32) (x3 : Int32) (x4 : Int32) (s0 : Int32) (h : Hp) (K5 : Int32 → Hp → Prop) (Q : Hp → Prop) : Prop :=
  if x3 ≤ (x4 + (1 : Int32)) then (jX11_oneMoreLook_70 a0 x1 x2 x3 x4 s0 h K5 Q) else (vp_in (x4 + (1 : Int32)) (ln (rf a0 11)) ∧ (vp_in x4 (ln (rf a0 11)) ∧ (vp_in (x4 + (1 : Int32)) (ln (rf a0 11)) ∧ (∀ h4 : Hp, h4 = sL h (rf a0 11) (x4 + (1 : Int32)).toNatClampNeg ((gL h (rf a0 11) (x4 + (1 : Int32)).toNatClampNeg) + ((gL h (rf a0 11) x4.toNatClampNeg) * s0.toInt64)) → (jX11_oneMoreLook_70 a0 x1 x2 x3 x4 s0 h4 K5 Q)))))
set_option maxRecDepth 20000 in
theorem tX11_oneMoreLook_37 {G : GG} {X : XX} {a0 : Nat} {x1 : Int32} {x2 : Int32} {x3 : Int32} {x4 : Int32} {s0 : Int32} {h : Hp}  {K5 : Int32 → Hp → Prop} {Q : Hp → Prop} (C : Cx G RX11 cX11_oneMoreLook 6 none 3 0 0 X) (k0 : kd a0 = 11) (hK5 : ∀ (y4 : Int32) (h' : Hp), K5 y4 h' → R0 G X 0 0 (ZM G (fun r h' => r = none ∧ Q h') X) 5 [some (.ref (G.1 a0)), some (.int x1), some (.int x2), some (.int x3), some (.int y4), none] [] h') (hw : jX11_oneMoreLook_37 a0 x1 x2 x3 x4 s0 h K5 Q) : R0 G X 0 0 (ZM G (fun r h' => r = none ∧ Q h') X) 37 [some (.ref (G.1 a0)), some (.int x1), some (.int x2), some (.int x3), some (.int x4), none] [.int s0] h := by
  unfold jX11_oneMoreLook_37 at hw
  refine r_istore [some (.ref (G.1 a0)), some (.int x1), some (.int x2), some (.int x3), some (.int x4), some (.int s0)] C dX11_oneMoreLook_37 (Nat.le_of_ble_eq_true rfl) rfl rfl ?_
  refine r_iload C dX11_oneMoreLook_39 rfl ?_
  refine r_iconst (1) C dX11_oneMoreLook_41 (by decide) ?_
  refine r_iadd C dX11_oneMoreLook_42 ?_
  refine r_iload_n C dX11_oneMoreLook_43 rfl ?_
  refine r_icmp_ge 70 C dX11_oneMoreLook_44 (by decide) (fun hc => ?_) (fun hc => ?_)
  · replace hw := it_t hc hw
    exact tX11_oneMoreLook_70 C (k0) hK5 hw
  · replace hw := it_f hc hw
    refine r_aload_n C dX11_oneMoreLook_47 rfl ?_
    refine gX11_69 C (k0) dX11_oneMoreLook_48 ?_
    refine r_iload C dX11_oneMoreLook_51 rfl ?_
    refine r_iconst (1) C dX11_oneMoreLook_53 (by decide) ?_
    refine r_iadd C dX11_oneMoreLook_54 ?_
    refine r_dup2_11 C dX11_oneMoreLook_55 rfl rfl ?_
    obtain ⟨hi1, hw⟩ := hw
    refine r_lald C (kr11_11 (k0)) hi1 dX11_oneMoreLook_56 ?_
    refine r_aload_n C dX11_oneMoreLook_57 rfl ?_
    refine gX11_69 C (k0) dX11_oneMoreLook_58 ?_
    refine r_iload C dX11_oneMoreLook_61 rfl ?_
    obtain ⟨hi2, hw⟩ := hw
    refine r_lald C (kr11_11 (k0)) hi2 dX11_oneMoreLook_63 ?_
    refine r_iload C dX11_oneMoreLook_64 rfl ?_
    refine r_i2l C dX11_oneMoreLook_66 ?_
    refine r_lmul C dX11_oneMoreLook_67 ?_
    refine r_ladd C dX11_oneMoreLook_68 ?_
    obtain ⟨hi3, hw⟩ := hw
    refine r_last C (kr11_11 (k0)) hi3 dX11_oneMoreLook_69 ?_
    refine r_toph (fun h4 eh4 => ?_)
    replace hw := hw h4 eh4
    exact tX11_oneMoreLook_70 C (k0) hK5 hw
def fX11_oneMoreLook_5 (a0 : Nat) (x1 : Int32) (x2 : Int32) (x3 : Int32) (Q : Hp → Prop) (K5 : Int32 → Hp → Prop) (x4 : Int32) (h : Hp) : Prop :=
  if x4 < 0 then (Q h) else (vp_in x4 (ln (rf a0 11)) ∧ (if (lg_cmp (gL h (rf a0 11) x4.toNatClampNeg) (0 : Int64)) = 0 then (jX11_oneMoreLook_37 a0 x1 x2 x3 x4 (0 : Int32) h K5 Q) else (wX6_chance (rf a0 4) x1 x4 x2 h (fun v2 h3 => jX11_oneMoreLook_37 a0 x1 x2 x3 x4 v2 h3 K5 Q))))
def eX11_oneMoreLook_5 (a0 : Nat) (x1 : Int32) (x2 : Int32) (x3 : Int32) (Q : Hp → Prop) (x4 : Int32) (h : Hp) : Prop := ∃ N, lpN (fun (K : Int32 × Hp → Prop) (s : Int32 × Hp) => fX11_oneMoreLook_5 a0 x1 x2 x3 Q (fun x4 h => K (x4, h)) s.1 s.2) N (x4, h)
theorem iX11_oneMoreLook_5 {a0 : Nat} {x1 : Int32} {x2 : Int32} {x3 : Int32} {Q : Hp → Prop} (I : Int32 → Hp → Prop) (μ : Int32 → Hp → Nat) (hs : ∀ (x4 : Int32) (h : Hp), I x4 h → ∀ K : Int32 → Hp → Prop, (∀ (x4' : Int32) (h' : Hp), I x4' h' → μ x4' h' < μ x4 h → K x4' h') → fX11_oneMoreLook_5 a0 x1 x2 x3 Q K x4 h) : ∀ (x4 : Int32) (h : Hp), I x4 h → eX11_oneMoreLook_5 a0 x1 x2 x3 Q x4 h := fun x4 h hI => lp_ind (fun s => I s.1 s.2) (fun s => μ s.1 s.2) (fun s hs' K hK => hs s.1 s.2 hs' _ (fun x4' h' h1 h2 => hK (x4', h') h1 h2)) (x4, h) hI
set_option maxRecDepth 20000 in
theorem tX11_oneMoreLook_5 {G : GG} {X : XX} {a0 : Nat} {x1 : Int32} {x2 : Int32} {x3 : Int32} {x4 : Int32} {h : Hp}  {Q : Hp → Prop} (C : Cx G RX11 cX11_oneMoreLook 6 none 3 0 0 X) (k0 : kd a0 = 11) (hw : eX11_oneMoreLook_5 a0 x1 x2 x3 Q x4 h) : R0 G X 0 0 (ZM G (fun r h' => r = none ∧ Q h') X) 5 [some (.ref (G.1 a0)), some (.int x1), some (.int x2), some (.int x3), some (.int x4), none] [] h := by
  obtain ⟨N, hw⟩ := hw
  induction N generalizing x4 h with
  | zero => exact hw.elim
  | succ N ih =>
    obtain ⟨K5, eK⟩ : ∃ K : Int32 → Hp → Prop, K = (fun x4 h => lpN (fun (K : Int32 × Hp → Prop) (s : Int32 × Hp) => fX11_oneMoreLook_5 a0 x1 x2 x3 Q (fun x4 h => K (x4, h)) s.1 s.2) N (x4, h)) := ⟨_, rfl⟩
    have hw : fX11_oneMoreLook_5 a0 x1 x2 x3 Q (fun x4 h => lpN (fun (K : Int32 × Hp → Prop) (s : Int32 × Hp) => fX11_oneMoreLook_5 a0 x1 x2 x3 Q (fun x4 h => K (x4, h)) s.1 s.2) N (x4, h)) x4 h := hw
    have hK5 : ∀ (x4 : Int32) (h : Hp), K5 x4 h → R0 G X 0 0 (ZM G (fun r h' => r = none ∧ Q h') X) 5 [some (.ref (G.1 a0)), some (.int x1), some (.int x2), some (.int x3), some (.int x4), none] [] h := fun x4 h q => ih (by rw [eK] at q; exact q)
    rw [← eK] at hw
    clear eK ih
    unfold fX11_oneMoreLook_5 at hw
    refine r_iload C dX11_oneMoreLook_5 rfl ?_
    refine r_if_lt 92 C dX11_oneMoreLook_7 (by decide) (fun hc => ?_) (fun hc => ?_)
    · replace hw := it_t hc hw
      exact r_vret C dX11_oneMoreLook_92 ⟨rfl, hw⟩
    · replace hw := it_f hc hw
      refine r_aload_n C dX11_oneMoreLook_10 rfl ?_
      refine gX11_69 C (k0) dX11_oneMoreLook_11 ?_
      refine r_iload C dX11_oneMoreLook_14 rfl ?_
      obtain ⟨hi1, hw⟩ := hw
      refine r_lald C (kr11_11 (k0)) hi1 dX11_oneMoreLook_16 ?_
      refine r_lconst (0) C dX11_oneMoreLook_17 (by decide) ?_
      refine r_lcmp C dX11_oneMoreLook_18 ?_
      refine r_if_ne 26 C dX11_oneMoreLook_19 (by decide) (fun hc => ?_) (fun hc => ?_)
      · replace hw := it_f hc hw
        refine r_aload_n C dX11_oneMoreLook_26 rfl ?_
        refine gX11_32 C (k0) dX11_oneMoreLook_27 ?_
        refine r_iload_n C dX11_oneMoreLook_30 rfl ?_
        refine r_iload C dX11_oneMoreLook_31 rfl ?_
        refine r_iload_n C dX11_oneMoreLook_33 rfl ?_
        refine kX11_194 C (kr11_4 (k0)) (sX6_chance (kr11_4 (k0)) hw) dX11_oneMoreLook_34 (Nat.le_of_ble_eq_true rfl) rfl (Nat.le_of_ble_eq_true rfl) (fun v2 h3 hw => ?_)
        exact tX11_oneMoreLook_37 C (k0) hK5 hw
      · replace hw := it_t hc hw
        refine r_iconst (0) C dX11_oneMoreLook_22 (by decide) ?_
        refine r_goto 37 C dX11_oneMoreLook_23 (by decide) ?_
        exact tX11_oneMoreLook_37 C (k0) hK5 hw
def wX11_oneMoreLook (a0 : Nat) (x1 : Int32) (x2 : Int32) (x3 : Int32) (h : Hp) (Q : Hp → Prop) : Prop :=
  ∀ v1 : Int32, v1 = (x3 - (1 : Int32)) → (eX11_oneMoreLook_5 a0 x1 x2 x3 Q v1 h)
set_option maxRecDepth 20000 in
theorem sX11_oneMoreLook {G : GG} {a0 : Nat} {x1 : Int32} {x2 : Int32} {x3 : Int32} {h : Hp} {Q : Hp → Prop} (k0 : kd a0 = 11) (hw : wX11_oneMoreLook a0 x1 x2 x3 h Q) : CV G 3 yX11_oneMoreLook cX11_oneMoreLook 6 none [.ref (G.1 a0), .int x1, .int x2, .int x3] h Q := by
  refine CO_of [some (.ref (G.1 a0)), some (.int x1), some (.int x2), some (.int x3), none, none] (by decide) (Nat.le_of_ble_eq_true rfl) rfl (fun X C => ?_)
  unfold wX11_oneMoreLook at hw
  refine r_iload_n C dX11_oneMoreLook_0 rfl ?_
  refine r_iconst (1) C dX11_oneMoreLook_1 (by decide) ?_
  refine r_isub C dX11_oneMoreLook_2 ?_
  refine r_topi (fun v1 ev1 => ?_)
  replace hw := hw v1 ev1
  refine r_istore [some (.ref (G.1 a0)), some (.int x1), some (.int x2), some (.int x3), some (.int v1), none] C dX11_oneMoreLook_3 (Nat.le_of_ble_eq_true rfl) rfl rfl ?_
  exact tX11_oneMoreLook_5 C (k0) hw
def fX11_summedWaits_66 (a0 : Nat) (x1 : Int32) (x2 : Int32) (x3 : Int32) (x4 : Int32) (x7 : Int32) (h : Hp) (K49 : Int64 → Int32 → Hp → Prop) (Q : Int64 → Hp → Prop) (K66 : Int64 → Int32 → Prop) (x5 : Int64) (x8 : Int32) : Prop :=
  if x4 ≤ x8 then (wX11_oneMoreLook a0 x1 (x2 + x7) x4 h (fun h2 => ∀ v3 : Int32, v3 = x7 + (1 : Int32) → (K49 x5 v3 h2))) else (vp_in x8 (ln (rf a0 11)) ∧ (∀ v5 : Int64, v5 = (x5 + (gL h (rf a0 11) x8.toNatClampNeg)) → (∀ v6 : Int32, v6 = x8 + (1 : Int32) → (K66 v5 v6))))
def eX11_summedWaits_66 (a0 : Nat) (x1 : Int32) (x2 : Int32) (x3 : Int32) (x4 : Int32) (x7 : Int32) (h : Hp) (K49 : Int64 → Int32 → Hp → Prop) (Q : Int64 → Hp → Prop) (x5 : Int64) (x8 : Int32) : Prop := ∃ N, lpN (fun (K : Int64 × Int32 → Prop) (s : Int64 × Int32) => fX11_summedWaits_66 a0 x1 x2 x3 x4 x7 h K49 Q (fun x5 x8 => K (x5, x8)) s.1 s.2) N (x5, x8)
theorem iX11_summedWaits_66 {a0 : Nat} {x1 : Int32} {x2 : Int32} {x3 : Int32} {x4 : Int32} {x7 : Int32} {h : Hp} {K49 : Int64 → Int32 → Hp → Prop} {Q : Int64 → Hp → Prop} (I : Int64 → Int32 → Prop) (μ : Int64 → Int32 → Nat) (hs : ∀ (x5 : Int64) (x8 : Int32), I x5 x8 → ∀ K : Int64 → Int32 → Prop, (∀ (x5' : Int64) (x8' : Int32), I x5' x8' → μ x5' x8' < μ x5 x8 → K x5' x8') → fX11_summedWaits_66 a0 x1 x2 x3 x4 x7 h K49 Q K x5 x8) : ∀ (x5 : Int64) (x8 : Int32), I x5 x8 → eX11_summedWaits_66 a0 x1 x2 x3 x4 x7 h K49 Q x5 x8 := fun x5 x8 hI => lp_ind (fun s => I s.1 s.2) (fun s => μ s.1 s.2) (fun s hs' K hK => hs s.1 s.2 hs' _ (fun x5' x8' h1 h2 => hK (x5', x8') h1 h2)) (x5, x8) hI
set_option maxRecDepth 20000 in
theorem tX11_summedWaits_66 {G : GG} {X : XX} {a0 : Nat} {x1 : Int32} {x2 : Int32} {x3 : Int32} {x4 : Int32} {x5 : Int64} {x7 : Int32} {x8 : Int32} {h : Hp}  {K49 : Int64 → Int32 → Hp → Prop} {Q : Int64 → Hp → Prop} (C : Cx G RX11 cX11_summedWaits 9 (some .long) 4 0 0 X) (k0 : kd a0 = 11) (hK49 : ∀ (y5 : Int64) (y7 : Int32) (h' : Hp), K49 y5 y7 h' → R0 G X 0 0 (ZM G (fun r h' => ∃ v, r = some (.long v) ∧ Q v h') X) 49 [some (.ref (G.1 a0)), some (.int x1), some (.int x2), some (.int x3), some (.int x4), some (.long y5), none, some (.int y7), none] [] h') (hw : eX11_summedWaits_66 a0 x1 x2 x3 x4 x7 h K49 Q x5 x8) : R0 G X 0 0 (ZM G (fun r h' => ∃ v, r = some (.long v) ∧ Q v h') X) 66 [some (.ref (G.1 a0)), some (.int x1), some (.int x2), some (.int x3), some (.int x4), some (.long x5), none, some (.int x7), some (.int x8)] [] h := by
  obtain ⟨N, hw⟩ := hw
  induction N generalizing x5 x8 with
  | zero => exact hw.elim
  | succ N ih =>
    obtain ⟨K66, eK⟩ : ∃ K : Int64 → Int32 → Prop, K = (fun x5 x8 => lpN (fun (K : Int64 × Int32 → Prop) (s : Int64 × Int32) => fX11_summedWaits_66 a0 x1 x2 x3 x4 x7 h K49 Q (fun x5 x8 => K (x5, x8)) s.1 s.2) N (x5, x8)) := ⟨_, rfl⟩
    have hw : fX11_summedWaits_66 a0 x1 x2 x3 x4 x7 h K49 Q (fun x5 x8 => lpN (fun (K : Int64 × Int32 → Prop) (s : Int64 × Int32) => fX11_summedWaits_66 a0 x1 x2 x3 x4 x7 h K49 Q (fun x5 x8 => K (x5, x8)) s.1 s.2) N (x5, x8)) x5 x8 := hw
    have hK66 : ∀ (x5 : Int64) (x8 : Int32), K66 x5 x8 → R0 G X 0 0 (ZM G (fun r h' => ∃ v, r = some (.long v) ∧ Q v h') X) 66 [some (.ref (G.1 a0)), some (.int x1), some (.int x2), some (.int x3), some (.int x4), some (.long x5), none, some (.int x7), some (.int x8)] [] h := fun x5 x8 q => ih (by rw [eK] at q; exact q)
    rw [← eK] at hw
    clear eK ih
    unfold fX11_summedWaits_66 at hw
    refine r_iload C dX11_summedWaits_66 rfl ?_
    refine r_iload C dX11_summedWaits_68 rfl ?_
    refine r_icmp_ge 91 C dX11_summedWaits_70 (by decide) (fun hc => ?_) (fun hc => ?_)
    · replace hw := it_t hc hw
      refine r_aload_n C dX11_summedWaits_91 rfl ?_
      refine r_iload_n C dX11_summedWaits_92 rfl ?_
      refine r_iload_n C dX11_summedWaits_93 rfl ?_
      refine r_iload C dX11_summedWaits_94 rfl ?_
      refine r_iadd C dX11_summedWaits_96 ?_
      refine r_iload C dX11_summedWaits_97 rfl ?_
      refine kX11_285 C (k0) (sX11_oneMoreLook (k0) hw) dX11_summedWaits_99 (Nat.le_of_ble_eq_true rfl) rfl (Nat.le_of_ble_eq_true rfl) (fun h2 hw => ?_)
      obtain ⟨v3, ev3⟩ : ∃ v : Int32, v = x7 + (1 : Int32) := ⟨_, rfl⟩
      replace hw := hw v3 ev3
      refine r_iinc v3 [some (.ref (G.1 a0)), some (.int x1), some (.int x2), some (.int x3), some (.int x4), some (.long x5), none, some (.int v3), some (.int x8)] C dX11_summedWaits_102 rfl (by rw [ev3]; rfl) rfl rfl ?_
      refine r_goto 49 C dX11_summedWaits_105 (by decide) ?_
      refine r_weak [some (.ref (G.1 a0)), some (.int x1), some (.int x2), some (.int x3), some (.int x4), some (.long x5), none, some (.int v3), none] (lw_k (lw_k (lw_k (lw_k (lw_k (lw_k (lw_k (lw_k (lw_d (lw_n)))))))))) ?_
      exact hK49 _ _ _ hw
    · replace hw := it_f hc hw
      refine r_lload C dX11_summedWaits_73 rfl ?_
      refine r_aload_n C dX11_summedWaits_75 rfl ?_
      refine gX11_69 C (k0) dX11_summedWaits_76 ?_
      refine r_iload C dX11_summedWaits_79 rfl ?_
      obtain ⟨hi4, hw⟩ := hw
      refine r_lald C (kr11_11 (k0)) hi4 dX11_summedWaits_81 ?_
      refine r_ladd C dX11_summedWaits_82 ?_
      refine r_topl (fun v5 ev5 => ?_)
      replace hw := hw v5 ev5
      refine r_lstore [some (.ref (G.1 a0)), some (.int x1), some (.int x2), some (.int x3), some (.int x4), some (.long v5), none, some (.int x7), some (.int x8)] C dX11_summedWaits_83 (Nat.le_of_ble_eq_true rfl) rfl rfl ?_
      obtain ⟨v6, ev6⟩ : ∃ v : Int32, v = x8 + (1 : Int32) := ⟨_, rfl⟩
      replace hw := hw v6 ev6
      refine r_iinc v6 [some (.ref (G.1 a0)), some (.int x1), some (.int x2), some (.int x3), some (.int x4), some (.long v5), none, some (.int x7), some (.int v6)] C dX11_summedWaits_85 rfl (by rw [ev6]; rfl) rfl rfl ?_
      refine r_goto 66 C dX11_summedWaits_88 (by decide) ?_
      exact hK66 _ _ hw
def fX11_summedWaits_49 (a0 : Nat) (x1 : Int32) (x2 : Int32) (x3 : Int32) (x4 : Int32) (Q : Int64 → Hp → Prop) (K49 : Int64 → Int32 → Hp → Prop) (x5 : Int64) (x7 : Int32) (h : Hp) : Prop :=
  if x3 ≤ x7 then (Q x5 h) else (∀ v1 : Int64, v1 = (x5 * (12 : Int64)) → (eX11_summedWaits_66 a0 x1 x2 x3 x4 x7 h K49 Q v1 (0 : Int32)))
def eX11_summedWaits_49 (a0 : Nat) (x1 : Int32) (x2 : Int32) (x3 : Int32) (x4 : Int32) (Q : Int64 → Hp → Prop) (x5 : Int64) (x7 : Int32) (h : Hp) : Prop := ∃ N, lpN (fun (K : Int64 × Int32 × Hp → Prop) (s : Int64 × Int32 × Hp) => fX11_summedWaits_49 a0 x1 x2 x3 x4 Q (fun x5 x7 h => K (x5, x7, h)) s.1 s.2.1 s.2.2) N (x5, x7, h)
theorem iX11_summedWaits_49 {a0 : Nat} {x1 : Int32} {x2 : Int32} {x3 : Int32} {x4 : Int32} {Q : Int64 → Hp → Prop} (I : Int64 → Int32 → Hp → Prop) (μ : Int64 → Int32 → Hp → Nat) (hs : ∀ (x5 : Int64) (x7 : Int32) (h : Hp), I x5 x7 h → ∀ K : Int64 → Int32 → Hp → Prop, (∀ (x5' : Int64) (x7' : Int32) (h' : Hp), I x5' x7' h' → μ x5' x7' h' < μ x5 x7 h → K x5' x7' h') → fX11_summedWaits_49 a0 x1 x2 x3 x4 Q K x5 x7 h) : ∀ (x5 : Int64) (x7 : Int32) (h : Hp), I x5 x7 h → eX11_summedWaits_49 a0 x1 x2 x3 x4 Q x5 x7 h := fun x5 x7 h hI => lp_ind (fun s => I s.1 s.2.1 s.2.2) (fun s => μ s.1 s.2.1 s.2.2) (fun s hs' K hK => hs s.1 s.2.1 s.2.2 hs' _ (fun x5' x7' h' h1 h2 => hK (x5', x7', h') h1 h2)) (x5, x7, h) hI
set_option maxRecDepth 20000 in
theorem tX11_summedWaits_49 {G : GG} {X : XX} {a0 : Nat} {x1 : Int32} {x2 : Int32} {x3 : Int32} {x4 : Int32} {x5 : Int64} {x7 : Int32} {h : Hp}  {Q : Int64 → Hp → Prop} (C : Cx G RX11 cX11_summedWaits 9 (some .long) 4 0 0 X) (k0 : kd a0 = 11) (hw : eX11_summedWaits_49 a0 x1 x2 x3 x4 Q x5 x7 h) : R0 G X 0 0 (ZM G (fun r h' => ∃ v, r = some (.long v) ∧ Q v h') X) 49 [some (.ref (G.1 a0)), some (.int x1), some (.int x2), some (.int x3), some (.int x4), some (.long x5), none, some (.int x7), none] [] h := by
  obtain ⟨N, hw⟩ := hw
  induction N generalizing x5 x7 h with
  | zero => exact hw.elim
  | succ N ih =>
    obtain ⟨K49, eK⟩ : ∃ K : Int64 → Int32 → Hp → Prop, K = (fun x5 x7 h => lpN (fun (K : Int64 × Int32 × Hp → Prop) (s : Int64 × Int32 × Hp) => fX11_summedWaits_49 a0 x1 x2 x3 x4 Q (fun x5 x7 h => K (x5, x7, h)) s.1 s.2.1 s.2.2) N (x5, x7, h)) := ⟨_, rfl⟩
    have hw : fX11_summedWaits_49 a0 x1 x2 x3 x4 Q (fun x5 x7 h => lpN (fun (K : Int64 × Int32 × Hp → Prop) (s : Int64 × Int32 × Hp) => fX11_summedWaits_49 a0 x1 x2 x3 x4 Q (fun x5 x7 h => K (x5, x7, h)) s.1 s.2.1 s.2.2) N (x5, x7, h)) x5 x7 h := hw
    have hK49 : ∀ (x5 : Int64) (x7 : Int32) (h : Hp), K49 x5 x7 h → R0 G X 0 0 (ZM G (fun r h' => ∃ v, r = some (.long v) ∧ Q v h') X) 49 [some (.ref (G.1 a0)), some (.int x1), some (.int x2), some (.int x3), some (.int x4), some (.long x5), none, some (.int x7), none] [] h := fun x5 x7 h q => ih (by rw [eK] at q; exact q)
    rw [← eK] at hw
    clear eK ih
    unfold fX11_summedWaits_49 at hw
    refine r_iload C dX11_summedWaits_49 rfl ?_
    refine r_iload_n C dX11_summedWaits_51 rfl ?_
    refine r_icmp_ge 108 C dX11_summedWaits_52 (by decide) (fun hc => ?_) (fun hc => ?_)
    · replace hw := it_t hc hw
      refine r_lload C dX11_summedWaits_108 rfl ?_
      exact r_lret C dX11_summedWaits_110 ⟨_, rfl, hw⟩
    · replace hw := it_f hc hw
      refine r_lload C dX11_summedWaits_55 rfl ?_
      refine r_ldc2_w (12) C wd862 dX11_summedWaits_57 ?_
      refine r_lmul C dX11_summedWaits_60 ?_
      refine r_topl (fun v1 ev1 => ?_)
      replace hw := hw v1 ev1
      refine r_lstore [some (.ref (G.1 a0)), some (.int x1), some (.int x2), some (.int x3), some (.int x4), some (.long v1), none, some (.int x7), none] C dX11_summedWaits_61 (Nat.le_of_ble_eq_true rfl) rfl rfl ?_
      refine r_iconst (0) C dX11_summedWaits_63 (by decide) ?_
      refine r_istore [some (.ref (G.1 a0)), some (.int x1), some (.int x2), some (.int x3), some (.int x4), some (.long v1), none, some (.int x7), some (.int (0 : Int32))] C dX11_summedWaits_64 (Nat.le_of_ble_eq_true rfl) rfl rfl ?_
      exact tX11_summedWaits_66 C (k0) hK49 hw
def fX11_summedWaits_3 (a0 : Nat) (x1 : Int32) (x2 : Int32) (x3 : Int32) (Q : Int64 → Hp → Prop) (K3 : Int32 → Hp → Prop) (x4 : Int32) (h : Hp) : Prop :=
  if (6 : Int32) ≤ x4 then (wX4_numberOf (rf a0 0) x1 h (fun v1 => eX11_summedWaits_49 a0 x1 x2 x3 v1 Q (0 : Int64) (0 : Int32) h)) else (if x4 = 0 then (vp_in x4 (ln (rf a0 11)) ∧ (∀ h6 : Hp, h6 = sL h (rf a0 11) x4.toNatClampNeg (1 : Int64) → (∀ v7 : Int32, v7 = x4 + (1 : Int32) → (K3 v7 h6)))) else (vp_in x4 (ln (rf a0 11)) ∧ (∀ h3 : Hp, h3 = sL h (rf a0 11) x4.toNatClampNeg (0 : Int64) → (∀ v4 : Int32, v4 = x4 + (1 : Int32) → (K3 v4 h3)))))
def eX11_summedWaits_3 (a0 : Nat) (x1 : Int32) (x2 : Int32) (x3 : Int32) (Q : Int64 → Hp → Prop) (x4 : Int32) (h : Hp) : Prop := ∃ N, lpN (fun (K : Int32 × Hp → Prop) (s : Int32 × Hp) => fX11_summedWaits_3 a0 x1 x2 x3 Q (fun x4 h => K (x4, h)) s.1 s.2) N (x4, h)
theorem iX11_summedWaits_3 {a0 : Nat} {x1 : Int32} {x2 : Int32} {x3 : Int32} {Q : Int64 → Hp → Prop} (I : Int32 → Hp → Prop) (μ : Int32 → Hp → Nat) (hs : ∀ (x4 : Int32) (h : Hp), I x4 h → ∀ K : Int32 → Hp → Prop, (∀ (x4' : Int32) (h' : Hp), I x4' h' → μ x4' h' < μ x4 h → K x4' h') → fX11_summedWaits_3 a0 x1 x2 x3 Q K x4 h) : ∀ (x4 : Int32) (h : Hp), I x4 h → eX11_summedWaits_3 a0 x1 x2 x3 Q x4 h := fun x4 h hI => lp_ind (fun s => I s.1 s.2) (fun s => μ s.1 s.2) (fun s hs' K hK => hs s.1 s.2 hs' _ (fun x4' h' h1 h2 => hK (x4', h') h1 h2)) (x4, h) hI
set_option maxRecDepth 20000 in
theorem tX11_summedWaits_3 {G : GG} {X : XX} {a0 : Nat} {x1 : Int32} {x2 : Int32} {x3 : Int32} {x4 : Int32} {h : Hp}  {Q : Int64 → Hp → Prop} (C : Cx G RX11 cX11_summedWaits 9 (some .long) 4 0 0 X) (k0 : kd a0 = 11) (hw : eX11_summedWaits_3 a0 x1 x2 x3 Q x4 h) : R0 G X 0 0 (ZM G (fun r h' => ∃ v, r = some (.long v) ∧ Q v h') X) 3 [some (.ref (G.1 a0)), some (.int x1), some (.int x2), some (.int x3), some (.int x4), none, none, none, none] [] h := by
  obtain ⟨N, hw⟩ := hw
  induction N generalizing x4 h with
  | zero => exact hw.elim
  | succ N ih =>
    obtain ⟨K3, eK⟩ : ∃ K : Int32 → Hp → Prop, K = (fun x4 h => lpN (fun (K : Int32 × Hp → Prop) (s : Int32 × Hp) => fX11_summedWaits_3 a0 x1 x2 x3 Q (fun x4 h => K (x4, h)) s.1 s.2) N (x4, h)) := ⟨_, rfl⟩
    have hw : fX11_summedWaits_3 a0 x1 x2 x3 Q (fun x4 h => lpN (fun (K : Int32 × Hp → Prop) (s : Int32 × Hp) => fX11_summedWaits_3 a0 x1 x2 x3 Q (fun x4 h => K (x4, h)) s.1 s.2) N (x4, h)) x4 h := hw
    have hK3 : ∀ (x4 : Int32) (h : Hp), K3 x4 h → R0 G X 0 0 (ZM G (fun r h' => ∃ v, r = some (.long v) ∧ Q v h') X) 3 [some (.ref (G.1 a0)), some (.int x1), some (.int x2), some (.int x3), some (.int x4), none, none, none, none] [] h := fun x4 h q => ih (by rw [eK] at q; exact q)
    rw [← eK] at hw
    clear eK ih
    unfold fX11_summedWaits_3 at hw
    refine r_iload C dX11_summedWaits_3 rfl ?_
    refine r_bipush (6) C dX11_summedWaits_5 (by decide) ?_
    refine r_icmp_ge 33 C dX11_summedWaits_7 (by decide) (fun hc => ?_) (fun hc => ?_)
    · replace hw := it_t hc hw
      refine r_aload_n C dX11_summedWaits_33 rfl ?_
      refine gX11_10 C (k0) dX11_summedWaits_34 ?_
      refine r_iload_n C dX11_summedWaits_37 rfl ?_
      refine kX11_205 C (kr11_0 (k0)) (sX4_numberOf (kr11_0 (k0)) hw) dX11_summedWaits_38 (Nat.le_of_ble_eq_true rfl) rfl (Nat.le_of_ble_eq_true rfl) (fun v1 hw => ?_)
      refine r_istore [some (.ref (G.1 a0)), some (.int x1), some (.int x2), some (.int x3), some (.int v1), none, none, none, none] C dX11_summedWaits_41 (Nat.le_of_ble_eq_true rfl) rfl rfl ?_
      refine r_lconst (0) C dX11_summedWaits_43 (by decide) ?_
      refine r_lstore [some (.ref (G.1 a0)), some (.int x1), some (.int x2), some (.int x3), some (.int v1), some (.long (0 : Int64)), none, none, none] C dX11_summedWaits_44 (Nat.le_of_ble_eq_true rfl) rfl rfl ?_
      refine r_iconst (0) C dX11_summedWaits_46 (by decide) ?_
      refine r_istore [some (.ref (G.1 a0)), some (.int x1), some (.int x2), some (.int x3), some (.int v1), some (.long (0 : Int64)), none, some (.int (0 : Int32)), none] C dX11_summedWaits_47 (Nat.le_of_ble_eq_true rfl) rfl rfl ?_
      exact tX11_summedWaits_49 C (k0) hw
    · replace hw := it_f hc hw
      refine r_aload_n C dX11_summedWaits_10 rfl ?_
      refine gX11_69 C (k0) dX11_summedWaits_11 ?_
      refine r_iload C dX11_summedWaits_14 rfl ?_
      refine r_iload C dX11_summedWaits_16 rfl ?_
      refine r_if_ne 25 C dX11_summedWaits_18 (by decide) (fun hc => ?_) (fun hc => ?_)
      · replace hw := it_f hc hw
        refine r_lconst (0) C dX11_summedWaits_25 (by decide) ?_
        obtain ⟨hi2, hw⟩ := hw
        refine r_last C (kr11_11 (k0)) hi2 dX11_summedWaits_26 ?_
        refine r_toph (fun h3 eh3 => ?_)
        replace hw := hw h3 eh3
        obtain ⟨v4, ev4⟩ : ∃ v : Int32, v = x4 + (1 : Int32) := ⟨_, rfl⟩
        replace hw := hw v4 ev4
        refine r_iinc v4 [some (.ref (G.1 a0)), some (.int x1), some (.int x2), some (.int x3), some (.int v4), none, none, none, none] C dX11_summedWaits_27 rfl (by rw [ev4]; rfl) rfl rfl ?_
        refine r_goto 3 C dX11_summedWaits_30 (by decide) ?_
        exact hK3 _ _ hw
      · replace hw := it_t hc hw
        refine r_lconst (1) C dX11_summedWaits_21 (by decide) ?_
        refine r_goto 26 C dX11_summedWaits_22 (by decide) ?_
        obtain ⟨hi5, hw⟩ := hw
        refine r_last C (kr11_11 (k0)) hi5 dX11_summedWaits_26 ?_
        refine r_toph (fun h6 eh6 => ?_)
        replace hw := hw h6 eh6
        obtain ⟨v7, ev7⟩ : ∃ v : Int32, v = x4 + (1 : Int32) := ⟨_, rfl⟩
        replace hw := hw v7 ev7
        refine r_iinc v7 [some (.ref (G.1 a0)), some (.int x1), some (.int x2), some (.int x3), some (.int v7), none, none, none, none] C dX11_summedWaits_27 rfl (by rw [ev7]; rfl) rfl rfl ?_
        refine r_goto 3 C dX11_summedWaits_30 (by decide) ?_
        exact hK3 _ _ hw
def wX11_summedWaits (a0 : Nat) (x1 : Int32) (x2 : Int32) (x3 : Int32) (h : Hp) (Q : Int64 → Hp → Prop) : Prop :=
  eX11_summedWaits_3 a0 x1 x2 x3 Q (0 : Int32) h
set_option maxRecDepth 20000 in
theorem sX11_summedWaits {G : GG} {a0 : Nat} {x1 : Int32} {x2 : Int32} {x3 : Int32} {h : Hp} {Q : Int64 → Hp → Prop} (k0 : kd a0 = 11) (hw : wX11_summedWaits a0 x1 x2 x3 h Q) : CJ G 4 yX11_summedWaits cX11_summedWaits 9 (some .long) [.ref (G.1 a0), .int x1, .int x2, .int x3] h Q := by
  refine CO_of [some (.ref (G.1 a0)), some (.int x1), some (.int x2), some (.int x3), none, none, none, none, none] (by decide) (Nat.le_of_ble_eq_true rfl) rfl (fun X C => ?_)
  unfold wX11_summedWaits at hw
  refine r_iconst (0) C dX11_summedWaits_0 (by decide) ?_
  refine r_istore [some (.ref (G.1 a0)), some (.int x1), some (.int x2), some (.int x3), some (.int (0 : Int32)), none, none, none, none] C dX11_summedWaits_1 (Nat.le_of_ble_eq_true rfl) rfl rfl ?_
  exact tX11_summedWaits_3 C (k0) hw
def jX11_commonDivisor_45 (x4 : Int64) (h : Hp) (Q : Int64 → Prop) : Prop :=
  if (lg_cmp x4 (0 : Int64)) ≤ 0 then (Q (1 : Int64)) else (Q x4)
set_option maxRecDepth 20000 in
theorem tX11_commonDivisor_45 {G : GG} {X : XX} {x4 : Int64} {h : Hp}  {Q : Int64 → Prop} (C : Cx G RX11 cX11_commonDivisor 11 (some .long) 0 0 0 X) (hw : jX11_commonDivisor_45 x4 h Q) : R0 G X 0 0 (ZM G (fun r h' => ∃ v, r = some (.long v) ∧ h' = h ∧ Q v) X) 45 [none, none, none, none, some (.long x4), none, none, none, none, none, none] [] h := by
  unfold jX11_commonDivisor_45 at hw
  refine r_lload C dX11_commonDivisor_45 rfl ?_
  refine r_lconst (0) C dX11_commonDivisor_47 (by decide) ?_
  refine r_lcmp C dX11_commonDivisor_48 ?_
  refine r_if_le 57 C dX11_commonDivisor_49 (by decide) (fun hc => ?_) (fun hc => ?_)
  · replace hw := it_t hc hw
    refine r_lconst (1) C dX11_commonDivisor_57 (by decide) ?_
    exact r_lret C dX11_commonDivisor_58 ⟨_, rfl, rfl, hw⟩
  · replace hw := it_f hc hw
    refine r_lload C dX11_commonDivisor_52 rfl ?_
    refine r_goto 58 C dX11_commonDivisor_54 (by decide) ?_
    exact r_lret C dX11_commonDivisor_58 ⟨_, rfl, rfl, hw⟩
def fX11_commonDivisor_9 (h : Hp) (Q : Int64 → Prop) (K9 : Int64 → Int64 → Int32 → Prop) (x4 : Int64) (x6 : Int64) (x8 : Int32) : Prop :=
  if (200 : Int32) ≤ x8 then (jX11_commonDivisor_45 x4 h Q) else (if (lg_cmp x6 (0 : Int64)) = 0 then (jX11_commonDivisor_45 x4 h Q) else (¬ x6 = 0 ∧ (∀ v2 : Int64, v2 = (rmL x4 x6) → (∀ v3 : Int32, v3 = x8 + (1 : Int32) → (K9 x6 v2 v3)))))
def eX11_commonDivisor_9 (h : Hp) (Q : Int64 → Prop) (x4 : Int64) (x6 : Int64) (x8 : Int32) : Prop := ∃ N, lpN (fun (K : Int64 × Int64 × Int32 → Prop) (s : Int64 × Int64 × Int32) => fX11_commonDivisor_9 h Q (fun x4 x6 x8 => K (x4, x6, x8)) s.1 s.2.1 s.2.2) N (x4, x6, x8)
theorem iX11_commonDivisor_9 {h : Hp} {Q : Int64 → Prop} (I : Int64 → Int64 → Int32 → Prop) (μ : Int64 → Int64 → Int32 → Nat) (hs : ∀ (x4 : Int64) (x6 : Int64) (x8 : Int32), I x4 x6 x8 → ∀ K : Int64 → Int64 → Int32 → Prop, (∀ (x4' : Int64) (x6' : Int64) (x8' : Int32), I x4' x6' x8' → μ x4' x6' x8' < μ x4 x6 x8 → K x4' x6' x8') → fX11_commonDivisor_9 h Q K x4 x6 x8) : ∀ (x4 : Int64) (x6 : Int64) (x8 : Int32), I x4 x6 x8 → eX11_commonDivisor_9 h Q x4 x6 x8 := fun x4 x6 x8 hI => lp_ind (fun s => I s.1 s.2.1 s.2.2) (fun s => μ s.1 s.2.1 s.2.2) (fun s hs' K hK => hs s.1 s.2.1 s.2.2 hs' _ (fun x4' x6' x8' h1 h2 => hK (x4', x6', x8') h1 h2)) (x4, x6, x8) hI
set_option maxRecDepth 20000 in
theorem tX11_commonDivisor_9 {G : GG} {X : XX} {x4 : Int64} {x6 : Int64} {x8 : Int32} {h : Hp}  {Q : Int64 → Prop} (C : Cx G RX11 cX11_commonDivisor 11 (some .long) 0 0 0 X) (hw : eX11_commonDivisor_9 h Q x4 x6 x8) : R0 G X 0 0 (ZM G (fun r h' => ∃ v, r = some (.long v) ∧ h' = h ∧ Q v) X) 9 [none, none, none, none, some (.long x4), none, some (.long x6), none, some (.int x8), none, none] [] h := by
  obtain ⟨N, hw⟩ := hw
  induction N generalizing x4 x6 x8 with
  | zero => exact hw.elim
  | succ N ih =>
    obtain ⟨K9, eK⟩ : ∃ K : Int64 → Int64 → Int32 → Prop, K = (fun x4 x6 x8 => lpN (fun (K : Int64 × Int64 × Int32 → Prop) (s : Int64 × Int64 × Int32) => fX11_commonDivisor_9 h Q (fun x4 x6 x8 => K (x4, x6, x8)) s.1 s.2.1 s.2.2) N (x4, x6, x8)) := ⟨_, rfl⟩
    have hw : fX11_commonDivisor_9 h Q (fun x4 x6 x8 => lpN (fun (K : Int64 × Int64 × Int32 → Prop) (s : Int64 × Int64 × Int32) => fX11_commonDivisor_9 h Q (fun x4 x6 x8 => K (x4, x6, x8)) s.1 s.2.1 s.2.2) N (x4, x6, x8)) x4 x6 x8 := hw
    have hK9 : ∀ (x4 : Int64) (x6 : Int64) (x8 : Int32), K9 x4 x6 x8 → R0 G X 0 0 (ZM G (fun r h' => ∃ v, r = some (.long v) ∧ h' = h ∧ Q v) X) 9 [none, none, none, none, some (.long x4), none, some (.long x6), none, some (.int x8), none, none] [] h := fun x4 x6 x8 q => ih (by rw [eK] at q; exact q)
    rw [← eK] at hw
    clear eK ih
    unfold fX11_commonDivisor_9 at hw
    refine r_iload C dX11_commonDivisor_9 rfl ?_
    refine r_sipush (200) C dX11_commonDivisor_11 (by decide) ?_
    refine r_icmp_ge 45 C dX11_commonDivisor_14 (by decide) (fun hc => ?_) (fun hc => ?_)
    · replace hw := it_t hc hw
      refine r_weak [none, none, none, none, some (.long x4), none, none, none, none, none, none] (lw_k (lw_k (lw_k (lw_k (lw_k (lw_k (lw_d (lw_k (lw_d (lw_k (lw_k (lw_n)))))))))))) ?_
      exact tX11_commonDivisor_45 C  hw
    · replace hw := it_f hc hw
      refine r_lload C dX11_commonDivisor_17 rfl ?_
      refine r_lconst (0) C dX11_commonDivisor_19 (by decide) ?_
      refine r_lcmp C dX11_commonDivisor_20 ?_
      refine r_if_eq 45 C dX11_commonDivisor_21 (by decide) (fun hc => ?_) (fun hc => ?_)
      · replace hw := it_t hc hw
        refine r_weak [none, none, none, none, some (.long x4), none, none, none, none, none, none] (lw_k (lw_k (lw_k (lw_k (lw_k (lw_k (lw_d (lw_k (lw_d (lw_k (lw_k (lw_n)))))))))))) ?_
        exact tX11_commonDivisor_45 C  hw
      · replace hw := it_f hc hw
        refine r_lload C dX11_commonDivisor_24 rfl ?_
        refine r_lload C dX11_commonDivisor_26 rfl ?_
        obtain ⟨hz1, hw⟩ := hw
        refine r_lrem C dX11_commonDivisor_28 hz1 ?_
        refine r_topl (fun v2 ev2 => ?_)
        replace hw := hw v2 ev2
        refine r_lstore [none, none, none, none, some (.long x4), none, some (.long x6), none, some (.int x8), some (.long v2), none] C dX11_commonDivisor_29 (Nat.le_of_ble_eq_true rfl) rfl rfl ?_
        refine r_lload C dX11_commonDivisor_31 rfl ?_
        refine r_lstore [none, none, none, none, some (.long x6), none, some (.long x6), none, some (.int x8), some (.long v2), none] C dX11_commonDivisor_33 (Nat.le_of_ble_eq_true rfl) rfl rfl ?_
        refine r_lload C dX11_commonDivisor_35 rfl ?_
        refine r_lstore [none, none, none, none, some (.long x6), none, some (.long v2), none, some (.int x8), some (.long v2), none] C dX11_commonDivisor_37 (Nat.le_of_ble_eq_true rfl) rfl rfl ?_
        obtain ⟨v3, ev3⟩ : ∃ v : Int32, v = x8 + (1 : Int32) := ⟨_, rfl⟩
        replace hw := hw v3 ev3
        refine r_iinc v3 [none, none, none, none, some (.long x6), none, some (.long v2), none, some (.int v3), some (.long v2), none] C dX11_commonDivisor_39 rfl (by rw [ev3]; rfl) rfl rfl ?_
        refine r_goto 9 C dX11_commonDivisor_42 (by decide) ?_
        refine r_weak [none, none, none, none, some (.long x6), none, some (.long v2), none, some (.int v3), none, none] (lw_k (lw_k (lw_k (lw_k (lw_k (lw_k (lw_k (lw_k (lw_k (lw_d (lw_k (lw_n)))))))))))) ?_
        exact hK9 _ _ _ hw
def wX11_commonDivisor (x0 : Int64) (x2 : Int64) (h : Hp) (Q : Int64 → Prop) : Prop :=
  eX11_commonDivisor_9 h Q x0 x2 (0 : Int32)
set_option maxRecDepth 20000 in
theorem sX11_commonDivisor {G : GG} {x0 : Int64} {x2 : Int64} {h : Hp} {Q : Int64 → Prop} (hw : wX11_commonDivisor x0 x2 h Q) : PJ G 0 yX11_commonDivisor cX11_commonDivisor 11 (some .long) [.long x0, .long x2] h Q := by
  refine CO_of [some (.long x0), none, some (.long x2), none, none, none, none, none, none, none, none] (by decide) (Nat.le_of_ble_eq_true rfl) rfl (fun X C => ?_)
  unfold wX11_commonDivisor at hw
  refine r_lload_n C dX11_commonDivisor_0 rfl ?_
  refine r_lstore [some (.long x0), none, some (.long x2), none, some (.long x0), none, none, none, none, none, none] C dX11_commonDivisor_1 (Nat.le_of_ble_eq_true rfl) rfl rfl ?_
  refine r_lload_n C dX11_commonDivisor_3 rfl ?_
  refine r_lstore [some (.long x0), none, some (.long x2), none, some (.long x0), none, some (.long x2), none, none, none, none] C dX11_commonDivisor_4 (Nat.le_of_ble_eq_true rfl) rfl rfl ?_
  refine r_iconst (0) C dX11_commonDivisor_6 (by decide) ?_
  refine r_istore [some (.long x0), none, some (.long x2), none, some (.long x0), none, some (.long x2), none, some (.int (0 : Int32)), none, none] C dX11_commonDivisor_7 (Nat.le_of_ble_eq_true rfl) rfl rfl ?_
  refine r_weak [none, none, none, none, some (.long x0), none, some (.long x2), none, some (.int (0 : Int32)), none, none] (lw_d (lw_k (lw_d (lw_k (lw_k (lw_k (lw_k (lw_k (lw_k (lw_k (lw_k (lw_n)))))))))))) ?_
  exact tX11_commonDivisor_9 C  hw
def fX11_waits_61 (a0 : Nat) (x1 : Int32) (x2 : Int32) (x3 : Int32) (h : Hp) (Q : Int64 → Hp → Prop) (K61 : Int64 → Int32 → Prop) (x4 : Int64) (x6 : Int32) : Prop :=
  if x2 ≤ x6 then (wX11_summedWaits a0 (x1 / (100 : Int32)) (rm x1 (100 : Int32)) x2 h (fun v1 h2 => wX11_commonDivisor v1 x4 h2 (fun v3 => if x3 = 0 then (¬ v3 = 0 ∧ (Q (v1 / v3) h2)) else (¬ v3 = 0 ∧ (Q (x4 / v3) h2))))) else (∀ v6 : Int64, v6 = (x4 * (12 : Int64)) → (∀ v7 : Int32, v7 = x6 + (1 : Int32) → (K61 v6 v7)))
def eX11_waits_61 (a0 : Nat) (x1 : Int32) (x2 : Int32) (x3 : Int32) (h : Hp) (Q : Int64 → Hp → Prop) (x4 : Int64) (x6 : Int32) : Prop := ∃ N, lpN (fun (K : Int64 × Int32 → Prop) (s : Int64 × Int32) => fX11_waits_61 a0 x1 x2 x3 h Q (fun x4 x6 => K (x4, x6)) s.1 s.2) N (x4, x6)
theorem iX11_waits_61 {a0 : Nat} {x1 : Int32} {x2 : Int32} {x3 : Int32} {h : Hp} {Q : Int64 → Hp → Prop} (I : Int64 → Int32 → Prop) (μ : Int64 → Int32 → Nat) (hs : ∀ (x4 : Int64) (x6 : Int32), I x4 x6 → ∀ K : Int64 → Int32 → Prop, (∀ (x4' : Int64) (x6' : Int32), I x4' x6' → μ x4' x6' < μ x4 x6 → K x4' x6') → fX11_waits_61 a0 x1 x2 x3 h Q K x4 x6) : ∀ (x4 : Int64) (x6 : Int32), I x4 x6 → eX11_waits_61 a0 x1 x2 x3 h Q x4 x6 := fun x4 x6 hI => lp_ind (fun s => I s.1 s.2) (fun s => μ s.1 s.2) (fun s hs' K hK => hs s.1 s.2 hs' _ (fun x4' x6' h1 h2 => hK (x4', x6') h1 h2)) (x4, x6) hI
set_option maxRecDepth 20000 in
theorem tX11_waits_61 {G : GG} {X : XX} {a0 : Nat} {x1 : Int32} {x2 : Int32} {x3 : Int32} {x4 : Int64} {x6 : Int32} {h : Hp}  {Q : Int64 → Hp → Prop} (C : Cx G RX11 cX11_waits 10 (some .long) 5 0 0 X) (k0 : kd a0 = 11) (hw : eX11_waits_61 a0 x1 x2 x3 h Q x4 x6) : R0 G X 0 0 (ZM G (fun r h' => ∃ v, r = some (.long v) ∧ Q v h') X) 61 [some (.ref (G.1 a0)), some (.int x1), some (.int x2), some (.int x3), some (.long x4), none, some (.int x6), none, none, none] [] h := by
  obtain ⟨N, hw⟩ := hw
  induction N generalizing x4 x6 with
  | zero => exact hw.elim
  | succ N ih =>
    obtain ⟨K61, eK⟩ : ∃ K : Int64 → Int32 → Prop, K = (fun x4 x6 => lpN (fun (K : Int64 × Int32 → Prop) (s : Int64 × Int32) => fX11_waits_61 a0 x1 x2 x3 h Q (fun x4 x6 => K (x4, x6)) s.1 s.2) N (x4, x6)) := ⟨_, rfl⟩
    have hw : fX11_waits_61 a0 x1 x2 x3 h Q (fun x4 x6 => lpN (fun (K : Int64 × Int32 → Prop) (s : Int64 × Int32) => fX11_waits_61 a0 x1 x2 x3 h Q (fun x4 x6 => K (x4, x6)) s.1 s.2) N (x4, x6)) x4 x6 := hw
    have hK61 : ∀ (x4 : Int64) (x6 : Int32), K61 x4 x6 → R0 G X 0 0 (ZM G (fun r h' => ∃ v, r = some (.long v) ∧ Q v h') X) 61 [some (.ref (G.1 a0)), some (.int x1), some (.int x2), some (.int x3), some (.long x4), none, some (.int x6), none, none, none] [] h := fun x4 x6 q => ih (by rw [eK] at q; exact q)
    rw [← eK] at hw
    clear eK ih
    unfold fX11_waits_61 at hw
    refine r_iload C dX11_waits_61 rfl ?_
    refine r_iload_n C dX11_waits_63 rfl ?_
    refine r_icmp_ge 81 C dX11_waits_64 (by decide) (fun hc => ?_) (fun hc => ?_)
    · replace hw := it_t hc hw
      refine r_aload_n C dX11_waits_81 rfl ?_
      refine r_iload_n C dX11_waits_82 rfl ?_
      refine r_bipush (100) C dX11_waits_83 (by decide) ?_
      refine r_idiv C dX11_waits_85 (by decide) ?_
      refine r_iload_n C dX11_waits_86 rfl ?_
      refine r_bipush (100) C dX11_waits_87 (by decide) ?_
      refine r_irem C dX11_waits_89 (by decide) ?_
      refine r_iload_n C dX11_waits_90 rfl ?_
      refine kX11_277 C (k0) (sX11_summedWaits (k0) hw) dX11_waits_91 (Nat.le_of_ble_eq_true rfl) rfl (Nat.le_of_ble_eq_true rfl) (fun v1 h2 hw => ?_)
      refine r_lstore [some (.ref (G.1 a0)), some (.int x1), some (.int x2), some (.int x3), some (.long x4), none, some (.long v1), none, none, none] C dX11_waits_94 (Nat.le_of_ble_eq_true rfl) rfl rfl ?_
      refine r_lload C dX11_waits_96 rfl ?_
      refine r_lload C dX11_waits_98 rfl ?_
      refine kX11_281 C (sX11_commonDivisor hw) dX11_waits_100 (Nat.le_of_ble_eq_true rfl) rfl (Nat.le_of_ble_eq_true rfl) (fun v3 hw => ?_)
      refine r_lstore [some (.ref (G.1 a0)), some (.int x1), some (.int x2), some (.int x3), some (.long x4), none, some (.long v1), none, some (.long v3), none] C dX11_waits_103 (Nat.le_of_ble_eq_true rfl) rfl rfl ?_
      refine r_iload_n C dX11_waits_105 rfl ?_
      refine r_if_ne 114 C dX11_waits_106 (by decide) (fun hc => ?_) (fun hc => ?_)
      · replace hw := it_f hc hw
        refine r_lload C dX11_waits_114 rfl ?_
        refine r_lload C dX11_waits_116 rfl ?_
        obtain ⟨hz4, hw⟩ := hw
        refine r_ldiv C dX11_waits_118 hz4 ?_
        exact r_lret C dX11_waits_119 ⟨_, rfl, hw⟩
      · replace hw := it_t hc hw
        refine r_lload C dX11_waits_109 rfl ?_
        refine r_goto 116 C dX11_waits_111 (by decide) ?_
        refine r_lload C dX11_waits_116 rfl ?_
        obtain ⟨hz5, hw⟩ := hw
        refine r_ldiv C dX11_waits_118 hz5 ?_
        exact r_lret C dX11_waits_119 ⟨_, rfl, hw⟩
    · replace hw := it_f hc hw
      refine r_lload C dX11_waits_67 rfl ?_
      refine r_ldc2_w (12) C wd862 dX11_waits_69 ?_
      refine r_lmul C dX11_waits_72 ?_
      refine r_topl (fun v6 ev6 => ?_)
      replace hw := hw v6 ev6
      refine r_lstore [some (.ref (G.1 a0)), some (.int x1), some (.int x2), some (.int x3), some (.long v6), none, some (.int x6), none, none, none] C dX11_waits_73 (Nat.le_of_ble_eq_true rfl) rfl rfl ?_
      obtain ⟨v7, ev7⟩ : ∃ v : Int32, v = x6 + (1 : Int32) := ⟨_, rfl⟩
      replace hw := hw v7 ev7
      refine r_iinc v7 [some (.ref (G.1 a0)), some (.int x1), some (.int x2), some (.int x3), some (.long v6), none, some (.int v7), none, none, none] C dX11_waits_75 rfl (by rw [ev7]; rfl) rfl rfl ?_
      refine r_goto 61 C dX11_waits_78 (by decide) ?_
      exact hK61 _ _ hw
def wX11_waits (a0 : Nat) (x1 : Int32) (x2 : Int32) (x3 : Int32) (h : Hp) (Q : Int64 → Hp → Prop) : Prop :=
  if x1 < 0 then (Q (-9223372036854775808 : Int64) h) else (wX4_has (rf a0 0) (x1 / (100 : Int32)) h (fun v1 => if v1 = 0 then (Q (-9223372036854775808 : Int64) h) else (wX11_isTime (rm x1 (100 : Int32)) h (fun v2 => if v2 = 0 then (Q (-9223372036854775808 : Int64) h) else (if x2 < 0 then (Q (-9223372036854775808 : Int64) h) else (if (8 : Int32) < x2 then (Q (-9223372036854775808 : Int64) h) else (if x3 < 0 then (Q (-9223372036854775808 : Int64) h) else (if x3 ≤ (1 : Int32) then (eX11_waits_61 a0 x1 x2 x3 h Q (1 : Int64) (1 : Int32)) else (Q (-9223372036854775808 : Int64) h)))))))))
set_option maxRecDepth 20000 in
theorem sX11_waits {G : GG} {a0 : Nat} {x1 : Int32} {x2 : Int32} {x3 : Int32} {h : Hp} {Q : Int64 → Hp → Prop} (k0 : kd a0 = 11) (hw : wX11_waits a0 x1 x2 x3 h Q) : CJ G 5 yX11_waits cX11_waits 10 (some .long) [.ref (G.1 a0), .int x1, .int x2, .int x3] h Q := by
  refine CO_of [some (.ref (G.1 a0)), some (.int x1), some (.int x2), some (.int x3), none, none, none, none, none, none] (by decide) (Nat.le_of_ble_eq_true rfl) rfl (fun X C => ?_)
  unfold wX11_waits at hw
  refine r_iload_n C dX11_waits_0 rfl ?_
  refine r_if_lt 28 C dX11_waits_1 (by decide) (fun hc => ?_) (fun hc => ?_)
  · replace hw := it_t hc hw
    refine r_ldc2_w (-9223372036854775808) C wd861 dX11_waits_28 ?_
    exact r_lret C dX11_waits_31 ⟨_, rfl, hw⟩
  · replace hw := it_f hc hw
    refine r_aload_n C dX11_waits_4 rfl ?_
    refine gX11_10 C (k0) dX11_waits_5 ?_
    refine r_iload_n C dX11_waits_8 rfl ?_
    refine r_bipush (100) C dX11_waits_9 (by decide) ?_
    refine r_idiv C dX11_waits_11 (by decide) ?_
    refine kX11_143 C (kr11_0 (k0)) (sX4_has (kr11_0 (k0)) hw) dX11_waits_12 (Nat.le_of_ble_eq_true rfl) rfl (Nat.le_of_ble_eq_true rfl) (fun v1 hw => ?_)
    refine r_if_eq 28 C dX11_waits_15 (by decide) (fun hc => ?_) (fun hc => ?_)
    · replace hw := it_t hc hw
      refine r_ldc2_w (-9223372036854775808) C wd861 dX11_waits_28 ?_
      exact r_lret C dX11_waits_31 ⟨_, rfl, hw⟩
    · replace hw := it_f hc hw
      refine r_iload_n C dX11_waits_18 rfl ?_
      refine r_bipush (100) C dX11_waits_19 (by decide) ?_
      refine r_irem C dX11_waits_21 (by decide) ?_
      refine kX11_187 C (sX11_isTime hw) dX11_waits_22 (Nat.le_of_ble_eq_true rfl) rfl (Nat.le_of_ble_eq_true rfl) (fun v2 hw => ?_)
      refine r_if_ne 32 C dX11_waits_25 (by decide) (fun hc => ?_) (fun hc => ?_)
      · replace hw := it_f hc hw
        refine r_iload_n C dX11_waits_32 rfl ?_
        refine r_if_lt 51 C dX11_waits_33 (by decide) (fun hc => ?_) (fun hc => ?_)
        · replace hw := it_t hc hw
          refine r_ldc2_w (-9223372036854775808) C wd861 dX11_waits_51 ?_
          exact r_lret C dX11_waits_54 ⟨_, rfl, hw⟩
        · replace hw := it_f hc hw
          refine r_iload_n C dX11_waits_36 rfl ?_
          refine r_bipush (8) C dX11_waits_37 (by decide) ?_
          refine r_icmp_gt 51 C dX11_waits_39 (by decide) (fun hc => ?_) (fun hc => ?_)
          · replace hw := it_t hc hw
            refine r_ldc2_w (-9223372036854775808) C wd861 dX11_waits_51 ?_
            exact r_lret C dX11_waits_54 ⟨_, rfl, hw⟩
          · replace hw := it_f hc hw
            refine r_iload_n C dX11_waits_42 rfl ?_
            refine r_if_lt 51 C dX11_waits_43 (by decide) (fun hc => ?_) (fun hc => ?_)
            · replace hw := it_t hc hw
              refine r_ldc2_w (-9223372036854775808) C wd861 dX11_waits_51 ?_
              exact r_lret C dX11_waits_54 ⟨_, rfl, hw⟩
            · replace hw := it_f hc hw
              refine r_iload_n C dX11_waits_46 rfl ?_
              refine r_iconst (1) C dX11_waits_47 (by decide) ?_
              refine r_icmp_le 55 C dX11_waits_48 (by decide) (fun hc => ?_) (fun hc => ?_)
              · replace hw := it_t hc hw
                refine r_lconst (1) C dX11_waits_55 (by decide) ?_
                refine r_lstore [some (.ref (G.1 a0)), some (.int x1), some (.int x2), some (.int x3), some (.long (1 : Int64)), none, none, none, none, none] C dX11_waits_56 (Nat.le_of_ble_eq_true rfl) rfl rfl ?_
                refine r_iconst (1) C dX11_waits_58 (by decide) ?_
                refine r_istore [some (.ref (G.1 a0)), some (.int x1), some (.int x2), some (.int x3), some (.long (1 : Int64)), none, some (.int (1 : Int32)), none, none, none] C dX11_waits_59 (Nat.le_of_ble_eq_true rfl) rfl rfl ?_
                exact tX11_waits_61 C (k0) hw
              · replace hw := it_f hc hw
                refine r_ldc2_w (-9223372036854775808) C wd861 dX11_waits_51 ?_
                exact r_lret C dX11_waits_54 ⟨_, rfl, hw⟩
      · replace hw := it_t hc hw
        refine r_ldc2_w (-9223372036854775808) C wd861 dX11_waits_28 ?_
        exact r_lret C dX11_waits_31 ⟨_, rfl, hw⟩
def jX11_drawn_100 (a0 : Nat) (x2 : Int32) (x3 : Int32) (x4 : Int32) (x5 : Int32) (x6 : Int32) (x7 : Int32) (x8 : Int32) (x9 : Int32) (h : Hp) (K43 : Int32 → Int32 → Int32 → Hp → Prop) (K55 : Int32 → Int32 → Int32 → Int32 → Hp → Prop) (Q : Int32 → Hp → Prop) : Prop :=
  if x8 < x4 then (∀ v1 : Int32, v1 = x9 + (1 : Int32) → (K55 x5 x6 x8 v1 h)) else (∀ v2 : Int32, v2 = (x6 + x4) → (∀ v3 : Int32, v3 = x9 + (1 : Int32) → (K55 x5 v2 (0 : Int32) v3 h)))
set_option maxRecDepth 20000 in
theorem tX11_drawn_100 {G : GG} {X : XX} {a0 : Nat} {x2 : Int32} {x3 : Int32} {x4 : Int32} {x5 : Int32} {x6 : Int32} {x7 : Int32} {x8 : Int32} {x9 : Int32} {h : Hp}  {K43 : Int32 → Int32 → Int32 → Hp → Prop} {K55 : Int32 → Int32 → Int32 → Int32 → Hp → Prop} {Q : Int32 → Hp → Prop} (C : Cx G RX11 cX11_drawn 10 (some .int) 3 0 0 X) (k0 : kd a0 = 11) (hK43 : ∀ (y5 : Int32) (y6 : Int32) (y7 : Int32) (h' : Hp), K43 y5 y6 y7 h' → R0 G X 0 0 (ZM G (fun r h' => ∃ v, r = some (.int v) ∧ Q v h') X) 43 [some (.ref (G.1 a0)), none, some (.int x2), some (.int x3), some (.int x4), some (.int y5), some (.int y6), some (.int y7), none, none] [] h') (hK55 : ∀ (y5 : Int32) (y6 : Int32) (y8 : Int32) (y9 : Int32) (h' : Hp), K55 y5 y6 y8 y9 h' → R0 G X 0 0 (ZM G (fun r h' => ∃ v, r = some (.int v) ∧ Q v h') X) 55 [some (.ref (G.1 a0)), none, some (.int x2), some (.int x3), some (.int x4), some (.int y5), some (.int y6), some (.int x7), some (.int y8), some (.int y9)] [] h') (hw : jX11_drawn_100 a0 x2 x3 x4 x5 x6 x7 x8 x9 h K43 K55 Q) : R0 G X 0 0 (ZM G (fun r h' => ∃ v, r = some (.int v) ∧ Q v h') X) 100 [some (.ref (G.1 a0)), none, some (.int x2), some (.int x3), some (.int x4), some (.int x5), some (.int x6), some (.int x7), some (.int x8), some (.int x9)] [] h := by
  unfold jX11_drawn_100 at hw
  refine r_iload C dX11_drawn_100 rfl ?_
  refine r_iload C dX11_drawn_102 rfl ?_
  refine r_icmp_lt 117 C dX11_drawn_104 (by decide) (fun hc => ?_) (fun hc => ?_)
  · replace hw := it_t hc hw
    obtain ⟨v1, ev1⟩ : ∃ v : Int32, v = x9 + (1 : Int32) := ⟨_, rfl⟩
    replace hw := hw v1 ev1
    refine r_iinc v1 [some (.ref (G.1 a0)), none, some (.int x2), some (.int x3), some (.int x4), some (.int x5), some (.int x6), some (.int x7), some (.int x8), some (.int v1)] C dX11_drawn_117 rfl (by rw [ev1]; rfl) rfl rfl ?_
    refine r_goto 55 C dX11_drawn_120 (by decide) ?_
    exact hK55 _ _ _ _ _ hw
  · replace hw := it_f hc hw
    refine r_iload C dX11_drawn_107 rfl ?_
    refine r_iload C dX11_drawn_109 rfl ?_
    refine r_iadd C dX11_drawn_111 ?_
    refine r_topi (fun v2 ev2 => ?_)
    replace hw := hw v2 ev2
    refine r_istore [some (.ref (G.1 a0)), none, some (.int x2), some (.int x3), some (.int x4), some (.int x5), some (.int v2), some (.int x7), some (.int x8), some (.int x9)] C dX11_drawn_112 (Nat.le_of_ble_eq_true rfl) rfl rfl ?_
    refine r_iconst (0) C dX11_drawn_114 (by decide) ?_
    refine r_istore [some (.ref (G.1 a0)), none, some (.int x2), some (.int x3), some (.int x4), some (.int x5), some (.int v2), some (.int x7), some (.int (0 : Int32)), some (.int x9)] C dX11_drawn_115 (Nat.le_of_ble_eq_true rfl) rfl rfl ?_
    obtain ⟨v3, ev3⟩ : ∃ v : Int32, v = x9 + (1 : Int32) := ⟨_, rfl⟩
    replace hw := hw v3 ev3
    refine r_iinc v3 [some (.ref (G.1 a0)), none, some (.int x2), some (.int x3), some (.int x4), some (.int x5), some (.int v2), some (.int x7), some (.int (0 : Int32)), some (.int v3)] C dX11_drawn_117 rfl (by rw [ev3]; rfl) rfl rfl ?_
    refine r_goto 55 C dX11_drawn_120 (by decide) ?_
    exact hK55 _ _ _ _ _ hw
def fX11_drawn_55 (a0 : Nat) (x2 : Int32) (x3 : Int32) (x4 : Int32) (x7 : Int32) (K43 : Int32 → Int32 → Int32 → Hp → Prop) (Q : Int32 → Hp → Prop) (K55 : Int32 → Int32 → Int32 → Int32 → Hp → Prop) (x5 : Int32) (x6 : Int32) (x8 : Int32) (x9 : Int32) (h : Hp) : Prop :=
  if (60 : Int32) ≤ x9 then (∀ v1 : Int32, v1 = x7 + (1 : Int32) → (K43 x5 x6 v1 h)) else (∀ v2 : Int32, v2 = ((x5 * (1103515245 : Int32)) + (12345 : Int32)) → (wX6_chance (rf a0 4) x3 x8 x9 h (fun v3 h4 => if v3 ≤ (rm (ushr v2 (8 : Int32)) (12 : Int32)) then (jX11_drawn_100 a0 x2 x3 x4 v2 x6 x7 x8 x9 h4 K43 K55 Q) else (∀ v5 : Int32, v5 = x8 + (1 : Int32) → (jX11_drawn_100 a0 x2 x3 x4 v2 x6 x7 v5 x9 h4 K43 K55 Q)))))
def eX11_drawn_55 (a0 : Nat) (x2 : Int32) (x3 : Int32) (x4 : Int32) (x7 : Int32) (K43 : Int32 → Int32 → Int32 → Hp → Prop) (Q : Int32 → Hp → Prop) (x5 : Int32) (x6 : Int32) (x8 : Int32) (x9 : Int32) (h : Hp) : Prop := ∃ N, lpN (fun (K : Int32 × Int32 × Int32 × Int32 × Hp → Prop) (s : Int32 × Int32 × Int32 × Int32 × Hp) => fX11_drawn_55 a0 x2 x3 x4 x7 K43 Q (fun x5 x6 x8 x9 h => K (x5, x6, x8, x9, h)) s.1 s.2.1 s.2.2.1 s.2.2.2.1 s.2.2.2.2) N (x5, x6, x8, x9, h)
theorem iX11_drawn_55 {a0 : Nat} {x2 : Int32} {x3 : Int32} {x4 : Int32} {x7 : Int32} {K43 : Int32 → Int32 → Int32 → Hp → Prop} {Q : Int32 → Hp → Prop} (I : Int32 → Int32 → Int32 → Int32 → Hp → Prop) (μ : Int32 → Int32 → Int32 → Int32 → Hp → Nat) (hs : ∀ (x5 : Int32) (x6 : Int32) (x8 : Int32) (x9 : Int32) (h : Hp), I x5 x6 x8 x9 h → ∀ K : Int32 → Int32 → Int32 → Int32 → Hp → Prop, (∀ (x5' : Int32) (x6' : Int32) (x8' : Int32) (x9' : Int32) (h' : Hp), I x5' x6' x8' x9' h' → μ x5' x6' x8' x9' h' < μ x5 x6 x8 x9 h → K x5' x6' x8' x9' h') → fX11_drawn_55 a0 x2 x3 x4 x7 K43 Q K x5 x6 x8 x9 h) : ∀ (x5 : Int32) (x6 : Int32) (x8 : Int32) (x9 : Int32) (h : Hp), I x5 x6 x8 x9 h → eX11_drawn_55 a0 x2 x3 x4 x7 K43 Q x5 x6 x8 x9 h := fun x5 x6 x8 x9 h hI => lp_ind (fun s => I s.1 s.2.1 s.2.2.1 s.2.2.2.1 s.2.2.2.2) (fun s => μ s.1 s.2.1 s.2.2.1 s.2.2.2.1 s.2.2.2.2) (fun s hs' K hK => hs s.1 s.2.1 s.2.2.1 s.2.2.2.1 s.2.2.2.2 hs' _ (fun x5' x6' x8' x9' h' h1 h2 => hK (x5', x6', x8', x9', h') h1 h2)) (x5, x6, x8, x9, h) hI
set_option maxRecDepth 20000 in
theorem tX11_drawn_55 {G : GG} {X : XX} {a0 : Nat} {x2 : Int32} {x3 : Int32} {x4 : Int32} {x5 : Int32} {x6 : Int32} {x7 : Int32} {x8 : Int32} {x9 : Int32} {h : Hp}  {K43 : Int32 → Int32 → Int32 → Hp → Prop} {Q : Int32 → Hp → Prop} (C : Cx G RX11 cX11_drawn 10 (some .int) 3 0 0 X) (k0 : kd a0 = 11) (hK43 : ∀ (y5 : Int32) (y6 : Int32) (y7 : Int32) (h' : Hp), K43 y5 y6 y7 h' → R0 G X 0 0 (ZM G (fun r h' => ∃ v, r = some (.int v) ∧ Q v h') X) 43 [some (.ref (G.1 a0)), none, some (.int x2), some (.int x3), some (.int x4), some (.int y5), some (.int y6), some (.int y7), none, none] [] h') (hw : eX11_drawn_55 a0 x2 x3 x4 x7 K43 Q x5 x6 x8 x9 h) : R0 G X 0 0 (ZM G (fun r h' => ∃ v, r = some (.int v) ∧ Q v h') X) 55 [some (.ref (G.1 a0)), none, some (.int x2), some (.int x3), some (.int x4), some (.int x5), some (.int x6), some (.int x7), some (.int x8), some (.int x9)] [] h := by
  obtain ⟨N, hw⟩ := hw
  induction N generalizing x5 x6 x8 x9 h with
  | zero => exact hw.elim
  | succ N ih =>
    obtain ⟨K55, eK⟩ : ∃ K : Int32 → Int32 → Int32 → Int32 → Hp → Prop, K = (fun x5 x6 x8 x9 h => lpN (fun (K : Int32 × Int32 × Int32 × Int32 × Hp → Prop) (s : Int32 × Int32 × Int32 × Int32 × Hp) => fX11_drawn_55 a0 x2 x3 x4 x7 K43 Q (fun x5 x6 x8 x9 h => K (x5, x6, x8, x9, h)) s.1 s.2.1 s.2.2.1 s.2.2.2.1 s.2.2.2.2) N (x5, x6, x8, x9, h)) := ⟨_, rfl⟩
    have hw : fX11_drawn_55 a0 x2 x3 x4 x7 K43 Q (fun x5 x6 x8 x9 h => lpN (fun (K : Int32 × Int32 × Int32 × Int32 × Hp → Prop) (s : Int32 × Int32 × Int32 × Int32 × Hp) => fX11_drawn_55 a0 x2 x3 x4 x7 K43 Q (fun x5 x6 x8 x9 h => K (x5, x6, x8, x9, h)) s.1 s.2.1 s.2.2.1 s.2.2.2.1 s.2.2.2.2) N (x5, x6, x8, x9, h)) x5 x6 x8 x9 h := hw
    have hK55 : ∀ (x5 : Int32) (x6 : Int32) (x8 : Int32) (x9 : Int32) (h : Hp), K55 x5 x6 x8 x9 h → R0 G X 0 0 (ZM G (fun r h' => ∃ v, r = some (.int v) ∧ Q v h') X) 55 [some (.ref (G.1 a0)), none, some (.int x2), some (.int x3), some (.int x4), some (.int x5), some (.int x6), some (.int x7), some (.int x8), some (.int x9)] [] h := fun x5 x6 x8 x9 h q => ih (by rw [eK] at q; exact q)
    rw [← eK] at hw
    clear eK ih
    unfold fX11_drawn_55 at hw
    refine r_iload C dX11_drawn_55 rfl ?_
    refine r_bipush (60) C dX11_drawn_57 (by decide) ?_
    refine r_icmp_ge 123 C dX11_drawn_59 (by decide) (fun hc => ?_) (fun hc => ?_)
    · replace hw := it_t hc hw
      obtain ⟨v1, ev1⟩ : ∃ v : Int32, v = x7 + (1 : Int32) := ⟨_, rfl⟩
      replace hw := hw v1 ev1
      refine r_iinc v1 [some (.ref (G.1 a0)), none, some (.int x2), some (.int x3), some (.int x4), some (.int x5), some (.int x6), some (.int v1), some (.int x8), some (.int x9)] C dX11_drawn_123 rfl (by rw [ev1]; rfl) rfl rfl ?_
      refine r_goto 43 C dX11_drawn_126 (by decide) ?_
      refine r_weak [some (.ref (G.1 a0)), none, some (.int x2), some (.int x3), some (.int x4), some (.int x5), some (.int x6), some (.int v1), none, none] (lw_k (lw_k (lw_k (lw_k (lw_k (lw_k (lw_k (lw_k (lw_d (lw_d (lw_n))))))))))) ?_
      exact hK43 _ _ _ _ hw
    · replace hw := it_f hc hw
      refine r_iload C dX11_drawn_62 rfl ?_
      refine r_ldc_w (1103515245) C wd878 dX11_drawn_64 ?_
      refine r_imul C dX11_drawn_67 ?_
      refine r_sipush (12345) C dX11_drawn_68 (by decide) ?_
      refine r_iadd C dX11_drawn_71 ?_
      refine r_topi (fun v2 ev2 => ?_)
      replace hw := hw v2 ev2
      refine r_istore [some (.ref (G.1 a0)), none, some (.int x2), some (.int x3), some (.int x4), some (.int v2), some (.int x6), some (.int x7), some (.int x8), some (.int x9)] C dX11_drawn_72 (Nat.le_of_ble_eq_true rfl) rfl rfl ?_
      refine r_iload C dX11_drawn_74 rfl ?_
      refine r_bipush (8) C dX11_drawn_76 (by decide) ?_
      refine r_iushr C dX11_drawn_78 ?_
      refine r_bipush (12) C dX11_drawn_79 (by decide) ?_
      refine r_irem C dX11_drawn_81 (by decide) ?_
      refine r_aload_n C dX11_drawn_82 rfl ?_
      refine gX11_32 C (k0) dX11_drawn_83 ?_
      refine r_iload_n C dX11_drawn_86 rfl ?_
      refine r_iload C dX11_drawn_87 rfl ?_
      refine r_iload C dX11_drawn_89 rfl ?_
      refine kX11_194 C (kr11_4 (k0)) (sX6_chance (kr11_4 (k0)) hw) dX11_drawn_91 (Nat.le_of_ble_eq_true rfl) rfl (Nat.le_of_ble_eq_true rfl) (fun v3 h4 hw => ?_)
      refine r_icmp_ge 100 C dX11_drawn_94 (by decide) (fun hc => ?_) (fun hc => ?_)
      · replace hw := it_t hc hw
        exact tX11_drawn_100 C (k0) hK43 hK55 hw
      · replace hw := it_f hc hw
        obtain ⟨v5, ev5⟩ : ∃ v : Int32, v = x8 + (1 : Int32) := ⟨_, rfl⟩
        replace hw := hw v5 ev5
        refine r_iinc v5 [some (.ref (G.1 a0)), none, some (.int x2), some (.int x3), some (.int x4), some (.int v2), some (.int x6), some (.int x7), some (.int v5), some (.int x9)] C dX11_drawn_97 rfl (by rw [ev5]; rfl) rfl rfl ?_
        exact tX11_drawn_100 C (k0) hK43 hK55 hw
def fX11_drawn_43 (a0 : Nat) (x2 : Int32) (x3 : Int32) (x4 : Int32) (Q : Int32 → Hp → Prop) (K43 : Int32 → Int32 → Int32 → Hp → Prop) (x5 : Int32) (x6 : Int32) (x7 : Int32) (h : Hp) : Prop :=
  if x2 ≤ x7 then (Q x6 h) else (eX11_drawn_55 a0 x2 x3 x4 x7 K43 Q x5 x6 (0 : Int32) (0 : Int32) h)
def eX11_drawn_43 (a0 : Nat) (x2 : Int32) (x3 : Int32) (x4 : Int32) (Q : Int32 → Hp → Prop) (x5 : Int32) (x6 : Int32) (x7 : Int32) (h : Hp) : Prop := ∃ N, lpN (fun (K : Int32 × Int32 × Int32 × Hp → Prop) (s : Int32 × Int32 × Int32 × Hp) => fX11_drawn_43 a0 x2 x3 x4 Q (fun x5 x6 x7 h => K (x5, x6, x7, h)) s.1 s.2.1 s.2.2.1 s.2.2.2) N (x5, x6, x7, h)
theorem iX11_drawn_43 {a0 : Nat} {x2 : Int32} {x3 : Int32} {x4 : Int32} {Q : Int32 → Hp → Prop} (I : Int32 → Int32 → Int32 → Hp → Prop) (μ : Int32 → Int32 → Int32 → Hp → Nat) (hs : ∀ (x5 : Int32) (x6 : Int32) (x7 : Int32) (h : Hp), I x5 x6 x7 h → ∀ K : Int32 → Int32 → Int32 → Hp → Prop, (∀ (x5' : Int32) (x6' : Int32) (x7' : Int32) (h' : Hp), I x5' x6' x7' h' → μ x5' x6' x7' h' < μ x5 x6 x7 h → K x5' x6' x7' h') → fX11_drawn_43 a0 x2 x3 x4 Q K x5 x6 x7 h) : ∀ (x5 : Int32) (x6 : Int32) (x7 : Int32) (h : Hp), I x5 x6 x7 h → eX11_drawn_43 a0 x2 x3 x4 Q x5 x6 x7 h := fun x5 x6 x7 h hI => lp_ind (fun s => I s.1 s.2.1 s.2.2.1 s.2.2.2) (fun s => μ s.1 s.2.1 s.2.2.1 s.2.2.2) (fun s hs' K hK => hs s.1 s.2.1 s.2.2.1 s.2.2.2 hs' _ (fun x5' x6' x7' h' h1 h2 => hK (x5', x6', x7', h') h1 h2)) (x5, x6, x7, h) hI
set_option maxRecDepth 20000 in
theorem tX11_drawn_43 {G : GG} {X : XX} {a0 : Nat} {x2 : Int32} {x3 : Int32} {x4 : Int32} {x5 : Int32} {x6 : Int32} {x7 : Int32} {h : Hp}  {Q : Int32 → Hp → Prop} (C : Cx G RX11 cX11_drawn 10 (some .int) 3 0 0 X) (k0 : kd a0 = 11) (hw : eX11_drawn_43 a0 x2 x3 x4 Q x5 x6 x7 h) : R0 G X 0 0 (ZM G (fun r h' => ∃ v, r = some (.int v) ∧ Q v h') X) 43 [some (.ref (G.1 a0)), none, some (.int x2), some (.int x3), some (.int x4), some (.int x5), some (.int x6), some (.int x7), none, none] [] h := by
  obtain ⟨N, hw⟩ := hw
  induction N generalizing x5 x6 x7 h with
  | zero => exact hw.elim
  | succ N ih =>
    obtain ⟨K43, eK⟩ : ∃ K : Int32 → Int32 → Int32 → Hp → Prop, K = (fun x5 x6 x7 h => lpN (fun (K : Int32 × Int32 × Int32 × Hp → Prop) (s : Int32 × Int32 × Int32 × Hp) => fX11_drawn_43 a0 x2 x3 x4 Q (fun x5 x6 x7 h => K (x5, x6, x7, h)) s.1 s.2.1 s.2.2.1 s.2.2.2) N (x5, x6, x7, h)) := ⟨_, rfl⟩
    have hw : fX11_drawn_43 a0 x2 x3 x4 Q (fun x5 x6 x7 h => lpN (fun (K : Int32 × Int32 × Int32 × Hp → Prop) (s : Int32 × Int32 × Int32 × Hp) => fX11_drawn_43 a0 x2 x3 x4 Q (fun x5 x6 x7 h => K (x5, x6, x7, h)) s.1 s.2.1 s.2.2.1 s.2.2.2) N (x5, x6, x7, h)) x5 x6 x7 h := hw
    have hK43 : ∀ (x5 : Int32) (x6 : Int32) (x7 : Int32) (h : Hp), K43 x5 x6 x7 h → R0 G X 0 0 (ZM G (fun r h' => ∃ v, r = some (.int v) ∧ Q v h') X) 43 [some (.ref (G.1 a0)), none, some (.int x2), some (.int x3), some (.int x4), some (.int x5), some (.int x6), some (.int x7), none, none] [] h := fun x5 x6 x7 h q => ih (by rw [eK] at q; exact q)
    rw [← eK] at hw
    clear eK ih
    unfold fX11_drawn_43 at hw
    refine r_iload C dX11_drawn_43 rfl ?_
    refine r_iload_n C dX11_drawn_45 rfl ?_
    refine r_icmp_ge 129 C dX11_drawn_46 (by decide) (fun hc => ?_) (fun hc => ?_)
    · replace hw := it_t hc hw
      refine r_iload C dX11_drawn_129 rfl ?_
      exact r_iret C dX11_drawn_131 ⟨_, rfl, hw⟩
    · replace hw := it_f hc hw
      refine r_iconst (0) C dX11_drawn_49 (by decide) ?_
      refine r_istore [some (.ref (G.1 a0)), none, some (.int x2), some (.int x3), some (.int x4), some (.int x5), some (.int x6), some (.int x7), some (.int (0 : Int32)), none] C dX11_drawn_50 (Nat.le_of_ble_eq_true rfl) rfl rfl ?_
      refine r_iconst (0) C dX11_drawn_52 (by decide) ?_
      refine r_istore [some (.ref (G.1 a0)), none, some (.int x2), some (.int x3), some (.int x4), some (.int x5), some (.int x6), some (.int x7), some (.int (0 : Int32)), some (.int (0 : Int32))] C dX11_drawn_53 (Nat.le_of_ble_eq_true rfl) rfl rfl ?_
      exact tX11_drawn_55 C (k0) hK43 hw
def wX11_drawn (a0 : Nat) (x1 : Int32) (x2 : Int32) (x3 : Int32) (h : Hp) (Q : Int32 → Hp → Prop) : Prop :=
  if x2 < (1 : Int32) then (Q (-1 : Int32) h) else (if (30 : Int32) < x2 then (Q (-1 : Int32) h) else (wX4_has (rf a0 0) x3 h (fun v1 => if v1 = 0 then (Q (-1 : Int32) h) else (wX4_numberOf (rf a0 0) x3 h (fun v2 => eX11_drawn_43 a0 x2 x3 v2 Q x1 (0 : Int32) (0 : Int32) h)))))
set_option maxRecDepth 20000 in
theorem sX11_drawn {G : GG} {a0 : Nat} {x1 : Int32} {x2 : Int32} {x3 : Int32} {h : Hp} {Q : Int32 → Hp → Prop} (k0 : kd a0 = 11) (hw : wX11_drawn a0 x1 x2 x3 h Q) : CI G 3 yX11_drawn cX11_drawn 10 (some .int) [.ref (G.1 a0), .int x1, .int x2, .int x3] h Q := by
  refine CO_of [some (.ref (G.1 a0)), some (.int x1), some (.int x2), some (.int x3), none, none, none, none, none, none] (by decide) (Nat.le_of_ble_eq_true rfl) rfl (fun X C => ?_)
  unfold wX11_drawn at hw
  refine r_iload_n C dX11_drawn_0 rfl ?_
  refine r_iconst (1) C dX11_drawn_1 (by decide) ?_
  refine r_icmp_lt 22 C dX11_drawn_2 (by decide) (fun hc => ?_) (fun hc => ?_)
  · replace hw := it_t hc hw
    refine r_iconst (-1) C dX11_drawn_22 (by decide) ?_
    exact r_iret C dX11_drawn_23 ⟨_, rfl, hw⟩
  · replace hw := it_f hc hw
    refine r_iload_n C dX11_drawn_5 rfl ?_
    refine r_bipush (30) C dX11_drawn_6 (by decide) ?_
    refine r_icmp_gt 22 C dX11_drawn_8 (by decide) (fun hc => ?_) (fun hc => ?_)
    · replace hw := it_t hc hw
      refine r_iconst (-1) C dX11_drawn_22 (by decide) ?_
      exact r_iret C dX11_drawn_23 ⟨_, rfl, hw⟩
    · replace hw := it_f hc hw
      refine r_aload_n C dX11_drawn_11 rfl ?_
      refine gX11_10 C (k0) dX11_drawn_12 ?_
      refine r_iload_n C dX11_drawn_15 rfl ?_
      refine kX11_143 C (kr11_0 (k0)) (sX4_has (kr11_0 (k0)) hw) dX11_drawn_16 (Nat.le_of_ble_eq_true rfl) rfl (Nat.le_of_ble_eq_true rfl) (fun v1 hw => ?_)
      refine r_if_ne 24 C dX11_drawn_19 (by decide) (fun hc => ?_) (fun hc => ?_)
      · replace hw := it_f hc hw
        refine r_aload_n C dX11_drawn_24 rfl ?_
        refine gX11_10 C (k0) dX11_drawn_25 ?_
        refine r_iload_n C dX11_drawn_28 rfl ?_
        refine kX11_205 C (kr11_0 (k0)) (sX4_numberOf (kr11_0 (k0)) hw) dX11_drawn_29 (Nat.le_of_ble_eq_true rfl) rfl (Nat.le_of_ble_eq_true rfl) (fun v2 hw => ?_)
        refine r_istore [some (.ref (G.1 a0)), some (.int x1), some (.int x2), some (.int x3), some (.int v2), none, none, none, none, none] C dX11_drawn_32 (Nat.le_of_ble_eq_true rfl) rfl rfl ?_
        refine r_iload_n C dX11_drawn_34 rfl ?_
        refine r_istore [some (.ref (G.1 a0)), some (.int x1), some (.int x2), some (.int x3), some (.int v2), some (.int x1), none, none, none, none] C dX11_drawn_35 (Nat.le_of_ble_eq_true rfl) rfl rfl ?_
        refine r_iconst (0) C dX11_drawn_37 (by decide) ?_
        refine r_istore [some (.ref (G.1 a0)), some (.int x1), some (.int x2), some (.int x3), some (.int v2), some (.int x1), some (.int (0 : Int32)), none, none, none] C dX11_drawn_38 (Nat.le_of_ble_eq_true rfl) rfl rfl ?_
        refine r_iconst (0) C dX11_drawn_40 (by decide) ?_
        refine r_istore [some (.ref (G.1 a0)), some (.int x1), some (.int x2), some (.int x3), some (.int v2), some (.int x1), some (.int (0 : Int32)), some (.int (0 : Int32)), none, none] C dX11_drawn_41 (Nat.le_of_ble_eq_true rfl) rfl rfl ?_
        refine r_weak [some (.ref (G.1 a0)), none, some (.int x2), some (.int x3), some (.int v2), some (.int x1), some (.int (0 : Int32)), some (.int (0 : Int32)), none, none] (lw_k (lw_d (lw_k (lw_k (lw_k (lw_k (lw_k (lw_k (lw_k (lw_k (lw_n))))))))))) ?_
        exact tX11_drawn_43 C (k0) hw
      · replace hw := it_t hc hw
        refine r_iconst (-1) C dX11_drawn_22 (by decide) ?_
        exact r_iret C dX11_drawn_23 ⟨_, rfl, hw⟩
