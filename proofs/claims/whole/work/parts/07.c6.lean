def wX11_refusalOfBook (a0 : Nat) (x1 : Int32) (x2 : Int32) (h : Hp) (Q : Int32 → Prop) : Prop :=
  wX11_isShelf x1 h (fun v1 => if v1 = 0 then (Q (-1 : Int32)) else (if x2 < 0 then (Q (-1 : Int32)) else (if x2 ≤ (40 : Int32) then (vp_in x1 (ln (rf a0 13)) ∧ (wX10_isBook (rf (rf a0 13) x1.toNatClampNeg) h (fun v3 => if v3 = 0 then (vp_in x1 (ln (rf a0 13)) ∧ (wX10_isEmpty (rf (rf a0 13) x1.toNatClampNeg) h (fun v5 => if v5 = 0 then (Q (-12 : Int32)) else (Q (-11 : Int32))))) else (Q (0 : Int32))))) else (Q (-1 : Int32)))))
set_option maxRecDepth 20000 in
theorem sX11_refusalOfBook {G : GG} {a0 : Nat} {x1 : Int32} {x2 : Int32} {h : Hp} {Q : Int32 → Prop} (k0 : kd a0 = 11) (hw : wX11_refusalOfBook a0 x1 x2 h Q) : PI G 2 yX11_refusalOfBook cX11_refusalOfBook 3 (some .int) [.ref (G.1 a0), .int x1, .int x2] h Q := by
  refine CO_of [some (.ref (G.1 a0)), some (.int x1), some (.int x2)] (by decide) (Nat.le_of_ble_eq_true rfl) rfl (fun X C => ?_)
  unfold wX11_refusalOfBook at hw
  refine r_iload_n C dX11_refusalOfBook_0 rfl ?_
  refine kX11_102 C (sX11_isShelf hw) dX11_refusalOfBook_1 (Nat.le_of_ble_eq_true rfl) rfl (Nat.le_of_ble_eq_true rfl) (fun v1 hw => ?_)
  refine r_if_eq 17 C dX11_refusalOfBook_4 (by decide) (fun hc => ?_) (fun hc => ?_)
  · replace hw := it_t hc hw
    refine r_iconst (-1) C dX11_refusalOfBook_17 (by decide) ?_
    exact r_iret C dX11_refusalOfBook_18 ⟨_, rfl, rfl, hw⟩
  · replace hw := it_f hc hw
    refine r_iload_n C dX11_refusalOfBook_7 rfl ?_
    refine r_if_lt 17 C dX11_refusalOfBook_8 (by decide) (fun hc => ?_) (fun hc => ?_)
    · replace hw := it_t hc hw
      refine r_iconst (-1) C dX11_refusalOfBook_17 (by decide) ?_
      exact r_iret C dX11_refusalOfBook_18 ⟨_, rfl, rfl, hw⟩
    · replace hw := it_f hc hw
      refine r_iload_n C dX11_refusalOfBook_11 rfl ?_
      refine r_bipush (40) C dX11_refusalOfBook_12 (by decide) ?_
      refine r_icmp_le 19 C dX11_refusalOfBook_14 (by decide) (fun hc => ?_) (fun hc => ?_)
      · replace hw := it_t hc hw
        refine r_aload_n C dX11_refusalOfBook_19 rfl ?_
        refine gX11_82 C (k0) dX11_refusalOfBook_20 ?_
        refine r_iload_n C dX11_refusalOfBook_23 rfl ?_
        obtain ⟨hi2, hw⟩ := hw
        refine r_aald C (kr11_13 (k0)) hi2 dX11_refusalOfBook_24 ?_
        refine kX11_109 C (kr25 (kr11_13 (k0)) hi2) (sX10_isBook (kr25 (kr11_13 (k0)) hi2) hw) dX11_refusalOfBook_25 (Nat.le_of_ble_eq_true rfl) rfl (Nat.le_of_ble_eq_true rfl) (fun v3 hw => ?_)
        refine r_if_eq 33 C dX11_refusalOfBook_28 (by decide) (fun hc => ?_) (fun hc => ?_)
        · replace hw := it_t hc hw
          refine r_aload_n C dX11_refusalOfBook_33 rfl ?_
          refine gX11_82 C (k0) dX11_refusalOfBook_34 ?_
          refine r_iload_n C dX11_refusalOfBook_37 rfl ?_
          obtain ⟨hi4, hw⟩ := hw
          refine r_aald C (kr11_13 (k0)) hi4 dX11_refusalOfBook_38 ?_
          refine kX11_105 C (kr25 (kr11_13 (k0)) hi4) (sX10_isEmpty (kr25 (kr11_13 (k0)) hi4) hw) dX11_refusalOfBook_39 (Nat.le_of_ble_eq_true rfl) rfl (Nat.le_of_ble_eq_true rfl) (fun v5 hw => ?_)
          refine r_if_eq 50 C dX11_refusalOfBook_42 (by decide) (fun hc => ?_) (fun hc => ?_)
          · replace hw := it_t hc hw
            refine r_bipush (-12) C dX11_refusalOfBook_50 (by decide) ?_
            exact r_iret C dX11_refusalOfBook_52 ⟨_, rfl, rfl, hw⟩
          · replace hw := it_f hc hw
            refine r_bipush (-11) C dX11_refusalOfBook_45 (by decide) ?_
            refine r_goto 52 C dX11_refusalOfBook_47 (by decide) ?_
            exact r_iret C dX11_refusalOfBook_52 ⟨_, rfl, rfl, hw⟩
        · replace hw := it_f hc hw
          refine r_iconst (0) C dX11_refusalOfBook_31 (by decide) ?_
          exact r_iret C dX11_refusalOfBook_32 ⟨_, rfl, rfl, hw⟩
      · replace hw := it_f hc hw
        refine r_iconst (-1) C dX11_refusalOfBook_17 (by decide) ?_
        exact r_iret C dX11_refusalOfBook_18 ⟨_, rfl, rfl, hw⟩
def jX11_readBook_71 (a0 : Nat) (a1 : Nat) (x2 : Int32) (x3 : Int32) (x4 : Int32) (x5 : Int32) (x6 : Int32) (x7 : Int32) (s0 : Int32) (h : Hp) (K6 : Int32 → Int32 → Prop) (Q : Int32 → Prop) : Prop :=
  wX4_has (rf a0 0) x7 h (fun v1 => if v1 = 0 then (Q ((-1 : Int32) - x6)) else (wX4_numberOf (rf a0 0) x7 h (fun v2 => if (ab s0) = v2 then (∀ v3 : Int32, v3 = (x4 - s0) → (if v3 < 0 then (Q ((-1 : Int32) - x6)) else (if v3 ≤ x2 then (∀ v4 : Int32, v4 = x5 + (2 : Int32) → (K6 v3 v4)) else (Q ((-1 : Int32) - x6))))) else (Q ((-1 : Int32) - x6)))))
set_option maxRecDepth 20000 in
theorem tX11_readBook_71 {G : GG} {X : XX} {a0 : Nat} {a1 : Nat} {x2 : Int32} {x3 : Int32} {x4 : Int32} {x5 : Int32} {x6 : Int32} {x7 : Int32} {s0 : Int32} {h : Hp}  {K6 : Int32 → Int32 → Prop} {Q : Int32 → Prop} (C : Cx G RX11 cX11_readBook 10 (some .int) 2 0 0 X) (k0 : kd a0 = 11) (k1 : kd a1 = 10) (hK6 : ∀ (y4 : Int32) (y5 : Int32), K6 y4 y5 → R0 G X 0 0 (ZM G (fun r h' => ∃ v, r = some (.int v) ∧ h' = h ∧ Q v) X) 6 [some (.ref (G.1 a0)), some (.ref (G.1 a1)), some (.int x2), some (.int x3), some (.int y4), some (.int y5), none, none, none, none] [] h) (hw : jX11_readBook_71 a0 a1 x2 x3 x4 x5 x6 x7 s0 h K6 Q) : R0 G X 0 0 (ZM G (fun r h' => ∃ v, r = some (.int v) ∧ h' = h ∧ Q v) X) 71 [some (.ref (G.1 a0)), some (.ref (G.1 a1)), some (.int x2), some (.int x3), some (.int x4), some (.int x5), some (.int x6), some (.int x7), none, none] [.int s0] h := by
  unfold jX11_readBook_71 at hw
  refine r_istore [some (.ref (G.1 a0)), some (.ref (G.1 a1)), some (.int x2), some (.int x3), some (.int x4), some (.int x5), some (.int x6), some (.int x7), none, some (.int s0)] C dX11_readBook_71 (Nat.le_of_ble_eq_true rfl) rfl rfl ?_
  refine r_aload_n C dX11_readBook_73 rfl ?_
  refine gX11_10 C (k0) dX11_readBook_74 ?_
  refine r_iload C dX11_readBook_77 rfl ?_
  refine kX11_143 C (kr11_0 (k0)) (sX4_has (kr11_0 (k0)) hw) dX11_readBook_79 (Nat.le_of_ble_eq_true rfl) rfl (Nat.le_of_ble_eq_true rfl) (fun v1 hw => ?_)
  refine r_if_eq 102 C dX11_readBook_82 (by decide) (fun hc => ?_) (fun hc => ?_)
  · replace hw := it_t hc hw
    refine r_iconst (-1) C dX11_readBook_102 (by decide) ?_
    refine r_iload C dX11_readBook_103 rfl ?_
    refine r_isub C dX11_readBook_105 ?_
    exact r_iret C dX11_readBook_106 ⟨_, rfl, rfl, hw⟩
  · replace hw := it_f hc hw
    refine r_iload C dX11_readBook_85 rfl ?_
    refine r_mabs C ⟨wd891, wd892, wd109, wd893⟩ (Nat.le_of_ble_eq_true rfl) rfl (Nat.le_of_ble_eq_true rfl) dX11_readBook_87 ?_
    refine r_aload_n C dX11_readBook_90 rfl ?_
    refine gX11_10 C (k0) dX11_readBook_91 ?_
    refine r_iload C dX11_readBook_94 rfl ?_
    refine kX11_205 C (kr11_0 (k0)) (sX4_numberOf (kr11_0 (k0)) hw) dX11_readBook_96 (Nat.le_of_ble_eq_true rfl) rfl (Nat.le_of_ble_eq_true rfl) (fun v2 hw => ?_)
    refine r_icmp_eq 107 C dX11_readBook_99 (by decide) (fun hc => ?_) (fun hc => ?_)
    · replace hw := it_t hc hw
      refine r_iload C dX11_readBook_107 rfl ?_
      refine r_iload C dX11_readBook_109 rfl ?_
      refine r_isub C dX11_readBook_111 ?_
      refine r_topi (fun v3 ev3 => ?_)
      replace hw := hw v3 ev3
      refine r_istore [some (.ref (G.1 a0)), some (.ref (G.1 a1)), some (.int x2), some (.int x3), some (.int v3), some (.int x5), some (.int x6), some (.int x7), none, some (.int s0)] C dX11_readBook_112 (Nat.le_of_ble_eq_true rfl) rfl rfl ?_
      refine r_iload C dX11_readBook_114 rfl ?_
      refine r_if_lt 125 C dX11_readBook_116 (by decide) (fun hc => ?_) (fun hc => ?_)
      · replace hw := it_t hc hw
        refine r_iconst (-1) C dX11_readBook_125 (by decide) ?_
        refine r_iload C dX11_readBook_126 rfl ?_
        refine r_isub C dX11_readBook_128 ?_
        exact r_iret C dX11_readBook_129 ⟨_, rfl, rfl, hw⟩
      · replace hw := it_f hc hw
        refine r_iload C dX11_readBook_119 rfl ?_
        refine r_iload_n C dX11_readBook_121 rfl ?_
        refine r_icmp_le 130 C dX11_readBook_122 (by decide) (fun hc => ?_) (fun hc => ?_)
        · replace hw := it_t hc hw
          obtain ⟨v4, ev4⟩ : ∃ v : Int32, v = x5 + (2 : Int32) := ⟨_, rfl⟩
          replace hw := hw v4 ev4
          refine r_iinc v4 [some (.ref (G.1 a0)), some (.ref (G.1 a1)), some (.int x2), some (.int x3), some (.int v3), some (.int v4), some (.int x6), some (.int x7), none, some (.int s0)] C dX11_readBook_130 rfl (by rw [ev4]; rfl) rfl rfl ?_
          refine r_goto 6 C dX11_readBook_133 (by decide) ?_
          refine r_weak [some (.ref (G.1 a0)), some (.ref (G.1 a1)), some (.int x2), some (.int x3), some (.int v3), some (.int v4), none, none, none, none] (lw_k (lw_k (lw_k (lw_k (lw_k (lw_k (lw_d (lw_d (lw_k (lw_d (lw_n))))))))))) ?_
          exact hK6 _ _ hw
        · replace hw := it_f hc hw
          refine r_iconst (-1) C dX11_readBook_125 (by decide) ?_
          refine r_iload C dX11_readBook_126 rfl ?_
          refine r_isub C dX11_readBook_128 ?_
          exact r_iret C dX11_readBook_129 ⟨_, rfl, rfl, hw⟩
    · replace hw := it_f hc hw
      refine r_iconst (-1) C dX11_readBook_102 (by decide) ?_
      refine r_iload C dX11_readBook_103 rfl ?_
      refine r_isub C dX11_readBook_105 ?_
      exact r_iret C dX11_readBook_106 ⟨_, rfl, rfl, hw⟩
def fX11_readBook_6 (a0 : Nat) (a1 : Nat) (x2 : Int32) (x3 : Int32) (h : Hp) (Q : Int32 → Prop) (K6 : Int32 → Int32 → Prop) (x4 : Int32) (x5 : Int32) : Prop :=
  if (gI h a1 3) ≤ x5 then (Q x4) else (∀ v1 : Int32, v1 = (x5 / (2 : Int32)) → (if (x5 + (1 : Int32)) < (gI h a1 3) then (wX10_at a1 x5 h (fun v2 => ∀ v3 : Int32, v3 = v2.toInt32 → (wX10_at a1 (x5 + (1 : Int32)) h (fun v4 => ∀ v5 : Int32, v5 = v4.toInt32 → (if v1 = x3 then (jX11_readBook_71 a0 a1 x2 x3 x4 x5 v1 v3 (-v5) h K6 Q) else (jX11_readBook_71 a0 a1 x2 x3 x4 x5 v1 v3 v5 h K6 Q)))))) else (Q ((-1 : Int32) - v1))))
def eX11_readBook_6 (a0 : Nat) (a1 : Nat) (x2 : Int32) (x3 : Int32) (h : Hp) (Q : Int32 → Prop) (x4 : Int32) (x5 : Int32) : Prop := ∃ N, lpN (fun (K : Int32 × Int32 → Prop) (s : Int32 × Int32) => fX11_readBook_6 a0 a1 x2 x3 h Q (fun x4 x5 => K (x4, x5)) s.1 s.2) N (x4, x5)
theorem iX11_readBook_6 {a0 : Nat} {a1 : Nat} {x2 : Int32} {x3 : Int32} {h : Hp} {Q : Int32 → Prop} (I : Int32 → Int32 → Prop) (μ : Int32 → Int32 → Nat) (hs : ∀ (x4 : Int32) (x5 : Int32), I x4 x5 → ∀ K : Int32 → Int32 → Prop, (∀ (x4' : Int32) (x5' : Int32), I x4' x5' → μ x4' x5' < μ x4 x5 → K x4' x5') → fX11_readBook_6 a0 a1 x2 x3 h Q K x4 x5) : ∀ (x4 : Int32) (x5 : Int32), I x4 x5 → eX11_readBook_6 a0 a1 x2 x3 h Q x4 x5 := fun x4 x5 hI => lp_ind (fun s => I s.1 s.2) (fun s => μ s.1 s.2) (fun s hs' K hK => hs s.1 s.2 hs' _ (fun x4' x5' h1 h2 => hK (x4', x5') h1 h2)) (x4, x5) hI
set_option maxRecDepth 20000 in
theorem tX11_readBook_6 {G : GG} {X : XX} {a0 : Nat} {a1 : Nat} {x2 : Int32} {x3 : Int32} {x4 : Int32} {x5 : Int32} {h : Hp}  {Q : Int32 → Prop} (C : Cx G RX11 cX11_readBook 10 (some .int) 2 0 0 X) (k0 : kd a0 = 11) (k1 : kd a1 = 10) (hw : eX11_readBook_6 a0 a1 x2 x3 h Q x4 x5) : R0 G X 0 0 (ZM G (fun r h' => ∃ v, r = some (.int v) ∧ h' = h ∧ Q v) X) 6 [some (.ref (G.1 a0)), some (.ref (G.1 a1)), some (.int x2), some (.int x3), some (.int x4), some (.int x5), none, none, none, none] [] h := by
  obtain ⟨N, hw⟩ := hw
  induction N generalizing x4 x5 with
  | zero => exact hw.elim
  | succ N ih =>
    obtain ⟨K6, eK⟩ : ∃ K : Int32 → Int32 → Prop, K = (fun x4 x5 => lpN (fun (K : Int32 × Int32 → Prop) (s : Int32 × Int32) => fX11_readBook_6 a0 a1 x2 x3 h Q (fun x4 x5 => K (x4, x5)) s.1 s.2) N (x4, x5)) := ⟨_, rfl⟩
    have hw : fX11_readBook_6 a0 a1 x2 x3 h Q (fun x4 x5 => lpN (fun (K : Int32 × Int32 → Prop) (s : Int32 × Int32) => fX11_readBook_6 a0 a1 x2 x3 h Q (fun x4 x5 => K (x4, x5)) s.1 s.2) N (x4, x5)) x4 x5 := hw
    have hK6 : ∀ (x4 : Int32) (x5 : Int32), K6 x4 x5 → R0 G X 0 0 (ZM G (fun r h' => ∃ v, r = some (.int v) ∧ h' = h ∧ Q v) X) 6 [some (.ref (G.1 a0)), some (.ref (G.1 a1)), some (.int x2), some (.int x3), some (.int x4), some (.int x5), none, none, none, none] [] h := fun x4 x5 q => ih (by rw [eK] at q; exact q)
    rw [← eK] at hw
    clear eK ih
    unfold fX11_readBook_6 at hw
    refine r_iload C dX11_readBook_6 rfl ?_
    refine r_aload_n C dX11_readBook_8 rfl ?_
    refine gX11_120 C (k1) dX11_readBook_9 ?_
    refine r_icmp_ge 136 C dX11_readBook_12 (by decide) (fun hc => ?_) (fun hc => ?_)
    · replace hw := it_t hc hw
      refine r_iload C dX11_readBook_136 rfl ?_
      exact r_iret C dX11_readBook_138 ⟨_, rfl, rfl, hw⟩
    · replace hw := it_f hc hw
      refine r_iload C dX11_readBook_15 rfl ?_
      refine r_iconst (2) C dX11_readBook_17 (by decide) ?_
      refine r_idiv C dX11_readBook_18 (by decide) ?_
      refine r_topi (fun v1 ev1 => ?_)
      replace hw := hw v1 ev1
      refine r_istore [some (.ref (G.1 a0)), some (.ref (G.1 a1)), some (.int x2), some (.int x3), some (.int x4), some (.int x5), some (.int v1), none, none, none] C dX11_readBook_19 (Nat.le_of_ble_eq_true rfl) rfl rfl ?_
      refine r_iload C dX11_readBook_21 rfl ?_
      refine r_iconst (1) C dX11_readBook_23 (by decide) ?_
      refine r_iadd C dX11_readBook_24 ?_
      refine r_aload_n C dX11_readBook_25 rfl ?_
      refine gX11_120 C (k1) dX11_readBook_26 ?_
      refine r_icmp_lt 37 C dX11_readBook_29 (by decide) (fun hc => ?_) (fun hc => ?_)
      · replace hw := it_t hc hw
        refine r_aload_n C dX11_readBook_37 rfl ?_
        refine r_iload C dX11_readBook_38 rfl ?_
        refine kX11_124 C (k1) (sX10_at (k1) hw) dX11_readBook_40 (Nat.le_of_ble_eq_true rfl) rfl (Nat.le_of_ble_eq_true rfl) (fun v2 hw => ?_)
        refine r_l2i C dX11_readBook_43 ?_
        refine r_topi (fun v3 ev3 => ?_)
        replace hw := hw v3 ev3
        refine r_istore [some (.ref (G.1 a0)), some (.ref (G.1 a1)), some (.int x2), some (.int x3), some (.int x4), some (.int x5), some (.int v1), some (.int v3), none, none] C dX11_readBook_44 (Nat.le_of_ble_eq_true rfl) rfl rfl ?_
        refine r_aload_n C dX11_readBook_46 rfl ?_
        refine r_iload C dX11_readBook_47 rfl ?_
        refine r_iconst (1) C dX11_readBook_49 (by decide) ?_
        refine r_iadd C dX11_readBook_50 ?_
        refine kX11_124 C (k1) (sX10_at (k1) hw) dX11_readBook_51 (Nat.le_of_ble_eq_true rfl) rfl (Nat.le_of_ble_eq_true rfl) (fun v4 hw => ?_)
        refine r_l2i C dX11_readBook_54 ?_
        refine r_topi (fun v5 ev5 => ?_)
        replace hw := hw v5 ev5
        refine r_istore [some (.ref (G.1 a0)), some (.ref (G.1 a1)), some (.int x2), some (.int x3), some (.int x4), some (.int x5), some (.int v1), some (.int v3), some (.int v5), none] C dX11_readBook_55 (Nat.le_of_ble_eq_true rfl) rfl rfl ?_
        refine r_iload C dX11_readBook_57 rfl ?_
        refine r_iload_n C dX11_readBook_59 rfl ?_
        refine r_icmp_ne 69 C dX11_readBook_60 (by decide) (fun hc => ?_) (fun hc => ?_)
        · replace hw := it_f hc hw
          refine r_iload C dX11_readBook_69 rfl ?_
          refine r_weak [some (.ref (G.1 a0)), some (.ref (G.1 a1)), some (.int x2), some (.int x3), some (.int x4), some (.int x5), some (.int v1), some (.int v3), none, none] (lw_k (lw_k (lw_k (lw_k (lw_k (lw_k (lw_k (lw_k (lw_d (lw_k (lw_n))))))))))) ?_
          exact tX11_readBook_71 C (k0) (k1) hK6 hw
        · replace hw := it_t hc hw
          refine r_iload C dX11_readBook_63 rfl ?_
          refine r_ineg C dX11_readBook_65 ?_
          refine r_goto 71 C dX11_readBook_66 (by decide) ?_
          refine r_weak [some (.ref (G.1 a0)), some (.ref (G.1 a1)), some (.int x2), some (.int x3), some (.int x4), some (.int x5), some (.int v1), some (.int v3), none, none] (lw_k (lw_k (lw_k (lw_k (lw_k (lw_k (lw_k (lw_k (lw_d (lw_k (lw_n))))))))))) ?_
          exact tX11_readBook_71 C (k0) (k1) hK6 hw
      · replace hw := it_f hc hw
        refine r_iconst (-1) C dX11_readBook_32 (by decide) ?_
        refine r_iload C dX11_readBook_33 rfl ?_
        refine r_isub C dX11_readBook_35 ?_
        exact r_iret C dX11_readBook_36 ⟨_, rfl, rfl, hw⟩
def wX11_readBook (a0 : Nat) (a1 : Nat) (x2 : Int32) (x3 : Int32) (h : Hp) (Q : Int32 → Prop) : Prop :=
  eX11_readBook_6 a0 a1 x2 x3 h Q x2 (0 : Int32)
set_option maxRecDepth 20000 in
theorem sX11_readBook {G : GG} {a0 : Nat} {a1 : Nat} {x2 : Int32} {x3 : Int32} {h : Hp} {Q : Int32 → Prop} (k0 : kd a0 = 11) (k1 : kd a1 = 10) (hw : wX11_readBook a0 a1 x2 x3 h Q) : PI G 2 yX11_readBook cX11_readBook 10 (some .int) [.ref (G.1 a0), .ref (G.1 a1), .int x2, .int x3] h Q := by
  refine CO_of [some (.ref (G.1 a0)), some (.ref (G.1 a1)), some (.int x2), some (.int x3), none, none, none, none, none, none] (by decide) (Nat.le_of_ble_eq_true rfl) rfl (fun X C => ?_)
  unfold wX11_readBook at hw
  refine r_iload_n C dX11_readBook_0 rfl ?_
  refine r_istore [some (.ref (G.1 a0)), some (.ref (G.1 a1)), some (.int x2), some (.int x3), some (.int x2), none, none, none, none, none] C dX11_readBook_1 (Nat.le_of_ble_eq_true rfl) rfl rfl ?_
  refine r_iconst (0) C dX11_readBook_3 (by decide) ?_
  refine r_istore [some (.ref (G.1 a0)), some (.ref (G.1 a1)), some (.int x2), some (.int x3), some (.int x2), some (.int (0 : Int32)), none, none, none, none] C dX11_readBook_4 (Nat.le_of_ble_eq_true rfl) rfl rfl ?_
  exact tX11_readBook_6 C (k0) (k1) hw
def wX11_judge (a0 : Nat) (x1 : Int32) (x2 : Int32) (h : Hp) (Q : Int32 → Prop) : Prop :=
  wX11_refusalOfBook a0 x1 x2 h (fun v1 => if v1 = 0 then (vp_in x1 (ln (rf a0 13)) ∧ (wX11_readBook a0 (rf (rf a0 13) x1.toNatClampNeg) x2 (-1 : Int32) h (fun v3 => if v3 < 0 then (Q ((-1 : Int32) - v3)) else (Q (-2 : Int32))))) else (Q v1))
set_option maxRecDepth 20000 in
theorem sX11_judge {G : GG} {a0 : Nat} {x1 : Int32} {x2 : Int32} {h : Hp} {Q : Int32 → Prop} (k0 : kd a0 = 11) (hw : wX11_judge a0 x1 x2 h Q) : PI G 3 yX11_judge cX11_judge 5 (some .int) [.ref (G.1 a0), .int x1, .int x2] h Q := by
  refine CO_of [some (.ref (G.1 a0)), some (.int x1), some (.int x2), none, none] (by decide) (Nat.le_of_ble_eq_true rfl) rfl (fun X C => ?_)
  unfold wX11_judge at hw
  refine r_aload_n C dX11_judge_0 rfl ?_
  refine r_iload_n C dX11_judge_1 rfl ?_
  refine r_iload_n C dX11_judge_2 rfl ?_
  refine kX11_290 C (k0) (sX11_refusalOfBook (k0) hw) dX11_judge_3 (Nat.le_of_ble_eq_true rfl) rfl (Nat.le_of_ble_eq_true rfl) (fun v1 hw => ?_)
  refine r_istore_n [some (.ref (G.1 a0)), some (.int x1), some (.int x2), some (.int v1), none] C dX11_judge_6 (Nat.le_of_ble_eq_true rfl) rfl rfl ?_
  refine r_iload_n C dX11_judge_7 rfl ?_
  refine r_if_eq 13 C dX11_judge_8 (by decide) (fun hc => ?_) (fun hc => ?_)
  · replace hw := it_t hc hw
    refine r_aload_n C dX11_judge_13 rfl ?_
    refine r_aload_n C dX11_judge_14 rfl ?_
    refine gX11_82 C (k0) dX11_judge_15 ?_
    refine r_iload_n C dX11_judge_18 rfl ?_
    obtain ⟨hi2, hw⟩ := hw
    refine r_aald C (kr11_13 (k0)) hi2 dX11_judge_19 ?_
    refine r_iload_n C dX11_judge_20 rfl ?_
    refine r_iconst (-1) C dX11_judge_21 (by decide) ?_
    refine kX11_293 C (k0) (sX11_readBook (k0) (kr25 (kr11_13 (k0)) hi2) hw) dX11_judge_22 (Nat.le_of_ble_eq_true rfl) rfl (Nat.le_of_ble_eq_true rfl) (fun v3 hw => ?_)
    refine r_istore [some (.ref (G.1 a0)), some (.int x1), some (.int x2), some (.int v1), some (.int v3)] C dX11_judge_25 (Nat.le_of_ble_eq_true rfl) rfl rfl ?_
    refine r_iload C dX11_judge_27 rfl ?_
    refine r_if_lt 37 C dX11_judge_29 (by decide) (fun hc => ?_) (fun hc => ?_)
    · replace hw := it_t hc hw
      refine r_iconst (-1) C dX11_judge_37 (by decide) ?_
      refine r_iload C dX11_judge_38 rfl ?_
      refine r_isub C dX11_judge_40 ?_
      exact r_iret C dX11_judge_41 ⟨_, rfl, rfl, hw⟩
    · replace hw := it_f hc hw
      refine r_bipush (-2) C dX11_judge_32 (by decide) ?_
      refine r_goto 41 C dX11_judge_34 (by decide) ?_
      exact r_iret C dX11_judge_41 ⟨_, rfl, rfl, hw⟩
  · replace hw := it_f hc hw
    refine r_iload_n C dX11_judge_11 rfl ?_
    exact r_iret C dX11_judge_12 ⟨_, rfl, rfl, hw⟩
def wX11_within (a0 : Nat) (x1 : Int32) (x2 : Int32) (h : Hp) (Q : Int32 → Prop) : Prop :=
  wX11_refusalOfBook a0 x1 x2 h (fun v1 => if v1 = 0 then (vp_in x1 (ln (rf a0 13)) ∧ (wX11_readBook a0 (rf (rf a0 13) x1.toNatClampNeg) x2 (-1 : Int32) h (fun v3 => if v3 < 0 then (Q (-5 : Int32)) else (Q v3)))) else (Q v1))
set_option maxRecDepth 20000 in
theorem sX11_within {G : GG} {a0 : Nat} {x1 : Int32} {x2 : Int32} {h : Hp} {Q : Int32 → Prop} (k0 : kd a0 = 11) (hw : wX11_within a0 x1 x2 h Q) : PI G 3 yX11_within cX11_within 5 (some .int) [.ref (G.1 a0), .int x1, .int x2] h Q := by
  refine CO_of [some (.ref (G.1 a0)), some (.int x1), some (.int x2), none, none] (by decide) (Nat.le_of_ble_eq_true rfl) rfl (fun X C => ?_)
  unfold wX11_within at hw
  refine r_aload_n C dX11_within_0 rfl ?_
  refine r_iload_n C dX11_within_1 rfl ?_
  refine r_iload_n C dX11_within_2 rfl ?_
  refine kX11_290 C (k0) (sX11_refusalOfBook (k0) hw) dX11_within_3 (Nat.le_of_ble_eq_true rfl) rfl (Nat.le_of_ble_eq_true rfl) (fun v1 hw => ?_)
  refine r_istore_n [some (.ref (G.1 a0)), some (.int x1), some (.int x2), some (.int v1), none] C dX11_within_6 (Nat.le_of_ble_eq_true rfl) rfl rfl ?_
  refine r_iload_n C dX11_within_7 rfl ?_
  refine r_if_eq 13 C dX11_within_8 (by decide) (fun hc => ?_) (fun hc => ?_)
  · replace hw := it_t hc hw
    refine r_aload_n C dX11_within_13 rfl ?_
    refine r_aload_n C dX11_within_14 rfl ?_
    refine gX11_82 C (k0) dX11_within_15 ?_
    refine r_iload_n C dX11_within_18 rfl ?_
    obtain ⟨hi2, hw⟩ := hw
    refine r_aald C (kr11_13 (k0)) hi2 dX11_within_19 ?_
    refine r_iload_n C dX11_within_20 rfl ?_
    refine r_iconst (-1) C dX11_within_21 (by decide) ?_
    refine kX11_293 C (k0) (sX11_readBook (k0) (kr25 (kr11_13 (k0)) hi2) hw) dX11_within_22 (Nat.le_of_ble_eq_true rfl) rfl (Nat.le_of_ble_eq_true rfl) (fun v3 hw => ?_)
    refine r_istore [some (.ref (G.1 a0)), some (.int x1), some (.int x2), some (.int v1), some (.int v3)] C dX11_within_25 (Nat.le_of_ble_eq_true rfl) rfl rfl ?_
    refine r_iload C dX11_within_27 rfl ?_
    refine r_if_lt 37 C dX11_within_29 (by decide) (fun hc => ?_) (fun hc => ?_)
    · replace hw := it_t hc hw
      refine r_bipush (-5) C dX11_within_37 (by decide) ?_
      exact r_iret C dX11_within_39 ⟨_, rfl, rfl, hw⟩
    · replace hw := it_f hc hw
      refine r_iload C dX11_within_32 rfl ?_
      refine r_goto 39 C dX11_within_34 (by decide) ?_
      exact r_iret C dX11_within_39 ⟨_, rfl, rfl, hw⟩
  · replace hw := it_f hc hw
    refine r_iload_n C dX11_within_11 rfl ?_
    exact r_iret C dX11_within_12 ⟨_, rfl, rfl, hw⟩
def fX11_turned_63 (a0 : Nat) (x2 : Int32) (x3 : Int32) (a5 : Nat) (h : Hp) (Q : Int32 → Prop) (K63 : Int32 → Int32 → Int32 → Prop) (x6 : Int32) (x7 : Int32) (x8 : Int32) : Prop :=
  if x8 < 0 then (if x3 = 0 then (Q x6) else (Q x7)) else (wX11_readBook a0 a5 (rm x2 (100 : Int32)) x8 h (fun v1 => if v1 = (x2 / (100 : Int32)) then (∀ v3 : Int32, v3 = x6 + (1 : Int32) → (∀ v4 : Int32, v4 = x8 + (-1 : Int32) → (K63 v3 x8 v4))) else (∀ v2 : Int32, v2 = x8 + (-1 : Int32) → (K63 x6 x7 v2))))
def eX11_turned_63 (a0 : Nat) (x2 : Int32) (x3 : Int32) (a5 : Nat) (h : Hp) (Q : Int32 → Prop) (x6 : Int32) (x7 : Int32) (x8 : Int32) : Prop := ∃ N, lpN (fun (K : Int32 × Int32 × Int32 → Prop) (s : Int32 × Int32 × Int32) => fX11_turned_63 a0 x2 x3 a5 h Q (fun x6 x7 x8 => K (x6, x7, x8)) s.1 s.2.1 s.2.2) N (x6, x7, x8)
theorem iX11_turned_63 {a0 : Nat} {x2 : Int32} {x3 : Int32} {a5 : Nat} {h : Hp} {Q : Int32 → Prop} (I : Int32 → Int32 → Int32 → Prop) (μ : Int32 → Int32 → Int32 → Nat) (hs : ∀ (x6 : Int32) (x7 : Int32) (x8 : Int32), I x6 x7 x8 → ∀ K : Int32 → Int32 → Int32 → Prop, (∀ (x6' : Int32) (x7' : Int32) (x8' : Int32), I x6' x7' x8' → μ x6' x7' x8' < μ x6 x7 x8 → K x6' x7' x8') → fX11_turned_63 a0 x2 x3 a5 h Q K x6 x7 x8) : ∀ (x6 : Int32) (x7 : Int32) (x8 : Int32), I x6 x7 x8 → eX11_turned_63 a0 x2 x3 a5 h Q x6 x7 x8 := fun x6 x7 x8 hI => lp_ind (fun s => I s.1 s.2.1 s.2.2) (fun s => μ s.1 s.2.1 s.2.2) (fun s hs' K hK => hs s.1 s.2.1 s.2.2 hs' _ (fun x6' x7' x8' h1 h2 => hK (x6', x7', x8') h1 h2)) (x6, x7, x8) hI
set_option maxRecDepth 20000 in
theorem tX11_turned_63 {G : GG} {X : XX} {a0 : Nat} {x2 : Int32} {x3 : Int32} {a5 : Nat} {x6 : Int32} {x7 : Int32} {x8 : Int32} {h : Hp}  {Q : Int32 → Prop} (C : Cx G RX11 cX11_turned 9 (some .int) 3 0 0 X) (k0 : kd a0 = 11) (k5 : kd a5 = 10) (hw : eX11_turned_63 a0 x2 x3 a5 h Q x6 x7 x8) : R0 G X 0 0 (ZM G (fun r h' => ∃ v, r = some (.int v) ∧ h' = h ∧ Q v) X) 63 [some (.ref (G.1 a0)), none, some (.int x2), some (.int x3), none, some (.ref (G.1 a5)), some (.int x6), some (.int x7), some (.int x8)] [] h := by
  obtain ⟨N, hw⟩ := hw
  induction N generalizing x6 x7 x8 with
  | zero => exact hw.elim
  | succ N ih =>
    obtain ⟨K63, eK⟩ : ∃ K : Int32 → Int32 → Int32 → Prop, K = (fun x6 x7 x8 => lpN (fun (K : Int32 × Int32 × Int32 → Prop) (s : Int32 × Int32 × Int32) => fX11_turned_63 a0 x2 x3 a5 h Q (fun x6 x7 x8 => K (x6, x7, x8)) s.1 s.2.1 s.2.2) N (x6, x7, x8)) := ⟨_, rfl⟩
    have hw : fX11_turned_63 a0 x2 x3 a5 h Q (fun x6 x7 x8 => lpN (fun (K : Int32 × Int32 × Int32 → Prop) (s : Int32 × Int32 × Int32) => fX11_turned_63 a0 x2 x3 a5 h Q (fun x6 x7 x8 => K (x6, x7, x8)) s.1 s.2.1 s.2.2) N (x6, x7, x8)) x6 x7 x8 := hw
    have hK63 : ∀ (x6 : Int32) (x7 : Int32) (x8 : Int32), K63 x6 x7 x8 → R0 G X 0 0 (ZM G (fun r h' => ∃ v, r = some (.int v) ∧ h' = h ∧ Q v) X) 63 [some (.ref (G.1 a0)), none, some (.int x2), some (.int x3), none, some (.ref (G.1 a5)), some (.int x6), some (.int x7), some (.int x8)] [] h := fun x6 x7 x8 q => ih (by rw [eK] at q; exact q)
    rw [← eK] at hw
    clear eK ih
    unfold fX11_turned_63 at hw
    refine r_iload C dX11_turned_63 rfl ?_
    refine r_if_lt 100 C dX11_turned_65 (by decide) (fun hc => ?_) (fun hc => ?_)
    · replace hw := it_t hc hw
      refine r_iload_n C dX11_turned_100 rfl ?_
      refine r_if_ne 109 C dX11_turned_101 (by decide) (fun hc => ?_) (fun hc => ?_)
      · replace hw := it_f hc hw
        refine r_iload C dX11_turned_109 rfl ?_
        exact r_iret C dX11_turned_111 ⟨_, rfl, rfl, hw⟩
      · replace hw := it_t hc hw
        refine r_iload C dX11_turned_104 rfl ?_
        refine r_goto 111 C dX11_turned_106 (by decide) ?_
        exact r_iret C dX11_turned_111 ⟨_, rfl, rfl, hw⟩
    · replace hw := it_f hc hw
      refine r_aload_n C dX11_turned_68 rfl ?_
      refine r_aload C dX11_turned_69 rfl ?_
      refine r_iload_n C dX11_turned_71 rfl ?_
      refine r_bipush (100) C dX11_turned_72 (by decide) ?_
      refine r_irem C dX11_turned_74 (by decide) ?_
      refine r_iload C dX11_turned_75 rfl ?_
      refine kX11_293 C (k0) (sX11_readBook (k0) (k5) hw) dX11_turned_77 (Nat.le_of_ble_eq_true rfl) rfl (Nat.le_of_ble_eq_true rfl) (fun v1 hw => ?_)
      refine r_iload_n C dX11_turned_80 rfl ?_
      refine r_bipush (100) C dX11_turned_81 (by decide) ?_
      refine r_idiv C dX11_turned_83 (by decide) ?_
      refine r_icmp_ne 94 C dX11_turned_84 (by decide) (fun hc => ?_) (fun hc => ?_)
      · replace hw := it_f hc hw
        obtain ⟨v2, ev2⟩ : ∃ v : Int32, v = x8 + (-1 : Int32) := ⟨_, rfl⟩
        replace hw := hw v2 ev2
        refine r_iinc v2 [some (.ref (G.1 a0)), none, some (.int x2), some (.int x3), none, some (.ref (G.1 a5)), some (.int x6), some (.int x7), some (.int v2)] C dX11_turned_94 rfl (by rw [ev2]; rfl) rfl rfl ?_
        refine r_goto 63 C dX11_turned_97 (by decide) ?_
        exact hK63 _ _ _ hw
      · replace hw := it_t hc hw
        obtain ⟨v3, ev3⟩ : ∃ v : Int32, v = x6 + (1 : Int32) := ⟨_, rfl⟩
        replace hw := hw v3 ev3
        refine r_iinc v3 [some (.ref (G.1 a0)), none, some (.int x2), some (.int x3), none, some (.ref (G.1 a5)), some (.int v3), some (.int x7), some (.int x8)] C dX11_turned_87 rfl (by rw [ev3]; rfl) rfl rfl ?_
        refine r_iload C dX11_turned_90 rfl ?_
        refine r_istore [some (.ref (G.1 a0)), none, some (.int x2), some (.int x3), none, some (.ref (G.1 a5)), some (.int v3), some (.int x8), some (.int x8)] C dX11_turned_92 (Nat.le_of_ble_eq_true rfl) rfl rfl ?_
        obtain ⟨v4, ev4⟩ : ∃ v : Int32, v = x8 + (-1 : Int32) := ⟨_, rfl⟩
        replace hw := hw v4 ev4
        refine r_iinc v4 [some (.ref (G.1 a0)), none, some (.int x2), some (.int x3), none, some (.ref (G.1 a5)), some (.int v3), some (.int x8), some (.int v4)] C dX11_turned_94 rfl (by rw [ev4]; rfl) rfl rfl ?_
        refine r_goto 63 C dX11_turned_97 (by decide) ?_
        exact hK63 _ _ _ hw
def wX11_turned (a0 : Nat) (x1 : Int32) (x2 : Int32) (x3 : Int32) (h : Hp) (Q : Int32 → Prop) : Prop :=
  wX11_isWithinOf x2 h (fun v1 => if v1 = 0 then (Q (-1 : Int32)) else (if x3 < 0 then (Q (-1 : Int32)) else (if x3 ≤ (1 : Int32) then (wX11_refusalOfBook a0 x1 (rm x2 (100 : Int32)) h (fun v2 => if v2 = 0 then (vp_in x1 (ln (rf a0 13)) ∧ (∀ v4 : Int32, v4 = (((gI h (rf (rf a0 13) x1.toNatClampNeg) 3) / (2 : Int32)) - (1 : Int32)) → (eX11_turned_63 a0 x2 x3 (rf (rf a0 13) x1.toNatClampNeg) h Q (0 : Int32) (-2 : Int32) v4))) else (Q v2))) else (Q (-1 : Int32)))))
set_option maxRecDepth 20000 in
theorem sX11_turned {G : GG} {a0 : Nat} {x1 : Int32} {x2 : Int32} {x3 : Int32} {h : Hp} {Q : Int32 → Prop} (k0 : kd a0 = 11) (hw : wX11_turned a0 x1 x2 x3 h Q) : PI G 3 yX11_turned cX11_turned 9 (some .int) [.ref (G.1 a0), .int x1, .int x2, .int x3] h Q := by
  refine CO_of [some (.ref (G.1 a0)), some (.int x1), some (.int x2), some (.int x3), none, none, none, none, none] (by decide) (Nat.le_of_ble_eq_true rfl) rfl (fun X C => ?_)
  unfold wX11_turned at hw
  refine r_iload_n C dX11_turned_0 rfl ?_
  refine kX11_252 C (sX11_isWithinOf hw) dX11_turned_1 (Nat.le_of_ble_eq_true rfl) rfl (Nat.le_of_ble_eq_true rfl) (fun v1 hw => ?_)
  refine r_if_eq 16 C dX11_turned_4 (by decide) (fun hc => ?_) (fun hc => ?_)
  · replace hw := it_t hc hw
    refine r_iconst (-1) C dX11_turned_16 (by decide) ?_
    exact r_iret C dX11_turned_17 ⟨_, rfl, rfl, hw⟩
  · replace hw := it_f hc hw
    refine r_iload_n C dX11_turned_7 rfl ?_
    refine r_if_lt 16 C dX11_turned_8 (by decide) (fun hc => ?_) (fun hc => ?_)
    · replace hw := it_t hc hw
      refine r_iconst (-1) C dX11_turned_16 (by decide) ?_
      exact r_iret C dX11_turned_17 ⟨_, rfl, rfl, hw⟩
    · replace hw := it_f hc hw
      refine r_iload_n C dX11_turned_11 rfl ?_
      refine r_iconst (1) C dX11_turned_12 (by decide) ?_
      refine r_icmp_le 18 C dX11_turned_13 (by decide) (fun hc => ?_) (fun hc => ?_)
      · replace hw := it_t hc hw
        refine r_aload_n C dX11_turned_18 rfl ?_
        refine r_iload_n C dX11_turned_19 rfl ?_
        refine r_iload_n C dX11_turned_20 rfl ?_
        refine r_bipush (100) C dX11_turned_21 (by decide) ?_
        refine r_irem C dX11_turned_23 (by decide) ?_
        refine kX11_290 C (k0) (sX11_refusalOfBook (k0) hw) dX11_turned_24 (Nat.le_of_ble_eq_true rfl) rfl (Nat.le_of_ble_eq_true rfl) (fun v2 hw => ?_)
        refine r_istore [some (.ref (G.1 a0)), some (.int x1), some (.int x2), some (.int x3), some (.int v2), none, none, none, none] C dX11_turned_27 (Nat.le_of_ble_eq_true rfl) rfl rfl ?_
        refine r_iload C dX11_turned_29 rfl ?_
        refine r_if_eq 37 C dX11_turned_31 (by decide) (fun hc => ?_) (fun hc => ?_)
        · replace hw := it_t hc hw
          refine r_aload_n C dX11_turned_37 rfl ?_
          refine gX11_82 C (k0) dX11_turned_38 ?_
          refine r_iload_n C dX11_turned_41 rfl ?_
          obtain ⟨hi3, hw⟩ := hw
          refine r_aald C (kr11_13 (k0)) hi3 dX11_turned_42 ?_
          refine r_astore [some (.ref (G.1 a0)), some (.int x1), some (.int x2), some (.int x3), some (.int v2), some (.ref (G.1 (rf (rf a0 13) x1.toNatClampNeg))), none, none, none] C dX11_turned_43 (Nat.le_of_ble_eq_true rfl) rfl rfl ?_
          refine r_iconst (0) C dX11_turned_45 (by decide) ?_
          refine r_istore [some (.ref (G.1 a0)), some (.int x1), some (.int x2), some (.int x3), some (.int v2), some (.ref (G.1 (rf (rf a0 13) x1.toNatClampNeg))), some (.int (0 : Int32)), none, none] C dX11_turned_46 (Nat.le_of_ble_eq_true rfl) rfl rfl ?_
          refine r_bipush (-2) C dX11_turned_48 (by decide) ?_
          refine r_istore [some (.ref (G.1 a0)), some (.int x1), some (.int x2), some (.int x3), some (.int v2), some (.ref (G.1 (rf (rf a0 13) x1.toNatClampNeg))), some (.int (0 : Int32)), some (.int (-2 : Int32)), none] C dX11_turned_50 (Nat.le_of_ble_eq_true rfl) rfl rfl ?_
          refine r_aload C dX11_turned_52 rfl ?_
          refine gX11_120 C (kr25 (kr11_13 (k0)) hi3) dX11_turned_54 ?_
          refine r_iconst (2) C dX11_turned_57 (by decide) ?_
          refine r_idiv C dX11_turned_58 (by decide) ?_
          refine r_iconst (1) C dX11_turned_59 (by decide) ?_
          refine r_isub C dX11_turned_60 ?_
          refine r_topi (fun v4 ev4 => ?_)
          replace hw := hw v4 ev4
          refine r_istore [some (.ref (G.1 a0)), some (.int x1), some (.int x2), some (.int x3), some (.int v2), some (.ref (G.1 (rf (rf a0 13) x1.toNatClampNeg))), some (.int (0 : Int32)), some (.int (-2 : Int32)), some (.int v4)] C dX11_turned_61 (Nat.le_of_ble_eq_true rfl) rfl rfl ?_
          refine r_weak [some (.ref (G.1 a0)), none, some (.int x2), some (.int x3), none, some (.ref (G.1 (rf (rf a0 13) x1.toNatClampNeg))), some (.int (0 : Int32)), some (.int (-2 : Int32)), some (.int v4)] (lw_k (lw_d (lw_k (lw_k (lw_d (lw_k (lw_k (lw_k (lw_k (lw_n)))))))))) ?_
          exact tX11_turned_63 C (k0) (kr25 (kr11_13 (k0)) hi3) hw
        · replace hw := it_f hc hw
          refine r_iload C dX11_turned_34 rfl ?_
          exact r_iret C dX11_turned_36 ⟨_, rfl, rfl, hw⟩
      · replace hw := it_f hc hw
        refine r_iconst (-1) C dX11_turned_16 (by decide) ?_
        exact r_iret C dX11_turned_17 ⟨_, rfl, rfl, hw⟩
def wX11_image (a0 : Nat) (h : Hp) (Q : Int32 → Hp → Prop) : Prop :=
  wX3_takeFrom (rf a0 6) (rf a0 5) h (fun h2 => ∀ h3 : Hp, h3 = sI h2 a0 7 (1 : Int32) → (Q (gI h3 (rf a0 5) 1) h3))
set_option maxRecDepth 20000 in
theorem sX11_image {G : GG} {a0 : Nat} {h : Hp} {Q : Int32 → Hp → Prop} (k0 : kd a0 = 11) (hw : wX11_image a0 h Q) : CI G 2 yX11_image cX11_image 1 (some .int) [.ref (G.1 a0)] h Q := by
  refine CO_of [some (.ref (G.1 a0))] (by decide) (Nat.le_of_ble_eq_true rfl) rfl (fun X C => ?_)
  unfold wX11_image at hw
  refine r_aload_n C dX11_image_0 rfl ?_
  refine gX11_43 C (k0) dX11_image_1 ?_
  refine r_aload_n C dX11_image_4 rfl ?_
  refine gX11_39 C (k0) dX11_image_5 ?_
  refine kX11_301 C (kr11_6 (k0)) (sX3_takeFrom (kr11_6 (k0)) (kr11_5 (k0)) hw) dX11_image_8 (Nat.le_of_ble_eq_true rfl) rfl (Nat.le_of_ble_eq_true rfl) (fun h2 hw => ?_)
  refine r_aload_n C dX11_image_11 rfl ?_
  refine r_iconst (1) C dX11_image_12 (by decide) ?_
  refine pX11_305 C (k0) ⟨rfl, rfl⟩ dX11_image_13 ?_
  refine r_toph (fun h3 eh3 => ?_)
  replace hw := hw h3 eh3
  refine r_aload_n C dX11_image_16 rfl ?_
  refine gX11_39 C (k0) dX11_image_17 ?_
  refine gX11_167 C (kr11_5 (k0)) dX11_image_20 ?_
  exact r_iret C dX11_image_23 ⟨_, rfl, hw⟩
def wX11_back (a0 : Nat) (h : Hp) (Q : Int32 → Hp → Prop) : Prop :=
  if (gI h a0 7) = 0 then (Q (-5 : Int32) h) else (wX3_takeFrom (rf a0 5) (rf a0 6) h (fun h2 => Q (gI h2 (rf a0 5) 1) h2))
set_option maxRecDepth 20000 in
theorem sX11_back {G : GG} {a0 : Nat} {h : Hp} {Q : Int32 → Hp → Prop} (k0 : kd a0 = 11) (hw : wX11_back a0 h Q) : CI G 2 yX11_back cX11_back 1 (some .int) [.ref (G.1 a0)] h Q := by
  refine CO_of [some (.ref (G.1 a0))] (by decide) (Nat.le_of_ble_eq_true rfl) rfl (fun X C => ?_)
  unfold wX11_back at hw
  refine r_aload_n C dX11_back_0 rfl ?_
  refine gX11_305 C (k0) dX11_back_1 ?_
  refine r_if_ne 10 C dX11_back_4 (by decide) (fun hc => ?_) (fun hc => ?_)
  · replace hw := it_f hc hw
    refine r_aload_n C dX11_back_10 rfl ?_
    refine gX11_39 C (k0) dX11_back_11 ?_
    refine r_aload_n C dX11_back_14 rfl ?_
    refine gX11_43 C (k0) dX11_back_15 ?_
    refine kX11_301 C (kr11_5 (k0)) (sX3_takeFrom (kr11_5 (k0)) (kr11_6 (k0)) hw) dX11_back_18 (Nat.le_of_ble_eq_true rfl) rfl (Nat.le_of_ble_eq_true rfl) (fun h2 hw => ?_)
    refine r_aload_n C dX11_back_21 rfl ?_
    refine gX11_39 C (k0) dX11_back_22 ?_
    refine gX11_167 C (kr11_5 (k0)) dX11_back_25 ?_
    exact r_iret C dX11_back_28 ⟨_, rfl, hw⟩
  · replace hw := it_t hc hw
    refine r_bipush (-5) C dX11_back_7 (by decide) ?_
    exact r_iret C dX11_back_9 ⟨_, rfl, hw⟩
def wX11_undo (a0 : Nat) (h : Hp) (Q : Int32 → Hp → Prop) : Prop :=
  wX1_lastDone (rf a0 10) h (fun v1 => if 0 ≤ v1 then (vp_in v1 (ln (rf (rf a0 10) 0)) ∧ (vp_in v1 (ln (rf (rf a0 10) 1)) ∧ (vp_in v1 (ln (rf (rf a0 10) 2)) ∧ (wX11_become a0 (gI h (rf (rf a0 10) 0) v1.toNatClampNeg) (gI h (rf (rf a0 10) 1) v1.toNatClampNeg) (gI h (rf (rf a0 10) 2) v1.toNatClampNeg) h (fun v5 h6 => wX1_stepBack (rf a0 10) h6 (fun v7 h8 => Q v7 h8)))))) else (Q (-5 : Int32) h))
set_option maxRecDepth 20000 in
theorem sX11_undo {G : GG} {a0 : Nat} {h : Hp} {Q : Int32 → Hp → Prop} (k0 : kd a0 = 11) (hw : wX11_undo a0 h Q) : CI G 2 yX11_undo cX11_undo 2 (some .int) [.ref (G.1 a0)] h Q := by
  refine CO_of [some (.ref (G.1 a0)), none] (by decide) (Nat.le_of_ble_eq_true rfl) rfl (fun X C => ?_)
  unfold wX11_undo at hw
  refine r_aload_n C dX11_undo_0 rfl ?_
  refine gX11_65 C (k0) dX11_undo_1 ?_
  refine kX11_309 C (kr11_10 (k0)) (sX1_lastDone (kr11_10 (k0)) hw) dX11_undo_4 (Nat.le_of_ble_eq_true rfl) rfl (Nat.le_of_ble_eq_true rfl) (fun v1 hw => ?_)
  refine r_istore_n [some (.ref (G.1 a0)), some (.int v1)] C dX11_undo_7 (Nat.le_of_ble_eq_true rfl) rfl rfl ?_
  refine r_iload_n C dX11_undo_8 rfl ?_
  refine r_if_ge 15 C dX11_undo_9 (by decide) (fun hc => ?_) (fun hc => ?_)
  · replace hw := it_t hc hw
    refine r_aload_n C dX11_undo_15 rfl ?_
    refine r_aload_n C dX11_undo_16 rfl ?_
    refine gX11_65 C (k0) dX11_undo_17 ?_
    refine gX11_312 C (kr11_10 (k0)) dX11_undo_20 ?_
    refine r_iload_n C dX11_undo_23 rfl ?_
    obtain ⟨hi2, hw⟩ := hw
    refine r_iald C (kr1_0 (kr11_10 (k0))) hi2 dX11_undo_24 ?_
    refine r_aload_n C dX11_undo_25 rfl ?_
    refine gX11_65 C (k0) dX11_undo_26 ?_
    refine gX11_313 C (kr11_10 (k0)) dX11_undo_29 ?_
    refine r_iload_n C dX11_undo_32 rfl ?_
    obtain ⟨hi3, hw⟩ := hw
    refine r_iald C (kr1_1 (kr11_10 (k0))) hi3 dX11_undo_33 ?_
    refine r_aload_n C dX11_undo_34 rfl ?_
    refine gX11_65 C (k0) dX11_undo_35 ?_
    refine gX11_316 C (kr11_10 (k0)) dX11_undo_38 ?_
    refine r_iload_n C dX11_undo_41 rfl ?_
    obtain ⟨hi4, hw⟩ := hw
    refine r_iald C (kr1_2 (kr11_10 (k0))) hi4 dX11_undo_42 ?_
    refine kX11_131 C (k0) (sX11_become (k0) hw) dX11_undo_43 (Nat.le_of_ble_eq_true rfl) rfl (Nat.le_of_ble_eq_true rfl) (fun v5 h6 hw => ?_)
    refine r_pop C dX11_undo_46 rfl ?_
    refine r_aload_n C dX11_undo_47 rfl ?_
    refine gX11_65 C (k0) dX11_undo_48 ?_
    refine kX11_319 C (kr11_10 (k0)) (sX1_stepBack (kr11_10 (k0)) hw) dX11_undo_51 (Nat.le_of_ble_eq_true rfl) rfl (Nat.le_of_ble_eq_true rfl) (fun v7 h8 hw => ?_)
    exact r_iret C dX11_undo_54 ⟨_, rfl, hw⟩
  · replace hw := it_f hc hw
    refine r_bipush (-5) C dX11_undo_12 (by decide) ?_
    exact r_iret C dX11_undo_14 ⟨_, rfl, hw⟩
def wX11_redo (a0 : Nat) (h : Hp) (Q : Int32 → Hp → Prop) : Prop :=
  wX1_firstUndone (rf a0 10) h (fun v1 => if 0 ≤ v1 then (vp_in v1 (ln (rf (rf a0 10) 0)) ∧ (vp_in v1 (ln (rf (rf a0 10) 1)) ∧ (vp_in v1 (ln (rf (rf a0 10) 3)) ∧ (wX11_become a0 (gI h (rf (rf a0 10) 0) v1.toNatClampNeg) (gI h (rf (rf a0 10) 1) v1.toNatClampNeg) (gI h (rf (rf a0 10) 3) v1.toNatClampNeg) h (fun v5 h6 => wX1_stepOn (rf a0 10) h6 (fun v7 h8 => Q v7 h8)))))) else (Q (-5 : Int32) h))
set_option maxRecDepth 20000 in
theorem sX11_redo {G : GG} {a0 : Nat} {h : Hp} {Q : Int32 → Hp → Prop} (k0 : kd a0 = 11) (hw : wX11_redo a0 h Q) : CI G 2 yX11_redo cX11_redo 2 (some .int) [.ref (G.1 a0)] h Q := by
  refine CO_of [some (.ref (G.1 a0)), none] (by decide) (Nat.le_of_ble_eq_true rfl) rfl (fun X C => ?_)
  unfold wX11_redo at hw
  refine r_aload_n C dX11_redo_0 rfl ?_
  refine gX11_65 C (k0) dX11_redo_1 ?_
  refine kX11_322 C (kr11_10 (k0)) (sX1_firstUndone (kr11_10 (k0)) hw) dX11_redo_4 (Nat.le_of_ble_eq_true rfl) rfl (Nat.le_of_ble_eq_true rfl) (fun v1 hw => ?_)
  refine r_istore_n [some (.ref (G.1 a0)), some (.int v1)] C dX11_redo_7 (Nat.le_of_ble_eq_true rfl) rfl rfl ?_
  refine r_iload_n C dX11_redo_8 rfl ?_
  refine r_if_ge 15 C dX11_redo_9 (by decide) (fun hc => ?_) (fun hc => ?_)
  · replace hw := it_t hc hw
    refine r_aload_n C dX11_redo_15 rfl ?_
    refine r_aload_n C dX11_redo_16 rfl ?_
    refine gX11_65 C (k0) dX11_redo_17 ?_
    refine gX11_312 C (kr11_10 (k0)) dX11_redo_20 ?_
    refine r_iload_n C dX11_redo_23 rfl ?_
    obtain ⟨hi2, hw⟩ := hw
    refine r_iald C (kr1_0 (kr11_10 (k0))) hi2 dX11_redo_24 ?_
    refine r_aload_n C dX11_redo_25 rfl ?_
    refine gX11_65 C (k0) dX11_redo_26 ?_
    refine gX11_313 C (kr11_10 (k0)) dX11_redo_29 ?_
    refine r_iload_n C dX11_redo_32 rfl ?_
    obtain ⟨hi3, hw⟩ := hw
    refine r_iald C (kr1_1 (kr11_10 (k0))) hi3 dX11_redo_33 ?_
    refine r_aload_n C dX11_redo_34 rfl ?_
    refine gX11_65 C (k0) dX11_redo_35 ?_
    refine gX11_325 C (kr11_10 (k0)) dX11_redo_38 ?_
    refine r_iload_n C dX11_redo_41 rfl ?_
    obtain ⟨hi4, hw⟩ := hw
    refine r_iald C (kr1_3 (kr11_10 (k0))) hi4 dX11_redo_42 ?_
    refine kX11_131 C (k0) (sX11_become (k0) hw) dX11_redo_43 (Nat.le_of_ble_eq_true rfl) rfl (Nat.le_of_ble_eq_true rfl) (fun v5 h6 hw => ?_)
    refine r_pop C dX11_redo_46 rfl ?_
    refine r_aload_n C dX11_redo_47 rfl ?_
    refine gX11_65 C (k0) dX11_redo_48 ?_
    refine kX11_328 C (kr11_10 (k0)) (sX1_stepOn (kr11_10 (k0)) hw) dX11_redo_51 (Nat.le_of_ble_eq_true rfl) rfl (Nat.le_of_ble_eq_true rfl) (fun v7 h8 hw => ?_)
    exact r_iret C dX11_redo_54 ⟨_, rfl, hw⟩
  · replace hw := it_f hc hw
    refine r_bipush (-5) C dX11_redo_12 (by decide) ?_
    exact r_iret C dX11_redo_14 ⟨_, rfl, hw⟩
def wX11_body (a0 : Nat) (x1 : Int32) (h : Hp) (Q : Int32 → Hp → Prop) : Prop :=
  wX0_isKind x1 h (fun v1 => if v1 = 0 then (Q (-1 : Int32) h) else (wX0_add (rf a0 12) x1 h (fun v2 h3 => Q v2 h3)))
set_option maxRecDepth 20000 in
theorem sX11_body {G : GG} {a0 : Nat} {x1 : Int32} {h : Hp} {Q : Int32 → Hp → Prop} (k0 : kd a0 = 11) (hw : wX11_body a0 x1 h Q) : CI G 1 yX11_body cX11_body 2 (some .int) [.ref (G.1 a0), .int x1] h Q := by
  refine CO_of [some (.ref (G.1 a0)), some (.int x1)] (by decide) (Nat.le_of_ble_eq_true rfl) rfl (fun X C => ?_)
  unfold wX11_body at hw
  refine r_iload_n C dX11_body_0 rfl ?_
  refine kX11_331 C (sX0_isKind hw) dX11_body_1 (Nat.le_of_ble_eq_true rfl) rfl (Nat.le_of_ble_eq_true rfl) (fun v1 hw => ?_)
  refine r_if_ne 9 C dX11_body_4 (by decide) (fun hc => ?_) (fun hc => ?_)
  · replace hw := it_f hc hw
    refine r_aload_n C dX11_body_9 rfl ?_
    refine gX11_76 C (k0) dX11_body_10 ?_
    refine r_iload_n C dX11_body_13 rfl ?_
    refine kX11_334 C (kr11_12 (k0)) (sX0_add (kr11_12 (k0)) hw) dX11_body_14 (Nat.le_of_ble_eq_true rfl) rfl (Nat.le_of_ble_eq_true rfl) (fun v2 h3 hw => ?_)
    exact r_iret C dX11_body_17 ⟨_, rfl, hw⟩
  · replace hw := it_t hc hw
    refine r_iconst (-1) C dX11_body_7 (by decide) ?_
    exact r_iret C dX11_body_8 ⟨_, rfl, hw⟩
def wX11_act (a0 : Nat) (x1 : Int32) (x2 : Int32) (x3 : Int32) (h : Hp) (Q : Int32 → Hp → Prop) : Prop :=
  wX0_perform (rf a0 12) x1 x2 x3 h (fun v1 h2 => Q v1 h2)
set_option maxRecDepth 20000 in
theorem sX11_act {G : GG} {a0 : Nat} {x1 : Int32} {x2 : Int32} {x3 : Int32} {h : Hp} {Q : Int32 → Hp → Prop} (k0 : kd a0 = 11) (hw : wX11_act a0 x1 x2 x3 h Q) : CI G 124 yX11_act cX11_act 4 (some .int) [.ref (G.1 a0), .int x1, .int x2, .int x3] h Q := by
  refine CO_of [some (.ref (G.1 a0)), some (.int x1), some (.int x2), some (.int x3)] (by decide) (Nat.le_of_ble_eq_true rfl) rfl (fun X C => ?_)
  unfold wX11_act at hw
  refine r_aload_n C dX11_act_0 rfl ?_
  refine gX11_76 C (k0) dX11_act_1 ?_
  refine r_iload_n C dX11_act_4 rfl ?_
  refine r_iload_n C dX11_act_5 rfl ?_
  refine r_iload_n C dX11_act_6 rfl ?_
  refine kX11_335 C (kr11_12 (k0)) (sX0_perform (kr11_12 (k0)) hw) dX11_act_7 (Nat.le_of_ble_eq_true rfl) rfl (Nat.le_of_ble_eq_true rfl) (fun v1 h2 hw => ?_)
  exact r_iret C dX11_act_10 ⟨_, rfl, hw⟩
def wX11_trace (a0 : Nat) (x1 : Int32) (h : Hp) (Q : Int32 → Prop) : Prop :=
  if x1 < 0 then (Q (-1 : Int32)) else (wX0_traced (rf a0 12) h (fun v1 => if v1 ≤ x1 then (Q (-1 : Int32)) else (vp_in x1 (ln (rf (rf a0 12) 1)) ∧ (Q (gI h (rf (rf a0 12) 1) x1.toNatClampNeg)))))
set_option maxRecDepth 20000 in
theorem sX11_trace {G : GG} {a0 : Nat} {x1 : Int32} {h : Hp} {Q : Int32 → Prop} (k0 : kd a0 = 11) (hw : wX11_trace a0 x1 h Q) : PI G 2 yX11_trace cX11_trace 2 (some .int) [.ref (G.1 a0), .int x1] h Q := by
  refine CO_of [some (.ref (G.1 a0)), some (.int x1)] (by decide) (Nat.le_of_ble_eq_true rfl) rfl (fun X C => ?_)
  unfold wX11_trace at hw
  refine r_iload_n C dX11_trace_0 rfl ?_
  refine r_if_lt 27 C dX11_trace_1 (by decide) (fun hc => ?_) (fun hc => ?_)
  · replace hw := it_t hc hw
    refine r_iconst (-1) C dX11_trace_27 (by decide) ?_
    exact r_iret C dX11_trace_28 ⟨_, rfl, rfl, hw⟩
  · replace hw := it_f hc hw
    refine r_iload_n C dX11_trace_4 rfl ?_
    refine r_aload_n C dX11_trace_5 rfl ?_
    refine gX11_76 C (k0) dX11_trace_6 ?_
    refine kX11_338 C (kr11_12 (k0)) (sX0_traced (kr11_12 (k0)) hw) dX11_trace_9 (Nat.le_of_ble_eq_true rfl) rfl (Nat.le_of_ble_eq_true rfl) (fun v1 hw => ?_)
    refine r_icmp_ge 27 C dX11_trace_12 (by decide) (fun hc => ?_) (fun hc => ?_)
    · replace hw := it_t hc hw
      refine r_iconst (-1) C dX11_trace_27 (by decide) ?_
      exact r_iret C dX11_trace_28 ⟨_, rfl, rfl, hw⟩
    · replace hw := it_f hc hw
      refine r_aload_n C dX11_trace_15 rfl ?_
      refine gX11_76 C (k0) dX11_trace_16 ?_
      refine gX11_341 C (kr11_12 (k0)) dX11_trace_19 ?_
      refine r_iload_n C dX11_trace_22 rfl ?_
      obtain ⟨hi2, hw⟩ := hw
      refine r_iald C (kr0_1 (kr11_12 (k0))) hi2 dX11_trace_23 ?_
      refine r_goto 28 C dX11_trace_24 (by decide) ?_
      exact r_iret C dX11_trace_28 ⟨_, rfl, rfl, hw⟩
def jX11_keep_25 (a0 : Nat) (x1 : Int32) (x2 : Int32) (h : Hp) (Q : Int32 → Hp → Prop) : Prop :=
  vp_in x1 (ln (rf a0 13)) ∧ (wX10_holdBody (rf (rf a0 13) x1.toNatClampNeg) x2 h (fun h3 => Q (1 : Int32) h3))
set_option maxRecDepth 20000 in
theorem tX11_keep_25 {G : GG} {X : XX} {a0 : Nat} {x1 : Int32} {x2 : Int32} {h : Hp}  {Q : Int32 → Hp → Prop} (C : Cx G RX11 cX11_keep 3 (some .int) 1 0 0 X) (k0 : kd a0 = 11) (hw : jX11_keep_25 a0 x1 x2 h Q) : R0 G X 0 0 (ZM G (fun r h' => ∃ v, r = some (.int v) ∧ Q v h') X) 25 [some (.ref (G.1 a0)), some (.int x1), some (.int x2)] [] h := by
  unfold jX11_keep_25 at hw
  refine r_aload_n C dX11_keep_25 rfl ?_
  refine gX11_82 C (k0) dX11_keep_26 ?_
  refine r_iload_n C dX11_keep_29 rfl ?_
  obtain ⟨hi1, hw⟩ := hw
  refine r_aald C (kr11_13 (k0)) hi1 dX11_keep_30 ?_
  refine r_iload_n C dX11_keep_31 rfl ?_
  refine kX11_345 C (kr25 (kr11_13 (k0)) hi1) (sX10_holdBody (kr25 (kr11_13 (k0)) hi1) hw) dX11_keep_32 (Nat.le_of_ble_eq_true rfl) rfl (Nat.le_of_ble_eq_true rfl) (fun h3 hw => ?_)
  refine r_iconst (1) C dX11_keep_35 (by decide) ?_
  exact r_iret C dX11_keep_36 ⟨_, rfl, hw⟩
def wX11_keep (a0 : Nat) (x1 : Int32) (x2 : Int32) (h : Hp) (Q : Int32 → Hp → Prop) : Prop :=
  wX11_isShelf x1 h (fun v1 => if v1 = 0 then (Q (-1 : Int32) h) else (if x2 = (-1 : Int32) then (jX11_keep_25 a0 x1 x2 h Q) else (wX0_has (rf a0 12) x2 h (fun v2 => if v2 = 0 then (Q (-1 : Int32) h) else (jX11_keep_25 a0 x1 x2 h Q)))))
set_option maxRecDepth 20000 in
theorem sX11_keep {G : GG} {a0 : Nat} {x1 : Int32} {x2 : Int32} {h : Hp} {Q : Int32 → Hp → Prop} (k0 : kd a0 = 11) (hw : wX11_keep a0 x1 x2 h Q) : CI G 1 yX11_keep cX11_keep 3 (some .int) [.ref (G.1 a0), .int x1, .int x2] h Q := by
  refine CO_of [some (.ref (G.1 a0)), some (.int x1), some (.int x2)] (by decide) (Nat.le_of_ble_eq_true rfl) rfl (fun X C => ?_)
  unfold wX11_keep at hw
  refine r_iload_n C dX11_keep_0 rfl ?_
  refine kX11_102 C (sX11_isShelf hw) dX11_keep_1 (Nat.le_of_ble_eq_true rfl) rfl (Nat.le_of_ble_eq_true rfl) (fun v1 hw => ?_)
  refine r_if_eq 23 C dX11_keep_4 (by decide) (fun hc => ?_) (fun hc => ?_)
  · replace hw := it_t hc hw
    refine r_iconst (-1) C dX11_keep_23 (by decide) ?_
    exact r_iret C dX11_keep_24 ⟨_, rfl, hw⟩
  · replace hw := it_f hc hw
    refine r_iload_n C dX11_keep_7 rfl ?_
    refine r_iconst (-1) C dX11_keep_8 (by decide) ?_
    refine r_icmp_eq 25 C dX11_keep_9 (by decide) (fun hc => ?_) (fun hc => ?_)
    · replace hw := it_t hc hw
      exact tX11_keep_25 C (k0) hw
    · replace hw := it_f hc hw
      refine r_aload_n C dX11_keep_12 rfl ?_
      refine gX11_76 C (k0) dX11_keep_13 ?_
      refine r_iload_n C dX11_keep_16 rfl ?_
      refine kX11_344 C (kr11_12 (k0)) (sX0_has (kr11_12 (k0)) hw) dX11_keep_17 (Nat.le_of_ble_eq_true rfl) rfl (Nat.le_of_ble_eq_true rfl) (fun v2 hw => ?_)
      refine r_if_ne 25 C dX11_keep_20 (by decide) (fun hc => ?_) (fun hc => ?_)
      · replace hw := it_f hc hw
        exact tX11_keep_25 C (k0) hw
      · replace hw := it_t hc hw
        refine r_iconst (-1) C dX11_keep_23 (by decide) ?_
        exact r_iret C dX11_keep_24 ⟨_, rfl, hw⟩
def wX11_row (a0 : Nat) (x1 : Int32) (x2 : Int32) (x3 : Int32) (h : Hp) (Q : Int32 → Hp → Prop) : Prop :=
  wX11_isShelf x1 h (fun v1 => if v1 = 0 then (Q (-1 : Int32) h) else (if x2 < 0 then (Q (-1 : Int32) h) else (if (4 : Int32) < x2 then (Q (-1 : Int32) h) else (if x3 ≤ (60 : Int32) then (if 0 ≤ x3 then (vp_in x1 (ln (rf a0 13)) ∧ (wX10_holdRow (rf (rf a0 13) x1.toNatClampNeg) x2 x3 h (fun h4 => Q (1 : Int32) h4))) else (Q (-14 : Int32) h)) else (Q (-1 : Int32) h)))))
set_option maxRecDepth 20000 in
theorem sX11_row {G : GG} {a0 : Nat} {x1 : Int32} {x2 : Int32} {x3 : Int32} {h : Hp} {Q : Int32 → Hp → Prop} (k0 : kd a0 = 11) (hw : wX11_row a0 x1 x2 x3 h Q) : CI G 1 yX11_row cX11_row 4 (some .int) [.ref (G.1 a0), .int x1, .int x2, .int x3] h Q := by
  refine CO_of [some (.ref (G.1 a0)), some (.int x1), some (.int x2), some (.int x3)] (by decide) (Nat.le_of_ble_eq_true rfl) rfl (fun X C => ?_)
  unfold wX11_row at hw
  refine r_iload_n C dX11_row_0 rfl ?_
  refine kX11_102 C (sX11_isShelf hw) dX11_row_1 (Nat.le_of_ble_eq_true rfl) rfl (Nat.le_of_ble_eq_true rfl) (fun v1 hw => ?_)
  refine r_if_eq 22 C dX11_row_4 (by decide) (fun hc => ?_) (fun hc => ?_)
  · replace hw := it_t hc hw
    refine r_iconst (-1) C dX11_row_22 (by decide) ?_
    exact r_iret C dX11_row_23 ⟨_, rfl, hw⟩
  · replace hw := it_f hc hw
    refine r_iload_n C dX11_row_7 rfl ?_
    refine r_if_lt 22 C dX11_row_8 (by decide) (fun hc => ?_) (fun hc => ?_)
    · replace hw := it_t hc hw
      refine r_iconst (-1) C dX11_row_22 (by decide) ?_
      exact r_iret C dX11_row_23 ⟨_, rfl, hw⟩
    · replace hw := it_f hc hw
      refine r_iload_n C dX11_row_11 rfl ?_
      refine r_iconst (4) C dX11_row_12 (by decide) ?_
      refine r_icmp_gt 22 C dX11_row_13 (by decide) (fun hc => ?_) (fun hc => ?_)
      · replace hw := it_t hc hw
        refine r_iconst (-1) C dX11_row_22 (by decide) ?_
        exact r_iret C dX11_row_23 ⟨_, rfl, hw⟩
      · replace hw := it_f hc hw
        refine r_iload_n C dX11_row_16 rfl ?_
        refine r_bipush (60) C dX11_row_17 (by decide) ?_
        refine r_icmp_le 24 C dX11_row_19 (by decide) (fun hc => ?_) (fun hc => ?_)
        · replace hw := it_t hc hw
          refine r_iload_n C dX11_row_24 rfl ?_
          refine r_if_ge 31 C dX11_row_25 (by decide) (fun hc => ?_) (fun hc => ?_)
          · replace hw := it_t hc hw
            refine r_aload_n C dX11_row_31 rfl ?_
            refine gX11_82 C (k0) dX11_row_32 ?_
            refine r_iload_n C dX11_row_35 rfl ?_
            obtain ⟨hi2, hw⟩ := hw
            refine r_aald C (kr11_13 (k0)) hi2 dX11_row_36 ?_
            refine r_iload_n C dX11_row_37 rfl ?_
            refine r_iload_n C dX11_row_38 rfl ?_
            refine kX11_348 C (kr25 (kr11_13 (k0)) hi2) (sX10_holdRow (kr25 (kr11_13 (k0)) hi2) hw) dX11_row_39 (Nat.le_of_ble_eq_true rfl) rfl (Nat.le_of_ble_eq_true rfl) (fun h4 hw => ?_)
            refine r_iconst (1) C dX11_row_42 (by decide) ?_
            exact r_iret C dX11_row_43 ⟨_, rfl, hw⟩
          · replace hw := it_f hc hw
            refine r_bipush (-14) C dX11_row_28 (by decide) ?_
            exact r_iret C dX11_row_30 ⟨_, rfl, hw⟩
        · replace hw := it_f hc hw
          refine r_iconst (-1) C dX11_row_22 (by decide) ?_
          exact r_iret C dX11_row_23 ⟨_, rfl, hw⟩
def wX11_refusalAt (a0 : Nat) (x1 : Int32) (x2 : Int32) (h : Hp) (Q : Int32 → Prop) : Prop :=
  wX11_isShelf x1 h (fun v1 => if v1 = 0 then (Q (-1 : Int32)) else (vp_in x1 (ln (rf a0 13)) ∧ (wX10_isRow (rf (rf a0 13) x1.toNatClampNeg) h (fun v3 => if v3 = 0 then (wX10_isEmpty (rf (rf a0 13) x1.toNatClampNeg) h (fun v5 => if v5 = 0 then (Q (-12 : Int32)) else (Q (-11 : Int32)))) else (wX10_hasPlaces (rf (rf a0 13) x1.toNatClampNeg) x2 (1 : Int32) h (fun v4 => if v4 = 0 then (Q (-13 : Int32)) else (Q (0 : Int32))))))))
set_option maxRecDepth 20000 in
theorem sX11_refusalAt {G : GG} {a0 : Nat} {x1 : Int32} {x2 : Int32} {h : Hp} {Q : Int32 → Prop} (k0 : kd a0 = 11) (hw : wX11_refusalAt a0 x1 x2 h Q) : PI G 2 yX11_refusalAt cX11_refusalAt 4 (some .int) [.ref (G.1 a0), .int x1, .int x2] h Q := by
  refine CO_of [some (.ref (G.1 a0)), some (.int x1), some (.int x2), none] (by decide) (Nat.le_of_ble_eq_true rfl) rfl (fun X C => ?_)
  unfold wX11_refusalAt at hw
  refine r_iload_n C dX11_refusalAt_0 rfl ?_
  refine kX11_102 C (sX11_isShelf hw) dX11_refusalAt_1 (Nat.le_of_ble_eq_true rfl) rfl (Nat.le_of_ble_eq_true rfl) (fun v1 hw => ?_)
  refine r_if_ne 9 C dX11_refusalAt_4 (by decide) (fun hc => ?_) (fun hc => ?_)
  · replace hw := it_f hc hw
    refine r_aload_n C dX11_refusalAt_9 rfl ?_
    refine gX11_82 C (k0) dX11_refusalAt_10 ?_
    refine r_iload_n C dX11_refusalAt_13 rfl ?_
    obtain ⟨hi2, hw⟩ := hw
    refine r_aald C (kr11_13 (k0)) hi2 dX11_refusalAt_14 ?_
    refine r_astore_n [some (.ref (G.1 a0)), some (.int x1), some (.int x2), some (.ref (G.1 (rf (rf a0 13) x1.toNatClampNeg)))] C dX11_refusalAt_15 (Nat.le_of_ble_eq_true rfl) rfl rfl ?_
    refine r_aload_n C dX11_refusalAt_16 rfl ?_
    refine kX11_358 C (kr25 (kr11_13 (k0)) hi2) (sX10_isRow (kr25 (kr11_13 (k0)) hi2) hw) dX11_refusalAt_17 (Nat.le_of_ble_eq_true rfl) rfl (Nat.le_of_ble_eq_true rfl) (fun v3 hw => ?_)
    refine r_if_ne 38 C dX11_refusalAt_20 (by decide) (fun hc => ?_) (fun hc => ?_)
    · replace hw := it_f hc hw
      refine r_aload_n C dX11_refusalAt_38 rfl ?_
      refine r_iload_n C dX11_refusalAt_39 rfl ?_
      refine r_iconst (1) C dX11_refusalAt_40 (by decide) ?_
      refine kX11_361 C (kr25 (kr11_13 (k0)) hi2) (sX10_hasPlaces (kr25 (kr11_13 (k0)) hi2) hw) dX11_refusalAt_41 (Nat.le_of_ble_eq_true rfl) rfl (Nat.le_of_ble_eq_true rfl) (fun v4 hw => ?_)
      refine r_if_eq 51 C dX11_refusalAt_44 (by decide) (fun hc => ?_) (fun hc => ?_)
      · replace hw := it_t hc hw
        refine r_bipush (-13) C dX11_refusalAt_51 (by decide) ?_
        exact r_iret C dX11_refusalAt_53 ⟨_, rfl, rfl, hw⟩
      · replace hw := it_f hc hw
        refine r_iconst (0) C dX11_refusalAt_47 (by decide) ?_
        refine r_goto 53 C dX11_refusalAt_48 (by decide) ?_
        exact r_iret C dX11_refusalAt_53 ⟨_, rfl, rfl, hw⟩
    · replace hw := it_t hc hw
      refine r_aload_n C dX11_refusalAt_23 rfl ?_
      refine kX11_105 C (kr25 (kr11_13 (k0)) hi2) (sX10_isEmpty (kr25 (kr11_13 (k0)) hi2) hw) dX11_refusalAt_24 (Nat.le_of_ble_eq_true rfl) rfl (Nat.le_of_ble_eq_true rfl) (fun v5 hw => ?_)
      refine r_if_eq 35 C dX11_refusalAt_27 (by decide) (fun hc => ?_) (fun hc => ?_)
      · replace hw := it_t hc hw
        refine r_bipush (-12) C dX11_refusalAt_35 (by decide) ?_
        exact r_iret C dX11_refusalAt_37 ⟨_, rfl, rfl, hw⟩
      · replace hw := it_f hc hw
        refine r_bipush (-11) C dX11_refusalAt_30 (by decide) ?_
        refine r_goto 37 C dX11_refusalAt_32 (by decide) ?_
        exact r_iret C dX11_refusalAt_37 ⟨_, rfl, rfl, hw⟩
  · replace hw := it_t hc hw
    refine r_iconst (-1) C dX11_refusalAt_7 (by decide) ?_
    exact r_iret C dX11_refusalAt_8 ⟨_, rfl, rfl, hw⟩
def wX11_put (a0 : Nat) (x1 : Int32) (x2 : Int32) (x3 : Int64) (h : Hp) (Q : Int32 → Hp → Prop) : Prop :=
  wX11_refusalAt a0 x1 x2 h (fun v1 => if v1 = 0 then (vp_in x1 (ln (rf a0 13)) ∧ (wX10_set (rf (rf a0 13) x1.toNatClampNeg) x2 x3 h (fun h4 => Q (1 : Int32) h4))) else (Q v1 h))
set_option maxRecDepth 20000 in
theorem sX11_put {G : GG} {a0 : Nat} {x1 : Int32} {x2 : Int32} {x3 : Int64} {h : Hp} {Q : Int32 → Hp → Prop} (k0 : kd a0 = 11) (hw : wX11_put a0 x1 x2 x3 h Q) : CI G 3 yX11_put cX11_put 6 (some .int) [.ref (G.1 a0), .int x1, .int x2, .long x3] h Q := by
  refine CO_of [some (.ref (G.1 a0)), some (.int x1), some (.int x2), some (.long x3), none, none] (by decide) (Nat.le_of_ble_eq_true rfl) rfl (fun X C => ?_)
  unfold wX11_put at hw
  refine r_aload_n C dX11_put_0 rfl ?_
  refine r_iload_n C dX11_put_1 rfl ?_
  refine r_iload_n C dX11_put_2 rfl ?_
  refine kX11_351 C (k0) (sX11_refusalAt (k0) hw) dX11_put_3 (Nat.le_of_ble_eq_true rfl) rfl (Nat.le_of_ble_eq_true rfl) (fun v1 hw => ?_)
  refine r_istore [some (.ref (G.1 a0)), some (.int x1), some (.int x2), some (.long x3), none, some (.int v1)] C dX11_put_6 (Nat.le_of_ble_eq_true rfl) rfl rfl ?_
  refine r_iload C dX11_put_8 rfl ?_
  refine r_if_eq 16 C dX11_put_10 (by decide) (fun hc => ?_) (fun hc => ?_)
  · replace hw := it_t hc hw
    refine r_aload_n C dX11_put_16 rfl ?_
    refine gX11_82 C (k0) dX11_put_17 ?_
    refine r_iload_n C dX11_put_20 rfl ?_
    obtain ⟨hi2, hw⟩ := hw
    refine r_aald C (kr11_13 (k0)) hi2 dX11_put_21 ?_
    refine r_iload_n C dX11_put_22 rfl ?_
    refine r_lload_n C dX11_put_23 rfl ?_
    refine kX11_354 C (kr25 (kr11_13 (k0)) hi2) (sX10_set (kr25 (kr11_13 (k0)) hi2) hw) dX11_put_24 (Nat.le_of_ble_eq_true rfl) rfl (Nat.le_of_ble_eq_true rfl) (fun h4 hw => ?_)
    refine r_iconst (1) C dX11_put_27 (by decide) ?_
    exact r_iret C dX11_put_28 ⟨_, rfl, hw⟩
  · replace hw := it_f hc hw
    refine r_iload C dX11_put_13 rfl ?_
    exact r_iret C dX11_put_15 ⟨_, rfl, hw⟩
def wX11_element (a0 : Nat) (x1 : Int32) (x2 : Int32) (h : Hp) (Q : Int64 → Prop) : Prop :=
  wX11_refusalAt a0 x1 x2 h (fun v1 => if v1 = 0 then (vp_in x1 (ln (rf a0 13)) ∧ (wX10_at (rf (rf a0 13) x1.toNatClampNeg) x2 h (fun v3 => Q v3))) else (Q (-9223372036854775808 : Int64)))
set_option maxRecDepth 20000 in
theorem sX11_element {G : GG} {a0 : Nat} {x1 : Int32} {x2 : Int32} {h : Hp} {Q : Int64 → Prop} (k0 : kd a0 = 11) (hw : wX11_element a0 x1 x2 h Q) : PJ G 3 yX11_element cX11_element 3 (some .long) [.ref (G.1 a0), .int x1, .int x2] h Q := by
  refine CO_of [some (.ref (G.1 a0)), some (.int x1), some (.int x2)] (by decide) (Nat.le_of_ble_eq_true rfl) rfl (fun X C => ?_)
  unfold wX11_element at hw
  refine r_aload_n C dX11_element_0 rfl ?_
  refine r_iload_n C dX11_element_1 rfl ?_
  refine r_iload_n C dX11_element_2 rfl ?_
  refine kX11_351 C (k0) (sX11_refusalAt (k0) hw) dX11_element_3 (Nat.le_of_ble_eq_true rfl) rfl (Nat.le_of_ble_eq_true rfl) (fun v1 hw => ?_)
  refine r_if_ne 22 C dX11_element_6 (by decide) (fun hc => ?_) (fun hc => ?_)
  · replace hw := it_f hc hw
    refine r_ldc2_w (-9223372036854775808) C wd861 dX11_element_22 ?_
    exact r_lret C dX11_element_25 ⟨_, rfl, rfl, hw⟩
  · replace hw := it_t hc hw
    refine r_aload_n C dX11_element_9 rfl ?_
    refine gX11_82 C (k0) dX11_element_10 ?_
    refine r_iload_n C dX11_element_13 rfl ?_
    obtain ⟨hi2, hw⟩ := hw
    refine r_aald C (kr11_13 (k0)) hi2 dX11_element_14 ?_
    refine r_iload_n C dX11_element_15 rfl ?_
    refine kX11_124 C (kr25 (kr11_13 (k0)) hi2) (sX10_at (kr25 (kr11_13 (k0)) hi2) hw) dX11_element_16 (Nat.le_of_ble_eq_true rfl) rfl (Nat.le_of_ble_eq_true rfl) (fun v3 hw => ?_)
    refine r_goto 25 C dX11_element_19 (by decide) ?_
    exact r_lret C dX11_element_25 ⟨_, rfl, rfl, hw⟩
def wX11_shift (a0 : Nat) (x1 : Int32) (x2 : Int32) (x3 : Int32) (x4 : Int32) (x5 : Int32) (h : Hp) (Q : Int32 → Hp → Prop) : Prop :=
  wX11_isShelf x1 h (fun v1 => if v1 = 0 then (Q (-1 : Int32) h) else (wX11_isShelf x3 h (fun v2 => if v2 = 0 then (Q (-1 : Int32) h) else (vp_in x1 (ln (rf a0 13)) ∧ (vp_in x3 (ln (rf a0 13)) ∧ (wX10_isEmpty (rf (rf a0 13) x1.toNatClampNeg) h (fun v5 => if v5 = 0 then (wX10_isEmpty (rf (rf a0 13) x3.toNatClampNeg) h (fun v6 => if v6 = 0 then (wX10_isRow (rf (rf a0 13) x1.toNatClampNeg) h (fun v7 => if v7 = 0 then (Q (-12 : Int32) h) else (wX10_isRow (rf (rf a0 13) x3.toNatClampNeg) h (fun v8 => if v8 = 0 then (Q (-12 : Int32) h) else (if (gI h (rf (rf a0 13) x1.toNatClampNeg) 2) = (gI h (rf (rf a0 13) x3.toNatClampNeg) 2) then (wX10_hasPlaces (rf (rf a0 13) x1.toNatClampNeg) x2 x5 h (fun v9 => if v9 = 0 then (Q (-13 : Int32) h) else (wX10_hasPlaces (rf (rf a0 13) x3.toNatClampNeg) x4 x5 h (fun v10 => if v10 = 0 then (Q (-13 : Int32) h) else (cpOK (rf (rf (rf a0 13) x1.toNatClampNeg) 0) (rf (rf (rf a0 13) x3.toNatClampNeg) 0) x2 x4 x5 ∧ (∀ h12 : Hp, h12 = cpL h (rf (rf (rf a0 13) x1.toNatClampNeg) 0) (rf (rf (rf a0 13) x3.toNatClampNeg) 0) x2.toNatClampNeg x4.toNatClampNeg x5.toNatClampNeg → (Q x5 h12))))))) else (Q (-12 : Int32) h)))))) else (Q (-11 : Int32) h))) else (Q (-11 : Int32) h))))))))
set_option maxRecDepth 20000 in
theorem sX11_shift {G : GG} {a0 : Nat} {x1 : Int32} {x2 : Int32} {x3 : Int32} {x4 : Int32} {x5 : Int32} {h : Hp} {Q : Int32 → Hp → Prop} (k0 : kd a0 = 11) (hw : wX11_shift a0 x1 x2 x3 x4 x5 h Q) : CI G 2 yX11_shift cX11_shift 8 (some .int) [.ref (G.1 a0), .int x1, .int x2, .int x3, .int x4, .int x5] h Q := by
  refine CO_of [some (.ref (G.1 a0)), some (.int x1), some (.int x2), some (.int x3), some (.int x4), some (.int x5), none, none] (by decide) (Nat.le_of_ble_eq_true rfl) rfl (fun X C => ?_)
  unfold wX11_shift at hw
  refine r_iload_n C dX11_shift_0 rfl ?_
  refine kX11_102 C (sX11_isShelf hw) dX11_shift_1 (Nat.le_of_ble_eq_true rfl) rfl (Nat.le_of_ble_eq_true rfl) (fun v1 hw => ?_)
  refine r_if_eq 14 C dX11_shift_4 (by decide) (fun hc => ?_) (fun hc => ?_)
  · replace hw := it_t hc hw
    refine r_iconst (-1) C dX11_shift_14 (by decide) ?_
    exact r_iret C dX11_shift_15 ⟨_, rfl, hw⟩
  · replace hw := it_f hc hw
    refine r_iload_n C dX11_shift_7 rfl ?_
    refine kX11_102 C (sX11_isShelf hw) dX11_shift_8 (Nat.le_of_ble_eq_true rfl) rfl (Nat.le_of_ble_eq_true rfl) (fun v2 hw => ?_)
    refine r_if_ne 16 C dX11_shift_11 (by decide) (fun hc => ?_) (fun hc => ?_)
    · replace hw := it_f hc hw
      refine r_aload_n C dX11_shift_16 rfl ?_
      refine gX11_82 C (k0) dX11_shift_17 ?_
      refine r_iload_n C dX11_shift_20 rfl ?_
      obtain ⟨hi3, hw⟩ := hw
      refine r_aald C (kr11_13 (k0)) hi3 dX11_shift_21 ?_
      refine r_astore [some (.ref (G.1 a0)), some (.int x1), some (.int x2), some (.int x3), some (.int x4), some (.int x5), some (.ref (G.1 (rf (rf a0 13) x1.toNatClampNeg))), none] C dX11_shift_22 (Nat.le_of_ble_eq_true rfl) rfl rfl ?_
      refine r_aload_n C dX11_shift_24 rfl ?_
      refine gX11_82 C (k0) dX11_shift_25 ?_
      refine r_iload_n C dX11_shift_28 rfl ?_
      obtain ⟨hi4, hw⟩ := hw
      refine r_aald C (kr11_13 (k0)) hi4 dX11_shift_29 ?_
      refine r_astore [some (.ref (G.1 a0)), some (.int x1), some (.int x2), some (.int x3), some (.int x4), some (.int x5), some (.ref (G.1 (rf (rf a0 13) x1.toNatClampNeg))), some (.ref (G.1 (rf (rf a0 13) x3.toNatClampNeg)))] C dX11_shift_30 (Nat.le_of_ble_eq_true rfl) rfl rfl ?_
      refine r_aload C dX11_shift_32 rfl ?_
      refine kX11_105 C (kr25 (kr11_13 (k0)) hi3) (sX10_isEmpty (kr25 (kr11_13 (k0)) hi3) hw) dX11_shift_34 (Nat.le_of_ble_eq_true rfl) rfl (Nat.le_of_ble_eq_true rfl) (fun v5 hw => ?_)
      refine r_if_ne 48 C dX11_shift_37 (by decide) (fun hc => ?_) (fun hc => ?_)
      · replace hw := it_f hc hw
        refine r_bipush (-11) C dX11_shift_48 (by decide) ?_
        exact r_iret C dX11_shift_50 ⟨_, rfl, hw⟩
      · replace hw := it_t hc hw
        refine r_aload C dX11_shift_40 rfl ?_
        refine kX11_105 C (kr25 (kr11_13 (k0)) hi4) (sX10_isEmpty (kr25 (kr11_13 (k0)) hi4) hw) dX11_shift_42 (Nat.le_of_ble_eq_true rfl) rfl (Nat.le_of_ble_eq_true rfl) (fun v6 hw => ?_)
        refine r_if_eq 51 C dX11_shift_45 (by decide) (fun hc => ?_) (fun hc => ?_)
        · replace hw := it_t hc hw
          refine r_aload C dX11_shift_51 rfl ?_
          refine kX11_358 C (kr25 (kr11_13 (k0)) hi3) (sX10_isRow (kr25 (kr11_13 (k0)) hi3) hw) dX11_shift_53 (Nat.le_of_ble_eq_true rfl) rfl (Nat.le_of_ble_eq_true rfl) (fun v7 hw => ?_)
          refine r_if_eq 80 C dX11_shift_56 (by decide) (fun hc => ?_) (fun hc => ?_)
          · replace hw := it_t hc hw
            refine r_bipush (-12) C dX11_shift_80 (by decide) ?_
            exact r_iret C dX11_shift_82 ⟨_, rfl, hw⟩
          · replace hw := it_f hc hw
            refine r_aload C dX11_shift_59 rfl ?_
            refine kX11_358 C (kr25 (kr11_13 (k0)) hi4) (sX10_isRow (kr25 (kr11_13 (k0)) hi4) hw) dX11_shift_61 (Nat.le_of_ble_eq_true rfl) rfl (Nat.le_of_ble_eq_true rfl) (fun v8 hw => ?_)
            refine r_if_eq 80 C dX11_shift_64 (by decide) (fun hc => ?_) (fun hc => ?_)
            · replace hw := it_t hc hw
              refine r_bipush (-12) C dX11_shift_80 (by decide) ?_
              exact r_iret C dX11_shift_82 ⟨_, rfl, hw⟩
            · replace hw := it_f hc hw
              refine r_aload C dX11_shift_67 rfl ?_
              refine gX11_365 C (kr25 (kr11_13 (k0)) hi3) dX11_shift_69 ?_
              refine r_aload C dX11_shift_72 rfl ?_
              refine gX11_365 C (kr25 (kr11_13 (k0)) hi4) dX11_shift_74 ?_
              refine r_icmp_eq 83 C dX11_shift_77 (by decide) (fun hc => ?_) (fun hc => ?_)
              · replace hw := it_t hc hw
                refine r_aload C dX11_shift_83 rfl ?_
                refine r_iload_n C dX11_shift_85 rfl ?_
                refine r_iload C dX11_shift_86 rfl ?_
                refine kX11_361 C (kr25 (kr11_13 (k0)) hi3) (sX10_hasPlaces (kr25 (kr11_13 (k0)) hi3) hw) dX11_shift_88 (Nat.le_of_ble_eq_true rfl) rfl (Nat.le_of_ble_eq_true rfl) (fun v9 hw => ?_)
                refine r_if_eq 106 C dX11_shift_91 (by decide) (fun hc => ?_) (fun hc => ?_)
                · replace hw := it_t hc hw
                  refine r_bipush (-13) C dX11_shift_106 (by decide) ?_
                  exact r_iret C dX11_shift_108 ⟨_, rfl, hw⟩
                · replace hw := it_f hc hw
                  refine r_aload C dX11_shift_94 rfl ?_
                  refine r_iload C dX11_shift_96 rfl ?_
                  refine r_iload C dX11_shift_98 rfl ?_
                  refine kX11_361 C (kr25 (kr11_13 (k0)) hi4) (sX10_hasPlaces (kr25 (kr11_13 (k0)) hi4) hw) dX11_shift_100 (Nat.le_of_ble_eq_true rfl) rfl (Nat.le_of_ble_eq_true rfl) (fun v10 hw => ?_)
                  refine r_if_ne 109 C dX11_shift_103 (by decide) (fun hc => ?_) (fun hc => ?_)
                  · replace hw := it_f hc hw
                    refine r_aload C dX11_shift_109 rfl ?_
                    refine gX11_368 C (kr25 (kr11_13 (k0)) hi3) dX11_shift_111 ?_
                    refine r_iload_n C dX11_shift_114 rfl ?_
                    refine r_aload C dX11_shift_115 rfl ?_
                    refine gX11_368 C (kr25 (kr11_13 (k0)) hi4) dX11_shift_117 ?_
                    refine r_iload C dX11_shift_120 rfl ?_
                    refine r_iload C dX11_shift_122 rfl ?_
                    obtain ⟨hc11, hw⟩ := hw
                    refine r_copyl C ⟨wd1038, wd547, wd546, wd108⟩ (kr10_0 (kr25 (kr11_13 (k0)) hi3)) (kr10_0 (kr25 (kr11_13 (k0)) hi4)) hc11 (Nat.le_of_ble_eq_true rfl) rfl (Nat.le_of_ble_eq_true rfl) dX11_shift_124 ?_
                    refine r_toph (fun h12 eh12 => ?_)
                    replace hw := hw h12 eh12
                    refine r_iload C dX11_shift_127 rfl ?_
                    exact r_iret C dX11_shift_129 ⟨_, rfl, hw⟩
                  · replace hw := it_t hc hw
                    refine r_bipush (-13) C dX11_shift_106 (by decide) ?_
                    exact r_iret C dX11_shift_108 ⟨_, rfl, hw⟩
              · replace hw := it_f hc hw
                refine r_bipush (-12) C dX11_shift_80 (by decide) ?_
                exact r_iret C dX11_shift_82 ⟨_, rfl, hw⟩
        · replace hw := it_f hc hw
          refine r_bipush (-11) C dX11_shift_48 (by decide) ?_
          exact r_iret C dX11_shift_50 ⟨_, rfl, hw⟩
    · replace hw := it_t hc hw
      refine r_iconst (-1) C dX11_shift_14 (by decide) ?_
      exact r_iret C dX11_shift_15 ⟨_, rfl, hw⟩
def wX11_taken (a0 : Nat) (x1 : Int32) (x2 : Int32) (h : Hp) (Q : Int32 → Prop) : Prop :=
  wX11_isShelf x1 h (fun v1 => if v1 = 0 then (Q (-1 : Int32)) else (wX0_isKind x2 h (fun v2 => if v2 = 0 then (Q (-1 : Int32)) else (vp_in x1 (ln (rf a0 13)) ∧ (wX10_isEmpty (rf (rf a0 13) x1.toNatClampNeg) h (fun v4 => if v4 = 0 then (wX10_isRow (rf (rf a0 13) x1.toNatClampNeg) h (fun v5 => if v5 = 0 then (wX0_kindOf (rf a0 12) (gI h (rf (rf a0 13) x1.toNatClampNeg) 1) h (fun v6 => wX0_isUnder v6 x2 h (fun v7 => if v7 = 0 then (Q (-12 : Int32)) else (Q v6)))) else (Q (-12 : Int32)))) else (Q (-11 : Int32))))))))
set_option maxRecDepth 20000 in
theorem sX11_taken {G : GG} {a0 : Nat} {x1 : Int32} {x2 : Int32} {h : Hp} {Q : Int32 → Prop} (k0 : kd a0 = 11) (hw : wX11_taken a0 x1 x2 h Q) : PI G 2 yX11_taken cX11_taken 5 (some .int) [.ref (G.1 a0), .int x1, .int x2] h Q := by
  refine CO_of [some (.ref (G.1 a0)), some (.int x1), some (.int x2), none, none] (by decide) (Nat.le_of_ble_eq_true rfl) rfl (fun X C => ?_)
  unfold wX11_taken at hw
  refine r_iload_n C dX11_taken_0 rfl ?_
  refine kX11_102 C (sX11_isShelf hw) dX11_taken_1 (Nat.le_of_ble_eq_true rfl) rfl (Nat.le_of_ble_eq_true rfl) (fun v1 hw => ?_)
  refine r_if_eq 14 C dX11_taken_4 (by decide) (fun hc => ?_) (fun hc => ?_)
  · replace hw := it_t hc hw
    refine r_iconst (-1) C dX11_taken_14 (by decide) ?_
    exact r_iret C dX11_taken_15 ⟨_, rfl, rfl, hw⟩
  · replace hw := it_f hc hw
    refine r_iload_n C dX11_taken_7 rfl ?_
    refine kX11_331 C (sX0_isKind hw) dX11_taken_8 (Nat.le_of_ble_eq_true rfl) rfl (Nat.le_of_ble_eq_true rfl) (fun v2 hw => ?_)
    refine r_if_ne 16 C dX11_taken_11 (by decide) (fun hc => ?_) (fun hc => ?_)
    · replace hw := it_f hc hw
      refine r_aload_n C dX11_taken_16 rfl ?_
      refine gX11_82 C (k0) dX11_taken_17 ?_
      refine r_iload_n C dX11_taken_20 rfl ?_
      obtain ⟨hi3, hw⟩ := hw
      refine r_aald C (kr11_13 (k0)) hi3 dX11_taken_21 ?_
      refine r_astore_n [some (.ref (G.1 a0)), some (.int x1), some (.int x2), some (.ref (G.1 (rf (rf a0 13) x1.toNatClampNeg))), none] C dX11_taken_22 (Nat.le_of_ble_eq_true rfl) rfl rfl ?_
      refine r_aload_n C dX11_taken_23 rfl ?_
      refine kX11_105 C (kr25 (kr11_13 (k0)) hi3) (sX10_isEmpty (kr25 (kr11_13 (k0)) hi3) hw) dX11_taken_24 (Nat.le_of_ble_eq_true rfl) rfl (Nat.le_of_ble_eq_true rfl) (fun v4 hw => ?_)
      refine r_if_eq 33 C dX11_taken_27 (by decide) (fun hc => ?_) (fun hc => ?_)
      · replace hw := it_t hc hw
        refine r_aload_n C dX11_taken_33 rfl ?_
        refine kX11_358 C (kr25 (kr11_13 (k0)) hi3) (sX10_isRow (kr25 (kr11_13 (k0)) hi3) hw) dX11_taken_34 (Nat.le_of_ble_eq_true rfl) rfl (Nat.le_of_ble_eq_true rfl) (fun v5 hw => ?_)
        refine r_if_eq 43 C dX11_taken_37 (by decide) (fun hc => ?_) (fun hc => ?_)
        · replace hw := it_t hc hw
          refine r_aload_n C dX11_taken_43 rfl ?_
          refine gX11_76 C (k0) dX11_taken_44 ?_
          refine r_aload_n C dX11_taken_47 rfl ?_
          refine gX11_377 C (kr25 (kr11_13 (k0)) hi3) dX11_taken_48 ?_
          refine kX11_380 C (kr11_12 (k0)) (sX0_kindOf (kr11_12 (k0)) hw) dX11_taken_51 (Nat.le_of_ble_eq_true rfl) rfl (Nat.le_of_ble_eq_true rfl) (fun v6 hw => ?_)
          refine r_istore [some (.ref (G.1 a0)), some (.int x1), some (.int x2), some (.ref (G.1 (rf (rf a0 13) x1.toNatClampNeg))), some (.int v6)] C dX11_taken_54 (Nat.le_of_ble_eq_true rfl) rfl rfl ?_
          refine r_iload C dX11_taken_56 rfl ?_
          refine r_iload_n C dX11_taken_58 rfl ?_
          refine kX11_383 C (sX0_isUnder hw) dX11_taken_59 (Nat.le_of_ble_eq_true rfl) rfl (Nat.le_of_ble_eq_true rfl) (fun v7 hw => ?_)
          refine r_if_eq 70 C dX11_taken_62 (by decide) (fun hc => ?_) (fun hc => ?_)
          · replace hw := it_t hc hw
            refine r_bipush (-12) C dX11_taken_70 (by decide) ?_
            exact r_iret C dX11_taken_72 ⟨_, rfl, rfl, hw⟩
          · replace hw := it_f hc hw
            refine r_iload C dX11_taken_65 rfl ?_
            refine r_goto 72 C dX11_taken_67 (by decide) ?_
            exact r_iret C dX11_taken_72 ⟨_, rfl, rfl, hw⟩
        · replace hw := it_f hc hw
          refine r_bipush (-12) C dX11_taken_40 (by decide) ?_
          exact r_iret C dX11_taken_42 ⟨_, rfl, rfl, hw⟩
      · replace hw := it_f hc hw
        refine r_bipush (-11) C dX11_taken_30 (by decide) ?_
        exact r_iret C dX11_taken_32 ⟨_, rfl, rfl, hw⟩
    · replace hw := it_t hc hw
      refine r_iconst (-1) C dX11_taken_14 (by decide) ?_
      exact r_iret C dX11_taken_15 ⟨_, rfl, rfl, hw⟩
def wX11_count (a0 : Nat) (x1 : Int32) (h : Hp) (Q : Int32 → Prop) : Prop :=
  if x1 = (0 : Int32) then (Q (gI h (rf a0 1) 3)) else (if x1 = (1 : Int32) then (Q (gI h (rf a0 0) 1)) else (if x1 = (2 : Int32) then (Q (gI h (rf a0 5) 1)) else (if x1 = (3 : Int32) then (wX11_peopleWithin a0 h (fun v1 => Q v1)) else (if x1 = (4 : Int32) then (Q (gI h a0 3)) else (if x1 = (5 : Int32) then (Q (gI h (rf a0 10) 5)) else (if x1 = (6 : Int32) then (Q (gI h (rf a0 12) 2)) else (if x1 = (7 : Int32) then (Q (gI h (rf a0 12) 3)) else (Q (-1 : Int32)))))))))
set_option maxRecDepth 20000 in
theorem sX11_count {G : GG} {a0 : Nat} {x1 : Int32} {h : Hp} {Q : Int32 → Prop} (k0 : kd a0 = 11) (hw : wX11_count a0 x1 h Q) : PI G 2 yX11_count cX11_count 2 (some .int) [.ref (G.1 a0), .int x1] h Q := by
  refine CO_of [some (.ref (G.1 a0)), some (.int x1)] (by decide) (Nat.le_of_ble_eq_true rfl) rfl (fun X C => ?_)
  unfold wX11_count at hw
  refine r_iload_n C dX11_count_0 rfl ?_
  by_cases hs1_0 : x1 = (0 : Int32)
  · replace hw := it_t hs1_0 hw
    refine r_tabIn (off := 47) (0) 48 C dX11_count_1 hs1_0 (by decide) ?_
    refine r_aload_n C dX11_count_48 rfl ?_
    refine gX11_19 C (k0) dX11_count_49 ?_
    refine gX11_197 C (kr11_1 (k0)) dX11_count_52 ?_
    exact r_iret C dX11_count_55 ⟨_, rfl, rfl, hw⟩
  replace hw := it_f hs1_0 hw
  by_cases hs1_1 : x1 = (1 : Int32)
  · replace hw := it_t hs1_1 hw
    refine r_tabIn (off := 55) (1) 56 C dX11_count_1 hs1_1 (by decide) ?_
    refine r_aload_n C dX11_count_56 rfl ?_
    refine gX11_10 C (k0) dX11_count_57 ?_
    refine gX11_249 C (kr11_0 (k0)) dX11_count_60 ?_
    exact r_iret C dX11_count_63 ⟨_, rfl, rfl, hw⟩
  replace hw := it_f hs1_1 hw
  by_cases hs1_2 : x1 = (2 : Int32)
  · replace hw := it_t hs1_2 hw
    refine r_tabIn (off := 63) (2) 64 C dX11_count_1 hs1_2 (by decide) ?_
    refine r_aload_n C dX11_count_64 rfl ?_
    refine gX11_39 C (k0) dX11_count_65 ?_
    refine gX11_167 C (kr11_5 (k0)) dX11_count_68 ?_
    exact r_iret C dX11_count_71 ⟨_, rfl, rfl, hw⟩
  replace hw := it_f hs1_2 hw
  by_cases hs1_3 : x1 = (3 : Int32)
  · replace hw := it_t hs1_3 hw
    refine r_tabIn (off := 71) (3) 72 C dX11_count_1 hs1_3 (by decide) ?_
    refine r_aload_n C dX11_count_72 rfl ?_
    refine kX11_216 C (k0) (sX11_peopleWithin (k0) hw) dX11_count_73 (Nat.le_of_ble_eq_true rfl) rfl (Nat.le_of_ble_eq_true rfl) (fun v1 hw => ?_)
    exact r_iret C dX11_count_76 ⟨_, rfl, rfl, hw⟩
  replace hw := it_f hs1_3 hw
  by_cases hs1_4 : x1 = (4 : Int32)
  · replace hw := it_t hs1_4 hw
    refine r_tabIn (off := 76) (4) 77 C dX11_count_1 hs1_4 (by decide) ?_
    refine r_aload_n C dX11_count_77 rfl ?_
    refine gX11_177 C (k0) dX11_count_78 ?_
    exact r_iret C dX11_count_81 ⟨_, rfl, rfl, hw⟩
  replace hw := it_f hs1_4 hw
  by_cases hs1_5 : x1 = (5 : Int32)
  · replace hw := it_t hs1_5 hw
    refine r_tabIn (off := 81) (5) 82 C dX11_count_1 hs1_5 (by decide) ?_
    refine r_aload_n C dX11_count_82 rfl ?_
    refine gX11_65 C (k0) dX11_count_83 ?_
    refine gX11_386 C (kr11_10 (k0)) dX11_count_86 ?_
    exact r_iret C dX11_count_89 ⟨_, rfl, rfl, hw⟩
  replace hw := it_f hs1_5 hw
  by_cases hs1_6 : x1 = (6 : Int32)
  · replace hw := it_t hs1_6 hw
    refine r_tabIn (off := 89) (6) 90 C dX11_count_1 hs1_6 (by decide) ?_
    refine r_aload_n C dX11_count_90 rfl ?_
    refine gX11_76 C (k0) dX11_count_91 ?_
    refine gX11_389 C (kr11_12 (k0)) dX11_count_94 ?_
    exact r_iret C dX11_count_97 ⟨_, rfl, rfl, hw⟩
  replace hw := it_f hs1_6 hw
  by_cases hs1_7 : x1 = (7 : Int32)
  · replace hw := it_t hs1_7 hw
    refine r_tabIn (off := 97) (7) 98 C dX11_count_1 hs1_7 (by decide) ?_
    refine r_aload_n C dX11_count_98 rfl ?_
    refine gX11_76 C (k0) dX11_count_99 ?_
    refine gX11_390 C (kr11_12 (k0)) dX11_count_102 ?_
    exact r_iret C dX11_count_105 ⟨_, rfl, rfl, hw⟩
  replace hw := it_f hs1_7 hw
  refine r_tabOut 106 C dX11_count_1 (by have qhs1_0 := lv_neT (a := 0) hs1_0 (by decide); have qhs1_1 := lv_neT (a := 1) hs1_1 (by decide); have qhs1_2 := lv_neT (a := 2) hs1_2 (by decide); have qhs1_3 := lv_neT (a := 3) hs1_3 (by decide); have qhs1_4 := lv_neT (a := 4) hs1_4 (by decide); have qhs1_5 := lv_neT (a := 5) hs1_5 (by decide); have qhs1_6 := lv_neT (a := 6) hs1_6 (by decide); have qhs1_7 := lv_neT (a := 7) hs1_7 (by decide); omega) (by decide) ?_
  refine r_iconst (-1) C dX11_count_106 (by decide) ?_
  exact r_iret C dX11_count_107 ⟨_, rfl, rfl, hw⟩
