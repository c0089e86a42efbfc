def wX12_relax (a0 : Nat) (x1 : Int32) (x2 : Int32) (x3 : Int32) (h : Hp) (Q : Int32 → Hp → Prop) : Prop :=
  vp_in x1 (ln (rf a0 40)) ∧ (∀ v2 : Int32, v2 = ((gI h (rf a0 40) x1.toNatClampNeg) + (1 : Int32)) → (vp_in (((10 : Int32) * x2) + x3) (ln (rf a0 40)) ∧ (if v2 < (gI h (rf a0 40) (((10 : Int32) * x2) + x3).toNatClampNeg) then (vp_in (((10 : Int32) * x2) + x3) (ln (rf a0 40)) ∧ (∀ h5 : Hp, h5 = sI h (rf a0 40) (((10 : Int32) * x2) + x3).toNatClampNeg v2 → (Q (1 : Int32) h5))) else (Q (0 : Int32) h))))
set_option maxRecDepth 20000 in
theorem sX12_relax {G : GG} {a0 : Nat} {x1 : Int32} {x2 : Int32} {x3 : Int32} {h : Hp} {Q : Int32 → Hp → Prop} (k0 : kd a0 = 12) (hw : wX12_relax a0 x1 x2 x3 h Q) : CI G 0 yX12_relax cX12_relax 5 (some .boolean) [.ref (G.1 a0), .int x1, .int x2, .int x3] h Q := by
  refine CO_of [some (.ref (G.1 a0)), some (.int x1), some (.int x2), some (.int x3), none] (by decide) (Nat.le_of_ble_eq_true rfl) rfl (fun X C => ?_)
  unfold wX12_relax at hw
  refine r_aload_n C dX12_relax_0 rfl ?_
  refine gX12_82 C (k0) dX12_relax_1 ?_
  refine r_iload_n C dX12_relax_4 rfl ?_
  obtain ⟨hi1, hw⟩ := hw
  refine r_iald C (kr12_40 (k0)) hi1 dX12_relax_5 ?_
  refine r_iconst (1) C dX12_relax_6 (by decide) ?_
  refine r_iadd C dX12_relax_7 ?_
  refine r_topi (fun v2 ev2 => ?_)
  replace hw := hw v2 ev2
  refine r_istore [some (.ref (G.1 a0)), some (.int x1), some (.int x2), some (.int x3), some (.int v2)] C dX12_relax_8 (Nat.le_of_ble_eq_true rfl) rfl rfl ?_
  refine r_iload C dX12_relax_10 rfl ?_
  refine r_aload_n C dX12_relax_12 rfl ?_
  refine gX12_82 C (k0) dX12_relax_13 ?_
  refine r_bipush (10) C dX12_relax_16 (by decide) ?_
  refine r_iload_n C dX12_relax_18 rfl ?_
  refine r_imul C dX12_relax_19 ?_
  refine r_iload_n C dX12_relax_20 rfl ?_
  refine r_iadd C dX12_relax_21 ?_
  obtain ⟨hi3, hw⟩ := hw
  refine r_iald C (kr12_40 (k0)) hi3 dX12_relax_22 ?_
  refine r_icmp_lt 28 C dX12_relax_23 (by decide) (fun hc => ?_) (fun hc => ?_)
  · replace hw := it_t hc hw
    refine r_aload_n C dX12_relax_28 rfl ?_
    refine gX12_82 C (k0) dX12_relax_29 ?_
    refine r_bipush (10) C dX12_relax_32 (by decide) ?_
    refine r_iload_n C dX12_relax_34 rfl ?_
    refine r_imul C dX12_relax_35 ?_
    refine r_iload_n C dX12_relax_36 rfl ?_
    refine r_iadd C dX12_relax_37 ?_
    refine r_iload C dX12_relax_38 rfl ?_
    obtain ⟨hi4, hw⟩ := hw
    refine r_iast C (kr12_40 (k0)) hi4 dX12_relax_40 ?_
    refine r_toph (fun h5 eh5 => ?_)
    replace hw := hw h5 eh5
    refine r_iconst (1) C dX12_relax_41 (by decide) ?_
    exact r_zret C dX12_relax_42 rfl ⟨_, rfl, hw⟩
  · replace hw := it_f hc hw
    refine r_iconst (0) C dX12_relax_26 (by decide) ?_
    exact r_zret C dX12_relax_27 rfl ⟨_, rfl, hw⟩
def jX12_escorted_146 (a0 : Nat) (x1 : Int32) (x2 : Int32) (x3 : Int32) (x4 : Int32) (x5 : Int32) (x6 : Int32) (x7 : Int32) (x8 : Int32) (h : Hp) (K41 : Int32 → Hp → Prop) (K52 : Int32 → Int32 → Hp → Prop) (K61 : Int32 → Int32 → Hp → Prop) (K92 : Int32 → Int32 → Hp → Prop) (Q : Int32 → Hp → Prop) : Prop :=
  if (x2 - x5) < x7 then (∀ v1 : Int32, v1 = x7 + (1 : Int32) → (K92 x4 v1 h)) else (if (x3 - x6) < x8 then (∀ v2 : Int32, v2 = x7 + (1 : Int32) → (K92 x4 v2 h)) else (wX12_relax a0 (((10 : Int32) * x5) + x6) (x5 + x7) (x6 + x8) h (fun v3 h4 => if v3 = 0 then (∀ v5 : Int32, v5 = x7 + (1 : Int32) → (K92 x4 v5 h4)) else (∀ v6 : Int32, v6 = x7 + (1 : Int32) → (K92 (1 : Int32) v6 h4)))))
set_option maxRecDepth 20000 in
theorem tX12_escorted_146 {G : GG} {X : XX} {a0 : Nat} {x1 : Int32} {x2 : Int32} {x3 : Int32} {x4 : Int32} {x5 : Int32} {x6 : Int32} {x7 : Int32} {x8 : Int32} {h : Hp}  {K41 : Int32 → Hp → Prop} {K52 : Int32 → Int32 → Hp → Prop} {K61 : Int32 → Int32 → Hp → Prop} {K92 : Int32 → Int32 → Hp → Prop} {Q : Int32 → Hp → Prop} (C : Cx G RX12 cX12_escorted 9 (some .int) 1 0 0 X) (k0 : kd a0 = 12) (hK41 : ∀ (y4 : Int32) (h' : Hp), K41 y4 h' → R0 G X 0 0 (ZM G (fun r h' => ∃ v, r = some (.int v) ∧ Q v h') X) 41 [some (.ref (G.1 a0)), some (.int x1), some (.int x2), some (.int x3), some (.int y4), none, none, none, none] [] h') (hK52 : ∀ (y4 : Int32) (y5 : Int32) (h' : Hp), K52 y4 y5 h' → R0 G X 0 0 (ZM G (fun r h' => ∃ v, r = some (.int v) ∧ Q v h') X) 52 [some (.ref (G.1 a0)), some (.int x1), some (.int x2), some (.int x3), some (.int y4), some (.int y5), none, none, none] [] h') (hK61 : ∀ (y4 : Int32) (y6 : Int32) (h' : Hp), K61 y4 y6 h' → R0 G X 0 0 (ZM G (fun r h' => ∃ v, r = some (.int v) ∧ Q v h') X) 61 [some (.ref (G.1 a0)), some (.int x1), some (.int x2), some (.int x3), some (.int y4), some (.int x5), some (.int y6), none, none] [] h') (hK92 : ∀ (y4 : Int32) (y7 : Int32) (h' : Hp), K92 y4 y7 h' → R0 G X 0 0 (ZM G (fun r h' => ∃ v, r = some (.int v) ∧ Q v h') X) 92 [some (.ref (G.1 a0)), some (.int x1), some (.int x2), some (.int x3), some (.int y4), some (.int x5), some (.int x6), some (.int y7), none] [] h') (hw : jX12_escorted_146 a0 x1 x2 x3 x4 x5 x6 x7 x8 h K41 K52 K61 K92 Q) : R0 G X 0 0 (ZM G (fun r h' => ∃ v, r = some (.int v) ∧ Q v h') X) 146 [some (.ref (G.1 a0)), some (.int x1), some (.int x2), some (.int x3), some (.int x4), some (.int x5), some (.int x6), some (.int x7), some (.int x8)] [] h := by
  unfold jX12_escorted_146 at hw
  refine r_iload C dX12_escorted_146 rfl ?_
  refine r_iload_n C dX12_escorted_148 rfl ?_
  refine r_iload C dX12_escorted_149 rfl ?_
  refine r_isub C dX12_escorted_151 ?_
  refine r_icmp_gt 192 C dX12_escorted_152 (by decide) (fun hc => ?_) (fun hc => ?_)
  · replace hw := it_t hc hw
    obtain ⟨v1, ev1⟩ : ∃ v : Int32, v = x7 + (1 : Int32) := ⟨_, rfl⟩
    replace hw := hw v1 ev1
    refine r_iinc v1 [some (.ref (G.1 a0)), some (.int x1), some (.int x2), some (.int x3), some (.int x4), some (.int x5), some (.int x6), some (.int v1), some (.int x8)] C dX12_escorted_192 rfl (by rw [ev1]; rfl) rfl rfl ?_
    refine r_goto 92 C dX12_escorted_195 (by decide) ?_
    refine r_weak [some (.ref (G.1 a0)), some (.int x1), some (.int x2), some (.int x3), some (.int x4), some (.int x5), some (.int x6), some (.int v1), none] (lw_k (lw_k (lw_k (lw_k (lw_k (lw_k (lw_k (lw_k (lw_d (lw_n)))))))))) ?_
    exact hK92 _ _ _ hw
  · replace hw := it_f hc hw
    refine r_iload C dX12_escorted_155 rfl ?_
    refine r_iload_n C dX12_escorted_157 rfl ?_
    refine r_iload C dX12_escorted_158 rfl ?_
    refine r_isub C dX12_escorted_160 ?_
    refine r_icmp_gt 192 C dX12_escorted_161 (by decide) (fun hc => ?_) (fun hc => ?_)
    · replace hw := it_t hc hw
      obtain ⟨v2, ev2⟩ : ∃ v : Int32, v = x7 + (1 : Int32) := ⟨_, rfl⟩
      replace hw := hw v2 ev2
      refine r_iinc v2 [some (.ref (G.1 a0)), some (.int x1), some (.int x2), some (.int x3), some (.int x4), some (.int x5), some (.int x6), some (.int v2), some (.int x8)] C dX12_escorted_192 rfl (by rw [ev2]; rfl) rfl rfl ?_
      refine r_goto 92 C dX12_escorted_195 (by decide) ?_
      refine r_weak [some (.ref (G.1 a0)), some (.int x1), some (.int x2), some (.int x3), some (.int x4), some (.int x5), some (.int x6), some (.int v2), none] (lw_k (lw_k (lw_k (lw_k (lw_k (lw_k (lw_k (lw_k (lw_d (lw_n)))))))))) ?_
      exact hK92 _ _ _ hw
    · replace hw := it_f hc hw
      refine r_aload_n C dX12_escorted_164 rfl ?_
      refine r_bipush (10) C dX12_escorted_165 (by decide) ?_
      refine r_iload C dX12_escorted_167 rfl ?_
      refine r_imul C dX12_escorted_169 ?_
      refine r_iload C dX12_escorted_170 rfl ?_
      refine r_iadd C dX12_escorted_172 ?_
      refine r_iload C dX12_escorted_173 rfl ?_
      refine r_iload C dX12_escorted_175 rfl ?_
      refine r_iadd C dX12_escorted_177 ?_
      refine r_iload C dX12_escorted_178 rfl ?_
      refine r_iload C dX12_escorted_180 rfl ?_
      refine r_iadd C dX12_escorted_182 ?_
      refine kX12_312 C (k0) (sX12_relax (k0) hw) dX12_escorted_183 (Nat.le_of_ble_eq_true rfl) rfl (Nat.le_of_ble_eq_true rfl) (fun v3 h4 hw => ?_)
      refine r_if_eq 192 C dX12_escorted_186 (by decide) (fun hc => ?_) (fun hc => ?_)
      · replace hw := it_t hc hw
        obtain ⟨v5, ev5⟩ : ∃ v : Int32, v = x7 + (1 : Int32) := ⟨_, rfl⟩
        replace hw := hw v5 ev5
        refine r_iinc v5 [some (.ref (G.1 a0)), some (.int x1), some (.int x2), some (.int x3), some (.int x4), some (.int x5), some (.int x6), some (.int v5), some (.int x8)] C dX12_escorted_192 rfl (by rw [ev5]; rfl) rfl rfl ?_
        refine r_goto 92 C dX12_escorted_195 (by decide) ?_
        refine r_weak [some (.ref (G.1 a0)), some (.int x1), some (.int x2), some (.int x3), some (.int x4), some (.int x5), some (.int x6), some (.int v5), none] (lw_k (lw_k (lw_k (lw_k (lw_k (lw_k (lw_k (lw_k (lw_d (lw_n)))))))))) ?_
        exact hK92 _ _ _ hw
      · replace hw := it_f hc hw
        refine r_iconst (1) C dX12_escorted_189 (by decide) ?_
        refine r_istore [some (.ref (G.1 a0)), some (.int x1), some (.int x2), some (.int x3), some (.int (1 : Int32)), some (.int x5), some (.int x6), some (.int x7), some (.int x8)] C dX12_escorted_190 (Nat.le_of_ble_eq_true rfl) rfl rfl ?_
        obtain ⟨v6, ev6⟩ : ∃ v : Int32, v = x7 + (1 : Int32) := ⟨_, rfl⟩
        replace hw := hw v6 ev6
        refine r_iinc v6 [some (.ref (G.1 a0)), some (.int x1), some (.int x2), some (.int x3), some (.int (1 : Int32)), some (.int x5), some (.int x6), some (.int v6), some (.int x8)] C dX12_escorted_192 rfl (by rw [ev6]; rfl) rfl rfl ?_
        refine r_goto 92 C dX12_escorted_195 (by decide) ?_
        refine r_weak [some (.ref (G.1 a0)), some (.int x1), some (.int x2), some (.int x3), some (.int (1 : Int32)), some (.int x5), some (.int x6), some (.int v6), none] (lw_k (lw_k (lw_k (lw_k (lw_k (lw_k (lw_k (lw_k (lw_d (lw_n)))))))))) ?_
        exact hK92 _ _ _ hw
def fX12_escorted_92 (a0 : Nat) (x1 : Int32) (x2 : Int32) (x3 : Int32) (x5 : Int32) (x6 : Int32) (K41 : Int32 → Hp → Prop) (K52 : Int32 → Int32 → Hp → Prop) (K61 : Int32 → Int32 → Hp → Prop) (Q : Int32 → Hp → Prop) (K92 : Int32 → Int32 → Hp → Prop) (x4 : Int32) (x7 : Int32) (h : Hp) : Prop :=
  if x1 < x7 then (∀ v1 : Int32, v1 = x6 + (1 : Int32) → (K61 x4 v1 h)) else (∀ v2 : Int32, v2 = (x1 - x7) → (if x5 < x7 then (jX12_escorted_146 a0 x1 x2 x3 x4 x5 x6 x7 v2 h K41 K52 K61 K92 Q) else (if x6 < v2 then (jX12_escorted_146 a0 x1 x2 x3 x4 x5 x6 x7 v2 h K41 K52 K61 K92 Q) else (wX12_relax a0 (((10 : Int32) * x5) + x6) (x5 - x7) (x6 - v2) h (fun v3 h4 => if v3 = 0 then (jX12_escorted_146 a0 x1 x2 x3 x4 x5 x6 x7 v2 h4 K41 K52 K61 K92 Q) else (jX12_escorted_146 a0 x1 x2 x3 (1 : Int32) x5 x6 x7 v2 h4 K41 K52 K61 K92 Q))))))
def eX12_escorted_92 (a0 : Nat) (x1 : Int32) (x2 : Int32) (x3 : Int32) (x5 : Int32) (x6 : Int32) (K41 : Int32 → Hp → Prop) (K52 : Int32 → Int32 → Hp → Prop) (K61 : Int32 → Int32 → Hp → Prop) (Q : Int32 → Hp → Prop) (x4 : Int32) (x7 : Int32) (h : Hp) : Prop := ∃ N, lpN (fun (K : Int32 × Int32 × Hp → Prop) (s : Int32 × Int32 × Hp) => fX12_escorted_92 a0 x1 x2 x3 x5 x6 K41 K52 K61 Q (fun x4 x7 h => K (x4, x7, h)) s.1 s.2.1 s.2.2) N (x4, x7, h)
theorem iX12_escorted_92 {a0 : Nat} {x1 : Int32} {x2 : Int32} {x3 : Int32} {x5 : Int32} {x6 : Int32} {K41 : Int32 → Hp → Prop} {K52 : Int32 → Int32 → Hp → Prop} {K61 : Int32 → Int32 → Hp → Prop} {Q : Int32 → Hp → Prop} (I : Int32 → Int32 → Hp → Prop) (μ : Int32 → Int32 → Hp → Nat) (hs : ∀ (x4 : Int32) (x7 : Int32) (h : Hp), I x4 x7 h → ∀ K : Int32 → Int32 → Hp → Prop, (∀ (x4' : Int32) (x7' : Int32) (h' : Hp), I x4' x7' h' → μ x4' x7' h' < μ x4 x7 h → K x4' x7' h') → fX12_escorted_92 a0 x1 x2 x3 x5 x6 K41 K52 K61 Q K x4 x7 h) : ∀ (x4 : Int32) (x7 : Int32) (h : Hp), I x4 x7 h → eX12_escorted_92 a0 x1 x2 x3 x5 x6 K41 K52 K61 Q x4 x7 h := fun x4 x7 h hI => lp_ind (fun s => I s.1 s.2.1 s.2.2) (fun s => μ s.1 s.2.1 s.2.2) (fun s hs' K hK => hs s.1 s.2.1 s.2.2 hs' _ (fun x4' x7' h' h1 h2 => hK (x4', x7', h') h1 h2)) (x4, x7, h) hI
set_option maxRecDepth 20000 in
theorem tX12_escorted_92 {G : GG} {X : XX} {a0 : Nat} {x1 : Int32} {x2 : Int32} {x3 : Int32} {x4 : Int32} {x5 : Int32} {x6 : Int32} {x7 : Int32} {h : Hp}  {K41 : Int32 → Hp → Prop} {K52 : Int32 → Int32 → Hp → Prop} {K61 : Int32 → Int32 → Hp → Prop} {Q : Int32 → Hp → Prop} (C : Cx G RX12 cX12_escorted 9 (some .int) 1 0 0 X) (k0 : kd a0 = 12) (hK41 : ∀ (y4 : Int32) (h' : Hp), K41 y4 h' → R0 G X 0 0 (ZM G (fun r h' => ∃ v, r = some (.int v) ∧ Q v h') X) 41 [some (.ref (G.1 a0)), some (.int x1), some (.int x2), some (.int x3), some (.int y4), none, none, none, none] [] h') (hK52 : ∀ (y4 : Int32) (y5 : Int32) (h' : Hp), K52 y4 y5 h' → R0 G X 0 0 (ZM G (fun r h' => ∃ v, r = some (.int v) ∧ Q v h') X) 52 [some (.ref (G.1 a0)), some (.int x1), some (.int x2), some (.int x3), some (.int y4), some (.int y5), none, none, none] [] h') (hK61 : ∀ (y4 : Int32) (y6 : Int32) (h' : Hp), K61 y4 y6 h' → R0 G X 0 0 (ZM G (fun r h' => ∃ v, r = some (.int v) ∧ Q v h') X) 61 [some (.ref (G.1 a0)), some (.int x1), some (.int x2), some (.int x3), some (.int y4), some (.int x5), some (.int y6), none, none] [] h') (hw : eX12_escorted_92 a0 x1 x2 x3 x5 x6 K41 K52 K61 Q x4 x7 h) : R0 G X 0 0 (ZM G (fun r h' => ∃ v, r = some (.int v) ∧ Q v h') X) 92 [some (.ref (G.1 a0)), some (.int x1), some (.int x2), some (.int x3), some (.int x4), some (.int x5), some (.int x6), some (.int x7), none] [] h := by
  obtain ⟨N, hw⟩ := hw
  induction N generalizing x4 x7 h with
  | zero => exact hw.elim
  | succ N ih =>
    obtain ⟨K92, eK⟩ : ∃ K : Int32 → Int32 → Hp → Prop, K = (fun x4 x7 h => lpN (fun (K : Int32 × Int32 × Hp → Prop) (s : Int32 × Int32 × Hp) => fX12_escorted_92 a0 x1 x2 x3 x5 x6 K41 K52 K61 Q (fun x4 x7 h => K (x4, x7, h)) s.1 s.2.1 s.2.2) N (x4, x7, h)) := ⟨_, rfl⟩
    have hw : fX12_escorted_92 a0 x1 x2 x3 x5 x6 K41 K52 K61 Q (fun x4 x7 h => lpN (fun (K : Int32 × Int32 × Hp → Prop) (s : Int32 × Int32 × Hp) => fX12_escorted_92 a0 x1 x2 x3 x5 x6 K41 K52 K61 Q (fun x4 x7 h => K (x4, x7, h)) s.1 s.2.1 s.2.2) N (x4, x7, h)) x4 x7 h := hw
    have hK92 : ∀ (x4 : Int32) (x7 : Int32) (h : Hp), K92 x4 x7 h → R0 G X 0 0 (ZM G (fun r h' => ∃ v, r = some (.int v) ∧ Q v h') X) 92 [some (.ref (G.1 a0)), some (.int x1), some (.int x2), some (.int x3), some (.int x4), some (.int x5), some (.int x6), some (.int x7), none] [] h := fun x4 x7 h q => ih (by rw [eK] at q; exact q)
    rw [← eK] at hw
    clear eK ih
    unfold fX12_escorted_92 at hw
    refine r_iload C dX12_escorted_92 rfl ?_
    refine r_iload_n C dX12_escorted_94 rfl ?_
    refine r_icmp_gt 198 C dX12_escorted_95 (by decide) (fun hc => ?_) (fun hc => ?_)
    · replace hw := it_t hc hw
      obtain ⟨v1, ev1⟩ : ∃ v : Int32, v = x6 + (1 : Int32) := ⟨_, rfl⟩
      replace hw := hw v1 ev1
      refine r_iinc v1 [some (.ref (G.1 a0)), some (.int x1), some (.int x2), some (.int x3), some (.int x4), some (.int x5), some (.int v1), some (.int x7), none] C dX12_escorted_198 rfl (by rw [ev1]; rfl) rfl rfl ?_
      refine r_goto 61 C dX12_escorted_201 (by decide) ?_
      refine r_weak [some (.ref (G.1 a0)), some (.int x1), some (.int x2), some (.int x3), some (.int x4), some (.int x5), some (.int v1), none, none] (lw_k (lw_k (lw_k (lw_k (lw_k (lw_k (lw_k (lw_d (lw_k (lw_n)))))))))) ?_
      exact hK61 _ _ _ hw
    · replace hw := it_f hc hw
      refine r_iload_n C dX12_escorted_98 rfl ?_
      refine r_iload C dX12_escorted_99 rfl ?_
      refine r_isub C dX12_escorted_101 ?_
      refine r_topi (fun v2 ev2 => ?_)
      replace hw := hw v2 ev2
      refine r_istore [some (.ref (G.1 a0)), some (.int x1), some (.int x2), some (.int x3), some (.int x4), some (.int x5), some (.int x6), some (.int x7), some (.int v2)] C dX12_escorted_102 (Nat.le_of_ble_eq_true rfl) rfl rfl ?_
      refine r_iload C dX12_escorted_104 rfl ?_
      refine r_iload C dX12_escorted_106 rfl ?_
      refine r_icmp_gt 146 C dX12_escorted_108 (by decide) (fun hc => ?_) (fun hc => ?_)
      · replace hw := it_t hc hw
        exact tX12_escorted_146 C (k0) hK41 hK52 hK61 hK92 hw
      · replace hw := it_f hc hw
        refine r_iload C dX12_escorted_111 rfl ?_
        refine r_iload C dX12_escorted_113 rfl ?_
        refine r_icmp_gt 146 C dX12_escorted_115 (by decide) (fun hc => ?_) (fun hc => ?_)
        · replace hw := it_t hc hw
          exact tX12_escorted_146 C (k0) hK41 hK52 hK61 hK92 hw
        · replace hw := it_f hc hw
          refine r_aload_n C dX12_escorted_118 rfl ?_
          refine r_bipush (10) C dX12_escorted_119 (by decide) ?_
          refine r_iload C dX12_escorted_121 rfl ?_
          refine r_imul C dX12_escorted_123 ?_
          refine r_iload C dX12_escorted_124 rfl ?_
          refine r_iadd C dX12_escorted_126 ?_
          refine r_iload C dX12_escorted_127 rfl ?_
          refine r_iload C dX12_escorted_129 rfl ?_
          refine r_isub C dX12_escorted_131 ?_
          refine r_iload C dX12_escorted_132 rfl ?_
          refine r_iload C dX12_escorted_134 rfl ?_
          refine r_isub C dX12_escorted_136 ?_
          refine kX12_312 C (k0) (sX12_relax (k0) hw) dX12_escorted_137 (Nat.le_of_ble_eq_true rfl) rfl (Nat.le_of_ble_eq_true rfl) (fun v3 h4 hw => ?_)
          refine r_if_eq 146 C dX12_escorted_140 (by decide) (fun hc => ?_) (fun hc => ?_)
          · replace hw := it_t hc hw
            exact tX12_escorted_146 C (k0) hK41 hK52 hK61 hK92 hw
          · replace hw := it_f hc hw
            refine r_iconst (1) C dX12_escorted_143 (by decide) ?_
            refine r_istore [some (.ref (G.1 a0)), some (.int x1), some (.int x2), some (.int x3), some (.int (1 : Int32)), some (.int x5), some (.int x6), some (.int x7), some (.int v2)] C dX12_escorted_144 (Nat.le_of_ble_eq_true rfl) rfl rfl ?_
            exact tX12_escorted_146 C (k0) hK41 hK52 hK61 hK92 hw
def fX12_escorted_61 (a0 : Nat) (x1 : Int32) (x2 : Int32) (x3 : Int32) (x5 : Int32) (K41 : Int32 → Hp → Prop) (K52 : Int32 → Int32 → Hp → Prop) (Q : Int32 → Hp → Prop) (K61 : Int32 → Int32 → Hp → Prop) (x4 : Int32) (x6 : Int32) (h : Hp) : Prop :=
  if x3 < x6 then (∀ v1 : Int32, v1 = x5 + (1 : Int32) → (K52 x4 v1 h)) else (vp_in (((10 : Int32) * x5) + x6) (ln (rf a0 40)) ∧ (if (gI h (rf a0 40) (((10 : Int32) * x5) + x6).toNatClampNeg) < (1000000 : Int32) then (eX12_escorted_92 a0 x1 x2 x3 x5 x6 K41 K52 K61 Q x4 (0 : Int32) h) else (∀ v3 : Int32, v3 = x6 + (1 : Int32) → (K61 x4 v3 h))))
def eX12_escorted_61 (a0 : Nat) (x1 : Int32) (x2 : Int32) (x3 : Int32) (x5 : Int32) (K41 : Int32 → Hp → Prop) (K52 : Int32 → Int32 → Hp → Prop) (Q : Int32 → Hp → Prop) (x4 : Int32) (x6 : Int32) (h : Hp) : Prop := ∃ N, lpN (fun (K : Int32 × Int32 × Hp → Prop) (s : Int32 × Int32 × Hp) => fX12_escorted_61 a0 x1 x2 x3 x5 K41 K52 Q (fun x4 x6 h => K (x4, x6, h)) s.1 s.2.1 s.2.2) N (x4, x6, h)
theorem iX12_escorted_61 {a0 : Nat} {x1 : Int32} {x2 : Int32} {x3 : Int32} {x5 : Int32} {K41 : Int32 → Hp → Prop} {K52 : Int32 → Int32 → Hp → Prop} {Q : Int32 → Hp → Prop} (I : Int32 → Int32 → Hp → Prop) (μ : Int32 → Int32 → Hp → Nat) (hs : ∀ (x4 : Int32) (x6 : Int32) (h : Hp), I x4 x6 h → ∀ K : Int32 → Int32 → Hp → Prop, (∀ (x4' : Int32) (x6' : Int32) (h' : Hp), I x4' x6' h' → μ x4' x6' h' < μ x4 x6 h → K x4' x6' h') → fX12_escorted_61 a0 x1 x2 x3 x5 K41 K52 Q K x4 x6 h) : ∀ (x4 : Int32) (x6 : Int32) (h : Hp), I x4 x6 h → eX12_escorted_61 a0 x1 x2 x3 x5 K41 K52 Q x4 x6 h := fun x4 x6 h hI => lp_ind (fun s => I s.1 s.2.1 s.2.2) (fun s => μ s.1 s.2.1 s.2.2) (fun s hs' K hK => hs s.1 s.2.1 s.2.2 hs' _ (fun x4' x6' h' h1 h2 => hK (x4', x6', h') h1 h2)) (x4, x6, h) hI
set_option maxRecDepth 20000 in
theorem tX12_escorted_61 {G : GG} {X : XX} {a0 : Nat} {x1 : Int32} {x2 : Int32} {x3 : Int32} {x4 : Int32} {x5 : Int32} {x6 : Int32} {h : Hp}  {K41 : Int32 → Hp → Prop} {K52 : Int32 → Int32 → Hp → Prop} {Q : Int32 → Hp → Prop} (C : Cx G RX12 cX12_escorted 9 (some .int) 1 0 0 X) (k0 : kd a0 = 12) (hK41 : ∀ (y4 : Int32) (h' : Hp), K41 y4 h' → R0 G X 0 0 (ZM G (fun r h' => ∃ v, r = some (.int v) ∧ Q v h') X) 41 [some (.ref (G.1 a0)), some (.int x1), some (.int x2), some (.int x3), some (.int y4), none, none, none, none] [] h') (hK52 : ∀ (y4 : Int32) (y5 : Int32) (h' : Hp), K52 y4 y5 h' → R0 G X 0 0 (ZM G (fun r h' => ∃ v, r = some (.int v) ∧ Q v h') X) 52 [some (.ref (G.1 a0)), some (.int x1), some (.int x2), some (.int x3), some (.int y4), some (.int y5), none, none, none] [] h') (hw : eX12_escorted_61 a0 x1 x2 x3 x5 K41 K52 Q x4 x6 h) : R0 G X 0 0 (ZM G (fun r h' => ∃ v, r = some (.int v) ∧ Q v h') X) 61 [some (.ref (G.1 a0)), some (.int x1), some (.int x2), some (.int x3), some (.int x4), some (.int x5), some (.int x6), none, none] [] h := by
  obtain ⟨N, hw⟩ := hw
  induction N generalizing x4 x6 h with
  | zero => exact hw.elim
  | succ N ih =>
    obtain ⟨K61, eK⟩ : ∃ K : Int32 → Int32 → Hp → Prop, K = (fun x4 x6 h => lpN (fun (K : Int32 × Int32 × Hp → Prop) (s : Int32 × Int32 × Hp) => fX12_escorted_61 a0 x1 x2 x3 x5 K41 K52 Q (fun x4 x6 h => K (x4, x6, h)) s.1 s.2.1 s.2.2) N (x4, x6, h)) := ⟨_, rfl⟩
    have hw : fX12_escorted_61 a0 x1 x2 x3 x5 K41 K52 Q (fun x4 x6 h => lpN (fun (K : Int32 × Int32 × Hp → Prop) (s : Int32 × Int32 × Hp) => fX12_escorted_61 a0 x1 x2 x3 x5 K41 K52 Q (fun x4 x6 h => K (x4, x6, h)) s.1 s.2.1 s.2.2) N (x4, x6, h)) x4 x6 h := hw
    have hK61 : ∀ (x4 : Int32) (x6 : Int32) (h : Hp), K61 x4 x6 h → R0 G X 0 0 (ZM G (fun r h' => ∃ v, r = some (.int v) ∧ Q v h') X) 61 [some (.ref (G.1 a0)), some (.int x1), some (.int x2), some (.int x3), some (.int x4), some (.int x5), some (.int x6), none, none] [] h := fun x4 x6 h q => ih (by rw [eK] at q; exact q)
    rw [← eK] at hw
    clear eK ih
    unfold fX12_escorted_61 at hw
    refine r_iload C dX12_escorted_61 rfl ?_
    refine r_iload_n C dX12_escorted_63 rfl ?_
    refine r_icmp_gt 204 C dX12_escorted_64 (by decide) (fun hc => ?_) (fun hc => ?_)
    · replace hw := it_t hc hw
      obtain ⟨v1, ev1⟩ : ∃ v : Int32, v = x5 + (1 : Int32) := ⟨_, rfl⟩
      replace hw := hw v1 ev1
      refine r_iinc v1 [some (.ref (G.1 a0)), some (.int x1), some (.int x2), some (.int x3), some (.int x4), some (.int v1), some (.int x6), none, none] C dX12_escorted_204 rfl (by rw [ev1]; rfl) rfl rfl ?_
      refine r_goto 52 C dX12_escorted_207 (by decide) ?_
      refine r_weak [some (.ref (G.1 a0)), some (.int x1), some (.int x2), some (.int x3), some (.int x4), some (.int v1), none, none, none] (lw_k (lw_k (lw_k (lw_k (lw_k (lw_k (lw_d (lw_k (lw_k (lw_n)))))))))) ?_
      exact hK52 _ _ _ hw
    · replace hw := it_f hc hw
      refine r_aload_n C dX12_escorted_67 rfl ?_
      refine gX12_82 C (k0) dX12_escorted_68 ?_
      refine r_bipush (10) C dX12_escorted_71 (by decide) ?_
      refine r_iload C dX12_escorted_73 rfl ?_
      refine r_imul C dX12_escorted_75 ?_
      refine r_iload C dX12_escorted_76 rfl ?_
      refine r_iadd C dX12_escorted_78 ?_
      obtain ⟨hi2, hw⟩ := hw
      refine r_iald C (kr12_40 (k0)) hi2 dX12_escorted_79 ?_
      refine r_ldc_w (1000000) C wd1453 dX12_escorted_80 ?_
      refine r_icmp_lt 89 C dX12_escorted_83 (by decide) (fun hc => ?_) (fun hc => ?_)
      · replace hw := it_t hc hw
        refine r_iconst (0) C dX12_escorted_89 (by decide) ?_
        refine r_istore [some (.ref (G.1 a0)), some (.int x1), some (.int x2), some (.int x3), some (.int x4), some (.int x5), some (.int x6), some (.int (0 : Int32)), none] C dX12_escorted_90 (Nat.le_of_ble_eq_true rfl) rfl rfl ?_
        exact tX12_escorted_92 C (k0) hK41 hK52 hK61 hw
      · replace hw := it_f hc hw
        refine r_goto 198 C dX12_escorted_86 (by decide) ?_
        obtain ⟨v3, ev3⟩ : ∃ v : Int32, v = x6 + (1 : Int32) := ⟨_, rfl⟩
        replace hw := hw v3 ev3
        refine r_iinc v3 [some (.ref (G.1 a0)), some (.int x1), some (.int x2), some (.int x3), some (.int x4), some (.int x5), some (.int v3), none, none] C dX12_escorted_198 rfl (by rw [ev3]; rfl) rfl rfl ?_
        refine r_goto 61 C dX12_escorted_201 (by decide) ?_
        exact hK61 _ _ _ hw
def fX12_escorted_52 (a0 : Nat) (x1 : Int32) (x2 : Int32) (x3 : Int32) (K41 : Int32 → Hp → Prop) (Q : Int32 → Hp → Prop) (K52 : Int32 → Int32 → Hp → Prop) (x4 : Int32) (x5 : Int32) (h : Hp) : Prop :=
  if x2 < x5 then (K41 x4 h) else (eX12_escorted_61 a0 x1 x2 x3 x5 K41 K52 Q x4 (0 : Int32) h)
def eX12_escorted_52 (a0 : Nat) (x1 : Int32) (x2 : Int32) (x3 : Int32) (K41 : Int32 → Hp → Prop) (Q : Int32 → Hp → Prop) (x4 : Int32) (x5 : Int32) (h : Hp) : Prop := ∃ N, lpN (fun (K : Int32 × Int32 × Hp → Prop) (s : Int32 × Int32 × Hp) => fX12_escorted_52 a0 x1 x2 x3 K41 Q (fun x4 x5 h => K (x4, x5, h)) s.1 s.2.1 s.2.2) N (x4, x5, h)
theorem iX12_escorted_52 {a0 : Nat} {x1 : Int32} {x2 : Int32} {x3 : Int32} {K41 : Int32 → Hp → Prop} {Q : Int32 → Hp → Prop} (I : Int32 → Int32 → Hp → Prop) (μ : Int32 → Int32 → Hp → Nat) (hs : ∀ (x4 : Int32) (x5 : Int32) (h : Hp), I x4 x5 h → ∀ K : Int32 → Int32 → Hp → Prop, (∀ (x4' : Int32) (x5' : Int32) (h' : Hp), I x4' x5' h' → μ x4' x5' h' < μ x4 x5 h → K x4' x5' h') → fX12_escorted_52 a0 x1 x2 x3 K41 Q K x4 x5 h) : ∀ (x4 : Int32) (x5 : Int32) (h : Hp), I x4 x5 h → eX12_escorted_52 a0 x1 x2 x3 K41 Q x4 x5 h := fun x4 x5 h hI => lp_ind (fun s => I s.1 s.2.1 s.2.2) (fun s => μ s.1 s.2.1 s.2.2) (fun s hs' K hK => hs s.1 s.2.1 s.2.2 hs' _ (fun x4' x5' h' h1 h2 => hK (x4', x5', h') h1 h2)) (x4, x5, h) hI
set_option maxRecDepth 20000 in
theorem tX12_escorted_52 {G : GG} {X : XX} {a0 : Nat} {x1 : Int32} {x2 : Int32} {x3 : Int32} {x4 : Int32} {x5 : Int32} {h : Hp}  {K41 : Int32 → Hp → Prop} {Q : Int32 → Hp → Prop} (C : Cx G RX12 cX12_escorted 9 (some .int) 1 0 0 X) (k0 : kd a0 = 12) (hK41 : ∀ (y4 : Int32) (h' : Hp), K41 y4 h' → R0 G X 0 0 (ZM G (fun r h' => ∃ v, r = some (.int v) ∧ Q v h') X) 41 [some (.ref (G.1 a0)), some (.int x1), some (.int x2), some (.int x3), some (.int y4), none, none, none, none] [] h') (hw : eX12_escorted_52 a0 x1 x2 x3 K41 Q x4 x5 h) : R0 G X 0 0 (ZM G (fun r h' => ∃ v, r = some (.int v) ∧ Q v h') X) 52 [some (.ref (G.1 a0)), some (.int x1), some (.int x2), some (.int x3), some (.int x4), some (.int x5), none, none, none] [] h := by
  obtain ⟨N, hw⟩ := hw
  induction N generalizing x4 x5 h with
  | zero => exact hw.elim
  | succ N ih =>
    obtain ⟨K52, eK⟩ : ∃ K : Int32 → Int32 → Hp → Prop, K = (fun x4 x5 h => lpN (fun (K : Int32 × Int32 × Hp → Prop) (s : Int32 × Int32 × Hp) => fX12_escorted_52 a0 x1 x2 x3 K41 Q (fun x4 x5 h => K (x4, x5, h)) s.1 s.2.1 s.2.2) N (x4, x5, h)) := ⟨_, rfl⟩
    have hw : fX12_escorted_52 a0 x1 x2 x3 K41 Q (fun x4 x5 h => lpN (fun (K : Int32 × Int32 × Hp → Prop) (s : Int32 × Int32 × Hp) => fX12_escorted_52 a0 x1 x2 x3 K41 Q (fun x4 x5 h => K (x4, x5, h)) s.1 s.2.1 s.2.2) N (x4, x5, h)) x4 x5 h := hw
    have hK52 : ∀ (x4 : Int32) (x5 : Int32) (h : Hp), K52 x4 x5 h → R0 G X 0 0 (ZM G (fun r h' => ∃ v, r = some (.int v) ∧ Q v h') X) 52 [some (.ref (G.1 a0)), some (.int x1), some (.int x2), some (.int x3), some (.int x4), some (.int x5), none, none, none] [] h := fun x4 x5 h q => ih (by rw [eK] at q; exact q)
    rw [← eK] at hw
    clear eK ih
    unfold fX12_escorted_52 at hw
    refine r_iload C dX12_escorted_52 rfl ?_
    refine r_iload_n C dX12_escorted_54 rfl ?_
    refine r_icmp_gt 210 C dX12_escorted_55 (by decide) (fun hc => ?_) (fun hc => ?_)
    · replace hw := it_t hc hw
      refine r_goto 41 C dX12_escorted_210 (by decide) ?_
      refine r_weak [some (.ref (G.1 a0)), some (.int x1), some (.int x2), some (.int x3), some (.int x4), none, none, none, none] (lw_k (lw_k (lw_k (lw_k (lw_k (lw_d (lw_k (lw_k (lw_k (lw_n)))))))))) ?_
      exact hK41 _ _ hw
    · replace hw := it_f hc hw
      refine r_iconst (0) C dX12_escorted_58 (by decide) ?_
      refine r_istore [some (.ref (G.1 a0)), some (.int x1), some (.int x2), some (.int x3), some (.int x4), some (.int x5), some (.int (0 : Int32)), none, none] C dX12_escorted_59 (Nat.le_of_ble_eq_true rfl) rfl rfl ?_
      exact tX12_escorted_61 C (k0) hK41 hK52 hw
def fX12_escorted_41 (a0 : Nat) (x1 : Int32) (x2 : Int32) (x3 : Int32) (Q : Int32 → Hp → Prop) (K41 : Int32 → Hp → Prop) (x4 : Int32) (h : Hp) : Prop :=
  if x4 = 0 then (vp_in x3 (ln (rf a0 40)) ∧ (Q (gI h (rf a0 40) x3.toNatClampNeg) h)) else (eX12_escorted_52 a0 x1 x2 x3 K41 Q (0 : Int32) (0 : Int32) h)
def eX12_escorted_41 (a0 : Nat) (x1 : Int32) (x2 : Int32) (x3 : Int32) (Q : Int32 → Hp → Prop) (x4 : Int32) (h : Hp) : Prop := ∃ N, lpN (fun (K : Int32 × Hp → Prop) (s : Int32 × Hp) => fX12_escorted_41 a0 x1 x2 x3 Q (fun x4 h => K (x4, h)) s.1 s.2) N (x4, h)
theorem iX12_escorted_41 {a0 : Nat} {x1 : Int32} {x2 : Int32} {x3 : Int32} {Q : Int32 → Hp → Prop} (I : Int32 → Hp → Prop) (μ : Int32 → Hp → Nat) (hs : ∀ (x4 : Int32) (h : Hp), I x4 h → ∀ K : Int32 → Hp → Prop, (∀ (x4' : Int32) (h' : Hp), I x4' h' → μ x4' h' < μ x4 h → K x4' h') → fX12_escorted_41 a0 x1 x2 x3 Q K x4 h) : ∀ (x4 : Int32) (h : Hp), I x4 h → eX12_escorted_41 a0 x1 x2 x3 Q x4 h := fun x4 h hI => lp_ind (fun s => I s.1 s.2) (fun s => μ s.1 s.2) (fun s hs' K hK => hs s.1 s.2 hs' _ (fun x4' h' h1 h2 => hK (x4', h') h1 h2)) (x4, h) hI
set_option maxRecDepth 20000 in
theorem tX12_escorted_41 {G : GG} {X : XX} {a0 : Nat} {x1 : Int32} {x2 : Int32} {x3 : Int32} {x4 : Int32} {h : Hp}  {Q : Int32 → Hp → Prop} (C : Cx G RX12 cX12_escorted 9 (some .int) 1 0 0 X) (k0 : kd a0 = 12) (hw : eX12_escorted_41 a0 x1 x2 x3 Q x4 h) : R0 G X 0 0 (ZM G (fun r h' => ∃ v, r = some (.int v) ∧ Q v h') X) 41 [some (.ref (G.1 a0)), some (.int x1), some (.int x2), some (.int x3), some (.int x4), none, none, none, none] [] h := by
  obtain ⟨N, hw⟩ := hw
  induction N generalizing x4 h with
  | zero => exact hw.elim
  | succ N ih =>
    obtain ⟨K41, eK⟩ : ∃ K : Int32 → Hp → Prop, K = (fun x4 h => lpN (fun (K : Int32 × Hp → Prop) (s : Int32 × Hp) => fX12_escorted_41 a0 x1 x2 x3 Q (fun x4 h => K (x4, h)) s.1 s.2) N (x4, h)) := ⟨_, rfl⟩
    have hw : fX12_escorted_41 a0 x1 x2 x3 Q (fun x4 h => lpN (fun (K : Int32 × Hp → Prop) (s : Int32 × Hp) => fX12_escorted_41 a0 x1 x2 x3 Q (fun x4 h => K (x4, h)) s.1 s.2) N (x4, h)) x4 h := hw
    have hK41 : ∀ (x4 : Int32) (h : Hp), K41 x4 h → R0 G X 0 0 (ZM G (fun r h' => ∃ v, r = some (.int v) ∧ Q v h') X) 41 [some (.ref (G.1 a0)), some (.int x1), some (.int x2), some (.int x3), some (.int x4), none, none, none, none] [] h := fun x4 h q => ih (by rw [eK] at q; exact q)
    rw [← eK] at hw
    clear eK ih
    unfold fX12_escorted_41 at hw
    refine r_iload C dX12_escorted_41 rfl ?_
    refine r_if_eq 213 C dX12_escorted_43 (by decide) (fun hc => ?_) (fun hc => ?_)
    · replace hw := it_t hc hw
      refine r_aload_n C dX12_escorted_213 rfl ?_
      refine gX12_82 C (k0) dX12_escorted_214 ?_
      refine r_iload_n C dX12_escorted_217 rfl ?_
      obtain ⟨hi1, hw⟩ := hw
      refine r_iald C (kr12_40 (k0)) hi1 dX12_escorted_218 ?_
      exact r_iret C dX12_escorted_219 ⟨_, rfl, hw⟩
    · replace hw := it_f hc hw
      refine r_iconst (0) C dX12_escorted_46 (by decide) ?_
      refine r_istore [some (.ref (G.1 a0)), some (.int x1), some (.int x2), some (.int x3), some (.int (0 : Int32)), none, none, none, none] C dX12_escorted_47 (Nat.le_of_ble_eq_true rfl) rfl rfl ?_
      refine r_iconst (0) C dX12_escorted_49 (by decide) ?_
      refine r_istore [some (.ref (G.1 a0)), some (.int x1), some (.int x2), some (.int x3), some (.int (0 : Int32)), some (.int (0 : Int32)), none, none, none] C dX12_escorted_50 (Nat.le_of_ble_eq_true rfl) rfl rfl ?_
      exact tX12_escorted_52 C (k0) hK41 hw
def fX12_escorted_3 (a0 : Nat) (x1 : Int32) (x2 : Int32) (x3 : Int32) (Q : Int32 → Hp → Prop) (K3 : Int32 → Hp → Prop) (x4 : Int32) (h : Hp) : Prop :=
  if (100 : Int32) ≤ x4 then (vp_in (((10 : Int32) * x2) + x3) (ln (rf a0 40)) ∧ (∀ h2 : Hp, h2 = sI h (rf a0 40) (((10 : Int32) * x2) + x3).toNatClampNeg (0 : Int32) → (eX12_escorted_41 a0 x1 x2 x3 Q (1 : Int32) h2))) else (vp_in x4 (ln (rf a0 40)) ∧ (∀ h4 : Hp, h4 = sI h (rf a0 40) x4.toNatClampNeg (1000000 : Int32) → (∀ v5 : Int32, v5 = x4 + (1 : Int32) → (K3 v5 h4))))
def eX12_escorted_3 (a0 : Nat) (x1 : Int32) (x2 : Int32) (x3 : Int32) (Q : Int32 → Hp → Prop) (x4 : Int32) (h : Hp) : Prop := ∃ N, lpN (fun (K : Int32 × Hp → Prop) (s : Int32 × Hp) => fX12_escorted_3 a0 x1 x2 x3 Q (fun x4 h => K (x4, h)) s.1 s.2) N (x4, h)
theorem iX12_escorted_3 {a0 : Nat} {x1 : Int32} {x2 : Int32} {x3 : Int32} {Q : Int32 → Hp → Prop} (I : Int32 → Hp → Prop) (μ : Int32 → Hp → Nat) (hs : ∀ (x4 : Int32) (h : Hp), I x4 h → ∀ K : Int32 → Hp → Prop, (∀ (x4' : Int32) (h' : Hp), I x4' h' → μ x4' h' < μ x4 h → K x4' h') → fX12_escorted_3 a0 x1 x2 x3 Q K x4 h) : ∀ (x4 : Int32) (h : Hp), I x4 h → eX12_escorted_3 a0 x1 x2 x3 Q x4 h := fun x4 h hI => lp_ind (fun s => I s.1 s.2) (fun s => μ s.1 s.2) (fun s hs' K hK => hs s.1 s.2 hs' _ (fun x4' h' h1 h2 => hK (x4', h') h1 h2)) (x4, h) hI
set_option maxRecDepth 20000 in
theorem tX12_escorted_3 {G : GG} {X : XX} {a0 : Nat} {x1 : Int32} {x2 : Int32} {x3 : Int32} {x4 : Int32} {h : Hp}  {Q : Int32 → Hp → Prop} (C : Cx G RX12 cX12_escorted 9 (some .int) 1 0 0 X) (k0 : kd a0 = 12) (hw : eX12_escorted_3 a0 x1 x2 x3 Q x4 h) : R0 G X 0 0 (ZM G (fun r h' => ∃ v, r = some (.int v) ∧ Q v h') X) 3 [some (.ref (G.1 a0)), some (.int x1), some (.int x2), some (.int x3), some (.int x4), none, none, none, none] [] h := by
  obtain ⟨N, hw⟩ := hw
  induction N generalizing x4 h with
  | zero => exact hw.elim
  | succ N ih =>
    obtain ⟨K3, eK⟩ : ∃ K : Int32 → Hp → Prop, K = (fun x4 h => lpN (fun (K : Int32 × Hp → Prop) (s : Int32 × Hp) => fX12_escorted_3 a0 x1 x2 x3 Q (fun x4 h => K (x4, h)) s.1 s.2) N (x4, h)) := ⟨_, rfl⟩
    have hw : fX12_escorted_3 a0 x1 x2 x3 Q (fun x4 h => lpN (fun (K : Int32 × Hp → Prop) (s : Int32 × Hp) => fX12_escorted_3 a0 x1 x2 x3 Q (fun x4 h => K (x4, h)) s.1 s.2) N (x4, h)) x4 h := hw
    have hK3 : ∀ (x4 : Int32) (h : Hp), K3 x4 h → R0 G X 0 0 (ZM G (fun r h' => ∃ v, r = some (.int v) ∧ Q v h') X) 3 [some (.ref (G.1 a0)), some (.int x1), some (.int x2), some (.int x3), some (.int x4), none, none, none, none] [] h := fun x4 h q => ih (by rw [eK] at q; exact q)
    rw [← eK] at hw
    clear eK ih
    unfold fX12_escorted_3 at hw
    refine r_iload C dX12_escorted_3 rfl ?_
    refine r_bipush (100) C dX12_escorted_5 (by decide) ?_
    refine r_icmp_ge 26 C dX12_escorted_7 (by decide) (fun hc => ?_) (fun hc => ?_)
    · replace hw := it_t hc hw
      refine r_aload_n C dX12_escorted_26 rfl ?_
      refine gX12_82 C (k0) dX12_escorted_27 ?_
      refine r_bipush (10) C dX12_escorted_30 (by decide) ?_
      refine r_iload_n C dX12_escorted_32 rfl ?_
      refine r_imul C dX12_escorted_33 ?_
      refine r_iload_n C dX12_escorted_34 rfl ?_
      refine r_iadd C dX12_escorted_35 ?_
      refine r_iconst (0) C dX12_escorted_36 (by decide) ?_
      obtain ⟨hi1, hw⟩ := hw
      refine r_iast C (kr12_40 (k0)) hi1 dX12_escorted_37 ?_
      refine r_toph (fun h2 eh2 => ?_)
      replace hw := hw h2 eh2
      refine r_iconst (1) C dX12_escorted_38 (by decide) ?_
      refine r_istore [some (.ref (G.1 a0)), some (.int x1), some (.int x2), some (.int x3), some (.int (1 : Int32)), none, none, none, none] C dX12_escorted_39 (Nat.le_of_ble_eq_true rfl) rfl rfl ?_
      exact tX12_escorted_41 C (k0) hw
    · replace hw := it_f hc hw
      refine r_aload_n C dX12_escorted_10 rfl ?_
      refine gX12_82 C (k0) dX12_escorted_11 ?_
      refine r_iload C dX12_escorted_14 rfl ?_
      refine r_ldc_w (1000000) C wd1453 dX12_escorted_16 ?_
      obtain ⟨hi3, hw⟩ := hw
      refine r_iast C (kr12_40 (k0)) hi3 dX12_escorted_19 ?_
      refine r_toph (fun h4 eh4 => ?_)
      replace hw := hw h4 eh4
      obtain ⟨v5, ev5⟩ : ∃ v : Int32, v = x4 + (1 : Int32) := ⟨_, rfl⟩
      replace hw := hw v5 ev5
      refine r_iinc v5 [some (.ref (G.1 a0)), some (.int x1), some (.int x2), some (.int x3), some (.int v5), none, none, none, none] C dX12_escorted_20 rfl (by rw [ev5]; rfl) rfl rfl ?_
      refine r_goto 3 C dX12_escorted_23 (by decide) ?_
      exact hK3 _ _ hw
def wX12_escorted (a0 : Nat) (x1 : Int32) (x2 : Int32) (x3 : Int32) (h : Hp) (Q : Int32 → Hp → Prop) : Prop :=
  eX12_escorted_3 a0 x1 x2 x3 Q (0 : Int32) h
set_option maxRecDepth 20000 in
theorem sX12_escorted {G : GG} {a0 : Nat} {x1 : Int32} {x2 : Int32} {x3 : Int32} {h : Hp} {Q : Int32 → Hp → Prop} (k0 : kd a0 = 12) (hw : wX12_escorted a0 x1 x2 x3 h Q) : CI G 1 yX12_escorted cX12_escorted 9 (some .int) [.ref (G.1 a0), .int x1, .int x2, .int x3] h Q := by
  refine CO_of [some (.ref (G.1 a0)), some (.int x1), some (.int x2), some (.int x3), none, none, none, none, none] (by decide) (Nat.le_of_ble_eq_true rfl) rfl (fun X C => ?_)
  unfold wX12_escorted at hw
  refine r_iconst (0) C dX12_escorted_0 (by decide) ?_
  refine r_istore [some (.ref (G.1 a0)), some (.int x1), some (.int x2), some (.int x3), some (.int (0 : Int32)), none, none, none, none] C dX12_escorted_1 (Nat.le_of_ble_eq_true rfl) rfl rfl ?_
  exact tX12_escorted_3 C (k0) hw
def fX12_escort_28 (a0 : Nat) (x1 : Int32) (x2 : Int32) (Q : Int32 → Hp → Prop) (K28 : Int32 → Hp → Prop) (x3 : Int32) (h : Hp) : Prop :=
  if (9 : Int32) < x3 then (Q (-2 : Int32) h) else (vp_in (x1 / (10 : Int32)) (ln (rf a0 2)) ∧ (wX12_escorted a0 (gI h (rf a0 2) (x1 / (10 : Int32)).toNatClampNeg) (rm x1 (10 : Int32)) x3 h (fun v2 h3 => if (1000000 : Int32) ≤ v2 then (∀ v4 : Int32, v4 = x3 + (1 : Int32) → (K28 v4 h3)) else (if x2 = 0 then (Q x3 h3) else (Q v2 h3)))))
def eX12_escort_28 (a0 : Nat) (x1 : Int32) (x2 : Int32) (Q : Int32 → Hp → Prop) (x3 : Int32) (h : Hp) : Prop := ∃ N, lpN (fun (K : Int32 × Hp → Prop) (s : Int32 × Hp) => fX12_escort_28 a0 x1 x2 Q (fun x3 h => K (x3, h)) s.1 s.2) N (x3, h)
theorem iX12_escort_28 {a0 : Nat} {x1 : Int32} {x2 : Int32} {Q : Int32 → Hp → Prop} (I : Int32 → Hp → Prop) (μ : Int32 → Hp → Nat) (hs : ∀ (x3 : Int32) (h : Hp), I x3 h → ∀ K : Int32 → Hp → Prop, (∀ (x3' : Int32) (h' : Hp), I x3' h' → μ x3' h' < μ x3 h → K x3' h') → fX12_escort_28 a0 x1 x2 Q K x3 h) : ∀ (x3 : Int32) (h : Hp), I x3 h → eX12_escort_28 a0 x1 x2 Q x3 h := fun x3 h hI => lp_ind (fun s => I s.1 s.2) (fun s => μ s.1 s.2) (fun s hs' K hK => hs s.1 s.2 hs' _ (fun x3' h' h1 h2 => hK (x3', h') h1 h2)) (x3, h) hI
set_option maxRecDepth 20000 in
theorem tX12_escort_28 {G : GG} {X : XX} {a0 : Nat} {x1 : Int32} {x2 : Int32} {x3 : Int32} {h : Hp}  {Q : Int32 → Hp → Prop} (C : Cx G RX12 cX12_escort 5 (some .int) 2 0 0 X) (k0 : kd a0 = 12) (hw : eX12_escort_28 a0 x1 x2 Q x3 h) : R0 G X 0 0 (ZM G (fun r h' => ∃ v, r = some (.int v) ∧ Q v h') X) 28 [some (.ref (G.1 a0)), some (.int x1), some (.int x2), some (.int x3), none] [] h := by
  obtain ⟨N, hw⟩ := hw
  induction N generalizing x3 h with
  | zero => exact hw.elim
  | succ N ih =>
    obtain ⟨K28, eK⟩ : ∃ K : Int32 → Hp → Prop, K = (fun x3 h => lpN (fun (K : Int32 × Hp → Prop) (s : Int32 × Hp) => fX12_escort_28 a0 x1 x2 Q (fun x3 h => K (x3, h)) s.1 s.2) N (x3, h)) := ⟨_, rfl⟩
    have hw : fX12_escort_28 a0 x1 x2 Q (fun x3 h => lpN (fun (K : Int32 × Hp → Prop) (s : Int32 × Hp) => fX12_escort_28 a0 x1 x2 Q (fun x3 h => K (x3, h)) s.1 s.2) N (x3, h)) x3 h := hw
    have hK28 : ∀ (x3 : Int32) (h : Hp), K28 x3 h → R0 G X 0 0 (ZM G (fun r h' => ∃ v, r = some (.int v) ∧ Q v h') X) 28 [some (.ref (G.1 a0)), some (.int x1), some (.int x2), some (.int x3), none] [] h := fun x3 h q => ih (by rw [eK] at q; exact q)
    rw [← eK] at hw
    clear eK ih
    unfold fX12_escort_28 at hw
    refine r_iload_n C dX12_escort_28 rfl ?_
    refine r_bipush (9) C dX12_escort_29 (by decide) ?_
    refine r_icmp_gt 79 C dX12_escort_31 (by decide) (fun hc => ?_) (fun hc => ?_)
    · replace hw := it_t hc hw
      refine r_bipush (-2) C dX12_escort_79 (by decide) ?_
      exact r_iret C dX12_escort_81 ⟨_, rfl, hw⟩
    · replace hw := it_f hc hw
      refine r_aload_n C dX12_escort_34 rfl ?_
      refine r_aload_n C dX12_escort_35 rfl ?_
      refine gX12_7 C (k0) dX12_escort_36 ?_
      refine r_iload_n C dX12_escort_39 rfl ?_
      refine r_bipush (10) C dX12_escort_40 (by decide) ?_
      refine r_idiv C dX12_escort_42 (by decide) ?_
      obtain ⟨hi1, hw⟩ := hw
      refine r_iald C (kr12_2 (k0)) hi1 dX12_escort_43 ?_
      refine r_iload_n C dX12_escort_44 rfl ?_
      refine r_bipush (10) C dX12_escort_45 (by decide) ?_
      refine r_irem C dX12_escort_47 (by decide) ?_
      refine r_iload_n C dX12_escort_48 rfl ?_
      refine kX12_315 C (k0) (sX12_escorted (k0) hw) dX12_escort_49 (Nat.le_of_ble_eq_true rfl) rfl (Nat.le_of_ble_eq_true rfl) (fun v2 h3 hw => ?_)
      refine r_istore [some (.ref (G.1 a0)), some (.int x1), some (.int x2), some (.int x3), some (.int v2)] C dX12_escort_52 (Nat.le_of_ble_eq_true rfl) rfl rfl ?_
      refine r_iload C dX12_escort_54 rfl ?_
      refine r_ldc_w (1000000) C wd1453 dX12_escort_56 ?_
      refine r_icmp_ge 73 C dX12_escort_59 (by decide) (fun hc => ?_) (fun hc => ?_)
      · replace hw := it_t hc hw
        obtain ⟨v4, ev4⟩ : ∃ v : Int32, v = x3 + (1 : Int32) := ⟨_, rfl⟩
        replace hw := hw v4 ev4
        refine r_iinc v4 [some (.ref (G.1 a0)), some (.int x1), some (.int x2), some (.int v4), some (.int v2)] C dX12_escort_73 rfl (by rw [ev4]; rfl) rfl rfl ?_
        refine r_goto 28 C dX12_escort_76 (by decide) ?_
        refine r_weak [some (.ref (G.1 a0)), some (.int x1), some (.int x2), some (.int v4), none] (lw_k (lw_k (lw_k (lw_k (lw_d (lw_n)))))) ?_
        exact hK28 _ _ hw
      · replace hw := it_f hc hw
        refine r_iload_n C dX12_escort_62 rfl ?_
        refine r_if_ne 70 C dX12_escort_63 (by decide) (fun hc => ?_) (fun hc => ?_)
        · replace hw := it_f hc hw
          refine r_iload C dX12_escort_70 rfl ?_
          exact r_iret C dX12_escort_72 ⟨_, rfl, hw⟩
        · replace hw := it_t hc hw
          refine r_iload_n C dX12_escort_66 rfl ?_
          refine r_goto 72 C dX12_escort_67 (by decide) ?_
          exact r_iret C dX12_escort_72 ⟨_, rfl, hw⟩
def wX12_escort (a0 : Nat) (x1 : Int32) (x2 : Int32) (h : Hp) (Q : Int32 → Hp → Prop) : Prop :=
  if x1 < 0 then (Q (-1 : Int32) h) else (wX12_isGate a0 (x1 / (10 : Int32)) h (fun v1 => if v1 = 0 then (Q (-1 : Int32) h) else (wX12_in x2 (0 : Int32) (1 : Int32) h (fun v2 => if v2 = 0 then (Q (-1 : Int32) h) else (eX12_escort_28 a0 x1 x2 Q (0 : Int32) h)))))
set_option maxRecDepth 20000 in
theorem sX12_escort {G : GG} {a0 : Nat} {x1 : Int32} {x2 : Int32} {h : Hp} {Q : Int32 → Hp → Prop} (k0 : kd a0 = 12) (hw : wX12_escort a0 x1 x2 h Q) : CI G 2 yX12_escort cX12_escort 5 (some .int) [.ref (G.1 a0), .int x1, .int x2] h Q := by
  refine CO_of [some (.ref (G.1 a0)), some (.int x1), some (.int x2), none, none] (by decide) (Nat.le_of_ble_eq_true rfl) rfl (fun X C => ?_)
  unfold wX12_escort at hw
  refine r_iload_n C dX12_escort_0 rfl ?_
  refine r_if_lt 24 C dX12_escort_1 (by decide) (fun hc => ?_) (fun hc => ?_)
  · replace hw := it_t hc hw
    refine r_iconst (-1) C dX12_escort_24 (by decide) ?_
    exact r_iret C dX12_escort_25 ⟨_, rfl, hw⟩
  · replace hw := it_f hc hw
    refine r_aload_n C dX12_escort_4 rfl ?_
    refine r_iload_n C dX12_escort_5 rfl ?_
    refine r_bipush (10) C dX12_escort_6 (by decide) ?_
    refine r_idiv C dX12_escort_8 (by decide) ?_
    refine kX12_157 C (k0) (sX12_isGate (k0) hw) dX12_escort_9 (Nat.le_of_ble_eq_true rfl) rfl (Nat.le_of_ble_eq_true rfl) (fun v1 hw => ?_)
    refine r_if_eq 24 C dX12_escort_12 (by decide) (fun hc => ?_) (fun hc => ?_)
    · replace hw := it_t hc hw
      refine r_iconst (-1) C dX12_escort_24 (by decide) ?_
      exact r_iret C dX12_escort_25 ⟨_, rfl, hw⟩
    · replace hw := it_f hc hw
      refine r_iload_n C dX12_escort_15 rfl ?_
      refine r_iconst (0) C dX12_escort_16 (by decide) ?_
      refine r_iconst (1) C dX12_escort_17 (by decide) ?_
      refine kX12_114 C (sX12_in hw) dX12_escort_18 (Nat.le_of_ble_eq_true rfl) rfl (Nat.le_of_ble_eq_true rfl) (fun v2 hw => ?_)
      refine r_if_ne 26 C dX12_escort_21 (by decide) (fun hc => ?_) (fun hc => ?_)
      · replace hw := it_f hc hw
        refine r_iconst (0) C dX12_escort_26 (by decide) ?_
        refine r_istore_n [some (.ref (G.1 a0)), some (.int x1), some (.int x2), some (.int (0 : Int32)), none] C dX12_escort_27 (Nat.le_of_ble_eq_true rfl) rfl rfl ?_
        exact tX12_escort_28 C (k0) hw
      · replace hw := it_t hc hw
        refine r_iconst (-1) C dX12_escort_24 (by decide) ?_
        exact r_iret C dX12_escort_25 ⟨_, rfl, hw⟩
abbrev TG4 : Type := (Nat → Int32 → Int32 → Int32 → Hp → (Int32 → Prop) → Prop)
def HG4 (G : GG) (r : TG4) (n : Nat) : Prop := (∀ (a0 : Nat) (x1 : Int32) (x2 : Int32) (x3 : Int32) (h : Hp) (Q : (Int32 → Prop)), kd a0 = 12 → r a0 x1 x2 x3 h Q → PI G (0 + n) yX12_isSoon cX12_isSoon 5 (some .boolean) [.ref (G.1 a0), .int x1, .int x2, .int x3] h Q)
def fX12_isSoon_19 (a0 : Nat) (x1 : Int32) (x2 : Int32) (x3 : Int32) (h : Hp) (r : TG4) (Q : Int32 → Prop) (K19 : Int32 → Prop) (x4 : Int32) : Prop :=
  if x3 < x4 then (Q (0 : Int32)) else (vp_in x2 (ln (rf a0 2)) ∧ (if x1 < (x4 * (gI h (rf a0 2) x2.toNatClampNeg)) then (Q (0 : Int32)) else (vp_in x2 (ln (rf a0 2)) ∧ (r a0 (x1 - (x4 * (gI h (rf a0 2) x2.toNatClampNeg))) (x2 + (1 : Int32)) x3 h (fun v3 => if v3 = 0 then (∀ v4 : Int32, v4 = x4 + (1 : Int32) → (K19 v4)) else (Q (1 : Int32)))))))
def eX12_isSoon_19 (a0 : Nat) (x1 : Int32) (x2 : Int32) (x3 : Int32) (h : Hp) (r : TG4) (Q : Int32 → Prop) (x4 : Int32) : Prop := ∃ N, lpN (fun (K : Int32 → Prop) (s : Int32) => fX12_isSoon_19 a0 x1 x2 x3 h r Q (fun x4 => K x4) s) N x4
theorem iX12_isSoon_19 {a0 : Nat} {x1 : Int32} {x2 : Int32} {x3 : Int32} {h : Hp} {r : TG4} {Q : Int32 → Prop} (I : Int32 → Prop) (μ : Int32 → Nat) (hs : ∀ (x4 : Int32), I x4 → ∀ K : Int32 → Prop, (∀ (x4' : Int32), I x4' → μ x4' < μ x4 → K x4') → fX12_isSoon_19 a0 x1 x2 x3 h r Q K x4) : ∀ (x4 : Int32), I x4 → eX12_isSoon_19 a0 x1 x2 x3 h r Q x4 := fun x4 hI => lp_ind (fun s => I s) (fun s => μ s) (fun s hs' K hK => hs s hs' _ (fun x4' h1 h2 => hK x4' h1 h2)) x4 hI
set_option maxRecDepth 20000 in
theorem tX12_isSoon_19 {G : GG} {X : XX} {n : Nat} {r : TG4} {a0 : Nat} {x1 : Int32} {x2 : Int32} {x3 : Int32} {x4 : Int32} {h : Hp}  {Q : Int32 → Prop} (C : Cx G RX12 cX12_isSoon 5 (some .boolean) (0 + n + 1) 0 0 X) (hr : HG4 G r n) (k0 : kd a0 = 12) (hw : eX12_isSoon_19 a0 x1 x2 x3 h r Q x4) : R0 G X 0 0 (ZM G (fun r h' => ∃ v, r = some (.int v) ∧ h' = h ∧ Q v) X) 19 [some (.ref (G.1 a0)), some (.int x1), some (.int x2), some (.int x3), some (.int x4)] [] h := by
  obtain ⟨N, hw⟩ := hw
  induction N generalizing x4 with
  | zero => exact hw.elim
  | succ N ih =>
    obtain ⟨K19, eK⟩ : ∃ K : Int32 → Prop, K = (fun x4 => lpN (fun (K : Int32 → Prop) (s : Int32) => fX12_isSoon_19 a0 x1 x2 x3 h r Q (fun x4 => K x4) s) N x4) := ⟨_, rfl⟩
    have hw : fX12_isSoon_19 a0 x1 x2 x3 h r Q (fun x4 => lpN (fun (K : Int32 → Prop) (s : Int32) => fX12_isSoon_19 a0 x1 x2 x3 h r Q (fun x4 => K x4) s) N x4) x4 := hw
    have hK19 : ∀ (x4 : Int32), K19 x4 → R0 G X 0 0 (ZM G (fun r h' => ∃ v, r = some (.int v) ∧ h' = h ∧ Q v) X) 19 [some (.ref (G.1 a0)), some (.int x1), some (.int x2), some (.int x3), some (.int x4)] [] h := fun x4 q => ih (by rw [eK] at q; exact q)
    rw [← eK] at hw
    clear eK ih
    unfold fX12_isSoon_19 at hw
    refine r_iload C dX12_isSoon_19 rfl ?_
    refine r_iload_n C dX12_isSoon_21 rfl ?_
    refine r_icmp_gt 68 C dX12_isSoon_22 (by decide) (fun hc => ?_) (fun hc => ?_)
    · replace hw := it_t hc hw
      refine r_iconst (0) C dX12_isSoon_68 (by decide) ?_
      exact r_zret C dX12_isSoon_69 rfl ⟨_, rfl, rfl, hw⟩
    · replace hw := it_f hc hw
      refine r_iload C dX12_isSoon_25 rfl ?_
      refine r_aload_n C dX12_isSoon_27 rfl ?_
      refine gX12_7 C (k0) dX12_isSoon_28 ?_
      refine r_iload_n C dX12_isSoon_31 rfl ?_
      obtain ⟨hi1, hw⟩ := hw
      refine r_iald C (kr12_2 (k0)) hi1 dX12_isSoon_32 ?_
      refine r_imul C dX12_isSoon_33 ?_
      refine r_iload_n C dX12_isSoon_34 rfl ?_
      refine r_icmp_gt 68 C dX12_isSoon_35 (by decide) (fun hc => ?_) (fun hc => ?_)
      · replace hw := it_t hc hw
        refine r_iconst (0) C dX12_isSoon_68 (by decide) ?_
        exact r_zret C dX12_isSoon_69 rfl ⟨_, rfl, rfl, hw⟩
      · replace hw := it_f hc hw
        refine r_aload_n C dX12_isSoon_38 rfl ?_
        refine r_iload_n C dX12_isSoon_39 rfl ?_
        refine r_iload C dX12_isSoon_40 rfl ?_
        refine r_aload_n C dX12_isSoon_42 rfl ?_
        refine gX12_7 C (k0) dX12_isSoon_43 ?_
        refine r_iload_n C dX12_isSoon_46 rfl ?_
        obtain ⟨hi2, hw⟩ := hw
        refine r_iald C (kr12_2 (k0)) hi2 dX12_isSoon_47 ?_
        refine r_imul C dX12_isSoon_48 ?_
        refine r_isub C dX12_isSoon_49 ?_
        refine r_iload_n C dX12_isSoon_50 rfl ?_
        refine r_iconst (1) C dX12_isSoon_51 (by decide) ?_
        refine r_iadd C dX12_isSoon_52 ?_
        refine r_iload_n C dX12_isSoon_53 rfl ?_
        refine kX12_318 C (k0) (hr _ _ _ _ _ _ (k0) hw) dX12_isSoon_54 (by omega) rfl (Nat.le_of_ble_eq_true rfl) (fun v3 hw => ?_)
        refine r_if_eq 62 C dX12_isSoon_57 (by decide) (fun hc => ?_) (fun hc => ?_)
        · replace hw := it_t hc hw
          obtain ⟨v4, ev4⟩ : ∃ v : Int32, v = x4 + (1 : Int32) := ⟨_, rfl⟩
          replace hw := hw v4 ev4
          refine r_iinc v4 [some (.ref (G.1 a0)), some (.int x1), some (.int x2), some (.int x3), some (.int v4)] C dX12_isSoon_62 rfl (by rw [ev4]; rfl) rfl rfl ?_
          refine r_goto 19 C dX12_isSoon_65 (by decide) ?_
          exact hK19 _ hw
        · replace hw := it_f hc hw
          refine r_iconst (1) C dX12_isSoon_60 (by decide) ?_
          exact r_zret C dX12_isSoon_61 rfl ⟨_, rfl, rfl, hw⟩
def bX12_isSoon (r : TG4) (a0 : Nat) (x1 : Int32) (x2 : Int32) (x3 : Int32) (h : Hp) (Q : Int32 → Prop) : Prop :=
  if x1 = 0 then (Q (1 : Int32)) else (if x2 = (gI h a0 1) then (Q (0 : Int32)) else (eX12_isSoon_19 a0 x1 x2 x3 h r Q (0 : Int32)))
set_option maxRecDepth 20000 in
theorem uX12_isSoon {G : GG} {n : Nat} {r : TG4} {a0 : Nat} {x1 : Int32} {x2 : Int32} {x3 : Int32} {h : Hp} {Q : Int32 → Prop} (hr : HG4 G r n) (k0 : kd a0 = 12) (hw : bX12_isSoon r a0 x1 x2 x3 h Q) : PI G (0 + n + 1) yX12_isSoon cX12_isSoon 5 (some .boolean) [.ref (G.1 a0), .int x1, .int x2, .int x3] h Q := by
  refine CO_of [some (.ref (G.1 a0)), some (.int x1), some (.int x2), some (.int x3), none] (by decide) (Nat.le_of_ble_eq_true rfl) rfl (fun X C => ?_)
  unfold bX12_isSoon at hw
  refine r_iload_n C dX12_isSoon_0 rfl ?_
  refine r_if_ne 6 C dX12_isSoon_1 (by decide) (fun hc => ?_) (fun hc => ?_)
  · replace hw := it_f hc hw
    refine r_iload_n C dX12_isSoon_6 rfl ?_
    refine r_aload_n C dX12_isSoon_7 rfl ?_
    refine gX12_111 C (k0) dX12_isSoon_8 ?_
    refine r_icmp_ne 16 C dX12_isSoon_11 (by decide) (fun hc => ?_) (fun hc => ?_)
    · replace hw := it_f hc hw
      refine r_iconst (0) C dX12_isSoon_16 (by decide) ?_
      refine r_istore [some (.ref (G.1 a0)), some (.int x1), some (.int x2), some (.int x3), some (.int (0 : Int32))] C dX12_isSoon_17 (Nat.le_of_ble_eq_true rfl) rfl rfl ?_
      exact tX12_isSoon_19 C hr (k0) hw
    · replace hw := it_t hc hw
      refine r_iconst (0) C dX12_isSoon_14 (by decide) ?_
      exact r_zret C dX12_isSoon_15 rfl ⟨_, rfl, rfl, hw⟩
  · replace hw := it_t hc hw
    refine r_iconst (1) C dX12_isSoon_4 (by decide) ?_
    exact r_zret C dX12_isSoon_5 rfl ⟨_, rfl, rfl, hw⟩
def wG4 : Nat → TG4
  | 0 => fun _ _ _ _ _ _ => False
  | n + 1 => bX12_isSoon (wG4 n)
theorem sG4 (G : GG) : ∀ n, HG4 G (wG4 n) n := by
  intro n
  induction n with
  | zero => exact fun _ _ _ _ _ _ k0 hw => False.elim hw
  | succ n ih => exact fun _ _ _ _ _ _ k0 hw => uX12_isSoon ih k0 hw
def fX12_soon_14 (a0 : Nat) (x1 : Int32) (h : Hp) (Q : Int32 → Prop) (K14 : Int32 → Prop) (x2 : Int32) : Prop :=
  if (60 : Int32) < x2 then (Q (-2 : Int32)) else (∃ n1, n1 ≤ 120 ∧ ((wG4 n1) a0 x1 (0 : Int32) x2 h (fun v2 => if v2 = 0 then (∀ v3 : Int32, v3 = x2 + (1 : Int32) → (K14 v3)) else (Q x2))))
def eX12_soon_14 (a0 : Nat) (x1 : Int32) (h : Hp) (Q : Int32 → Prop) (x2 : Int32) : Prop := ∃ N, lpN (fun (K : Int32 → Prop) (s : Int32) => fX12_soon_14 a0 x1 h Q (fun x2 => K x2) s) N x2
theorem iX12_soon_14 {a0 : Nat} {x1 : Int32} {h : Hp} {Q : Int32 → Prop} (I : Int32 → Prop) (μ : Int32 → Nat) (hs : ∀ (x2 : Int32), I x2 → ∀ K : Int32 → Prop, (∀ (x2' : Int32), I x2' → μ x2' < μ x2 → K x2') → fX12_soon_14 a0 x1 h Q K x2) : ∀ (x2 : Int32), I x2 → eX12_soon_14 a0 x1 h Q x2 := fun x2 hI => lp_ind (fun s => I s) (fun s => μ s) (fun s hs' K hK => hs s hs' _ (fun x2' h1 h2 => hK x2' h1 h2)) x2 hI
set_option maxRecDepth 20000 in
theorem tX12_soon_14 {G : GG} {X : XX} {a0 : Nat} {x1 : Int32} {x2 : Int32} {h : Hp}  {Q : Int32 → Prop} (C : Cx G RX12 cX12_soon 3 (some .int) 121 0 0 X) (k0 : kd a0 = 12) (hw : eX12_soon_14 a0 x1 h Q x2) : R0 G X 0 0 (ZM G (fun r h' => ∃ v, r = some (.int v) ∧ h' = h ∧ Q v) X) 14 [some (.ref (G.1 a0)), some (.int x1), some (.int x2)] [] h := by
  obtain ⟨N, hw⟩ := hw
  induction N generalizing x2 with
  | zero => exact hw.elim
  | succ N ih =>
    obtain ⟨K14, eK⟩ : ∃ K : Int32 → Prop, K = (fun x2 => lpN (fun (K : Int32 → Prop) (s : Int32) => fX12_soon_14 a0 x1 h Q (fun x2 => K x2) s) N x2) := ⟨_, rfl⟩
    have hw : fX12_soon_14 a0 x1 h Q (fun x2 => lpN (fun (K : Int32 → Prop) (s : Int32) => fX12_soon_14 a0 x1 h Q (fun x2 => K x2) s) N x2) x2 := hw
    have hK14 : ∀ (x2 : Int32), K14 x2 → R0 G X 0 0 (ZM G (fun r h' => ∃ v, r = some (.int v) ∧ h' = h ∧ Q v) X) 14 [some (.ref (G.1 a0)), some (.int x1), some (.int x2)] [] h := fun x2 q => ih (by rw [eK] at q; exact q)
    rw [← eK] at hw
    clear eK ih
    unfold fX12_soon_14 at hw
    refine r_iload_n C dX12_soon_14 rfl ?_
    refine r_bipush (60) C dX12_soon_15 (by decide) ?_
    refine r_icmp_gt 38 C dX12_soon_17 (by decide) (fun hc => ?_) (fun hc => ?_)
    · replace hw := it_t hc hw
      refine r_bipush (-2) C dX12_soon_38 (by decide) ?_
      exact r_iret C dX12_soon_40 ⟨_, rfl, rfl, hw⟩
    · replace hw := it_f hc hw
      refine r_aload_n C dX12_soon_20 rfl ?_
      refine r_iload_n C dX12_soon_21 rfl ?_
      refine r_iconst (0) C dX12_soon_22 (by decide) ?_
      refine r_iload_n C dX12_soon_23 rfl ?_
      obtain ⟨n1, hnn1, hw⟩ := hw
      refine kX12_318 C (k0) ((sG4 G n1) _ _ _ _ _ _ (k0) hw) dX12_soon_24 (by omega) rfl (Nat.le_of_ble_eq_true rfl) (fun v2 hw => ?_)
      refine r_if_eq 32 C dX12_soon_27 (by decide) (fun hc => ?_) (fun hc => ?_)
      · replace hw := it_t hc hw
        obtain ⟨v3, ev3⟩ : ∃ v : Int32, v = x2 + (1 : Int32) := ⟨_, rfl⟩
        replace hw := hw v3 ev3
        refine r_iinc v3 [some (.ref (G.1 a0)), some (.int x1), some (.int v3)] C dX12_soon_32 rfl (by rw [ev3]; rfl) rfl rfl ?_
        refine r_goto 14 C dX12_soon_35 (by decide) ?_
        exact hK14 _ hw
      · replace hw := it_f hc hw
        refine r_iload_n C dX12_soon_30 rfl ?_
        exact r_iret C dX12_soon_31 ⟨_, rfl, rfl, hw⟩
def wX12_soon (a0 : Nat) (x1 : Int32) (h : Hp) (Q : Int32 → Prop) : Prop :=
  wX12_in x1 (0 : Int32) (60 : Int32) h (fun v1 => if v1 = 0 then (Q (-1 : Int32)) else (eX12_soon_14 a0 x1 h Q (0 : Int32)))
set_option maxRecDepth 20000 in
theorem sX12_soon {G : GG} {a0 : Nat} {x1 : Int32} {h : Hp} {Q : Int32 → Prop} (k0 : kd a0 = 12) (hw : wX12_soon a0 x1 h Q) : PI G 121 yX12_soon cX12_soon 3 (some .int) [.ref (G.1 a0), .int x1] h Q := by
  refine CO_of [some (.ref (G.1 a0)), some (.int x1), none] (by decide) (Nat.le_of_ble_eq_true rfl) rfl (fun X C => ?_)
  unfold wX12_soon at hw
  refine r_iload_n C dX12_soon_0 rfl ?_
  refine r_iconst (0) C dX12_soon_1 (by decide) ?_
  refine r_bipush (60) C dX12_soon_2 (by decide) ?_
  refine kX12_114 C (sX12_in hw) dX12_soon_4 (Nat.le_of_ble_eq_true rfl) rfl (Nat.le_of_ble_eq_true rfl) (fun v1 hw => ?_)
  refine r_if_ne 12 C dX12_soon_7 (by decide) (fun hc => ?_) (fun hc => ?_)
  · replace hw := it_f hc hw
    refine r_iconst (0) C dX12_soon_12 (by decide) ?_
    refine r_istore_n [some (.ref (G.1 a0)), some (.int x1), some (.int (0 : Int32))] C dX12_soon_13 (Nat.le_of_ble_eq_true rfl) rfl rfl ?_
    exact tX12_soon_14 C (k0) hw
  · replace hw := it_t hc hw
    refine r_iconst (-1) C dX12_soon_10 (by decide) ?_
    exact r_iret C dX12_soon_11 ⟨_, rfl, rfl, hw⟩
def fX12_common_6 (h : Hp) (Q : Int64 → Prop) (K6 : Int64 → Int64 → Prop) (x4 : Int64) (x6 : Int64) : Prop :=
  if (lg_cmp x6 (0 : Int64)) = 0 then (Q x4) else (¬ x6 = 0 ∧ (∀ v2 : Int64, v2 = (rmL x4 x6) → (K6 x6 v2)))
def eX12_common_6 (h : Hp) (Q : Int64 → Prop) (x4 : Int64) (x6 : Int64) : Prop := ∃ N, lpN (fun (K : Int64 × Int64 → Prop) (s : Int64 × Int64) => fX12_common_6 h Q (fun x4 x6 => K (x4, x6)) s.1 s.2) N (x4, x6)
theorem iX12_common_6 {h : Hp} {Q : Int64 → Prop} (I : Int64 → Int64 → Prop) (μ : Int64 → Int64 → Nat) (hs : ∀ (x4 : Int64) (x6 : Int64), I x4 x6 → ∀ K : Int64 → Int64 → Prop, (∀ (x4' : Int64) (x6' : Int64), I x4' x6' → μ x4' x6' < μ x4 x6 → K x4' x6') → fX12_common_6 h Q K x4 x6) : ∀ (x4 : Int64) (x6 : Int64), I x4 x6 → eX12_common_6 h Q x4 x6 := fun x4 x6 hI => lp_ind (fun s => I s.1 s.2) (fun s => μ s.1 s.2) (fun s hs' K hK => hs s.1 s.2 hs' _ (fun x4' x6' h1 h2 => hK (x4', x6') h1 h2)) (x4, x6) hI
set_option maxRecDepth 20000 in
theorem tX12_common_6 {G : GG} {X : XX} {x4 : Int64} {x6 : Int64} {h : Hp}  {Q : Int64 → Prop} (C : Cx G RX12 cX12_common 10 (some .long) 0 0 0 X) (hw : eX12_common_6 h Q x4 x6) : R0 G X 0 0 (ZM G (fun r h' => ∃ v, r = some (.long v) ∧ h' = h ∧ Q v) X) 6 [none, none, none, none, some (.long x4), none, some (.long x6), none, none, none] [] h := by
  obtain ⟨N, hw⟩ := hw
  induction N generalizing x4 x6 with
  | zero => exact hw.elim
  | succ N ih =>
    obtain ⟨K6, eK⟩ : ∃ K : Int64 → Int64 → Prop, K = (fun x4 x6 => lpN (fun (K : Int64 × Int64 → Prop) (s : Int64 × Int64) => fX12_common_6 h Q (fun x4 x6 => K (x4, x6)) s.1 s.2) N (x4, x6)) := ⟨_, rfl⟩
    have hw : fX12_common_6 h Q (fun x4 x6 => lpN (fun (K : Int64 × Int64 → Prop) (s : Int64 × Int64) => fX12_common_6 h Q (fun x4 x6 => K (x4, x6)) s.1 s.2) N (x4, x6)) x4 x6 := hw
    have hK6 : ∀ (x4 : Int64) (x6 : Int64), K6 x4 x6 → R0 G X 0 0 (ZM G (fun r h' => ∃ v, r = some (.long v) ∧ h' = h ∧ Q v) X) 6 [none, none, none, none, some (.long x4), none, some (.long x6), none, none, none] [] h := fun x4 x6 q => ih (by rw [eK] at q; exact q)
    rw [← eK] at hw
    clear eK ih
    unfold fX12_common_6 at hw
    refine r_lload C dX12_common_6 rfl ?_
    refine r_lconst (0) C dX12_common_8 (by decide) ?_
    refine r_lcmp C dX12_common_9 ?_
    refine r_if_eq 31 C dX12_common_10 (by decide) (fun hc => ?_) (fun hc => ?_)
    · replace hw := it_t hc hw
      refine r_lload C dX12_common_31 rfl ?_
      exact r_lret C dX12_common_33 ⟨_, rfl, rfl, hw⟩
    · replace hw := it_f hc hw
      refine r_lload C dX12_common_13 rfl ?_
      refine r_lload C dX12_common_15 rfl ?_
      obtain ⟨hz1, hw⟩ := hw
      refine r_lrem C dX12_common_17 hz1 ?_
      refine r_topl (fun v2 ev2 => ?_)
      replace hw := hw v2 ev2
      refine r_lstore [none, none, none, none, some (.long x4), none, some (.long x6), none, some (.long v2), none] C dX12_common_18 (Nat.le_of_ble_eq_true rfl) rfl rfl ?_
      refine r_lload C dX12_common_20 rfl ?_
      refine r_lstore [none, none, none, none, some (.long x6), none, some (.long x6), none, some (.long v2), none] C dX12_common_22 (Nat.le_of_ble_eq_true rfl) rfl rfl ?_
      refine r_lload C dX12_common_24 rfl ?_
      refine r_lstore [none, none, none, none, some (.long x6), none, some (.long v2), none, some (.long v2), none] C dX12_common_26 (Nat.le_of_ble_eq_true rfl) rfl rfl ?_
      refine r_goto 6 C dX12_common_28 (by decide) ?_
      refine r_weak [none, none, none, none, some (.long x6), none, some (.long v2), none, none, none] (lw_k (lw_k (lw_k (lw_k (lw_k (lw_k (lw_k (lw_k (lw_d (lw_k (lw_n))))))))))) ?_
      exact hK6 _ _ hw
def wX12_common (x0 : Int64) (x2 : Int64) (h : Hp) (Q : Int64 → Prop) : Prop :=
  eX12_common_6 h Q x0 x2
set_option maxRecDepth 20000 in
theorem sX12_common {G : GG} {x0 : Int64} {x2 : Int64} {h : Hp} {Q : Int64 → Prop} (hw : wX12_common x0 x2 h Q) : PJ G 0 yX12_common cX12_common 10 (some .long) [.long x0, .long x2] h Q := by
  refine CO_of [some (.long x0), none, some (.long x2), none, none, none, none, none, none, none] (by decide) (Nat.le_of_ble_eq_true rfl) rfl (fun X C => ?_)
  unfold wX12_common at hw
  refine r_lload_n C dX12_common_0 rfl ?_
  refine r_lstore [some (.long x0), none, some (.long x2), none, some (.long x0), none, none, none, none, none] C dX12_common_1 (Nat.le_of_ble_eq_true rfl) rfl rfl ?_
  refine r_lload_n C dX12_common_3 rfl ?_
  refine r_lstore [some (.long x0), none, some (.long x2), none, some (.long x0), none, some (.long x2), none, none, none] C dX12_common_4 (Nat.le_of_ble_eq_true rfl) rfl rfl ?_
  refine r_weak [none, none, none, none, some (.long x0), none, some (.long x2), none, none, none] (lw_d (lw_k (lw_d (lw_k (lw_k (lw_k (lw_k (lw_k (lw_k (lw_k (lw_n))))))))))) ?_
  exact tX12_common_6 C  hw
def fX12_power_4 (x0 : Int32) (h : Hp) (Q : Int64 → Prop) (K4 : Int64 → Int32 → Prop) (x1 : Int64) (x3 : Int32) : Prop :=
  if x0 ≤ x3 then (Q x1) else (∀ v1 : Int64, v1 = (x1 * (12 : Int64)) → (∀ v2 : Int32, v2 = x3 + (1 : Int32) → (K4 v1 v2)))
def eX12_power_4 (x0 : Int32) (h : Hp) (Q : Int64 → Prop) (x1 : Int64) (x3 : Int32) : Prop := ∃ N, lpN (fun (K : Int64 × Int32 → Prop) (s : Int64 × Int32) => fX12_power_4 x0 h Q (fun x1 x3 => K (x1, x3)) s.1 s.2) N (x1, x3)
theorem iX12_power_4 {x0 : Int32} {h : Hp} {Q : Int64 → Prop} (I : Int64 → Int32 → Prop) (μ : Int64 → Int32 → Nat) (hs : ∀ (x1 : Int64) (x3 : Int32), I x1 x3 → ∀ K : Int64 → Int32 → Prop, (∀ (x1' : Int64) (x3' : Int32), I x1' x3' → μ x1' x3' < μ x1 x3 → K x1' x3') → fX12_power_4 x0 h Q K x1 x3) : ∀ (x1 : Int64) (x3 : Int32), I x1 x3 → eX12_power_4 x0 h Q x1 x3 := fun x1 x3 hI => lp_ind (fun s => I s.1 s.2) (fun s => μ s.1 s.2) (fun s hs' K hK => hs s.1 s.2 hs' _ (fun x1' x3' h1 h2 => hK (x1', x3') h1 h2)) (x1, x3) hI
set_option maxRecDepth 20000 in
theorem tX12_power_4 {G : GG} {X : XX} {x0 : Int32} {x1 : Int64} {x3 : Int32} {h : Hp}  {Q : Int64 → Prop} (C : Cx G RX12 cX12_power 4 (some .long) 0 0 0 X) (hw : eX12_power_4 x0 h Q x1 x3) : R0 G X 0 0 (ZM G (fun r h' => ∃ v, r = some (.long v) ∧ h' = h ∧ Q v) X) 4 [some (.int x0), some (.long x1), none, some (.int x3)] [] h := by
  obtain ⟨N, hw⟩ := hw
  induction N generalizing x1 x3 with
  | zero => exact hw.elim
  | succ N ih =>
    obtain ⟨K4, eK⟩ : ∃ K : Int64 → Int32 → Prop, K = (fun x1 x3 => lpN (fun (K : Int64 × Int32 → Prop) (s : Int64 × Int32) => fX12_power_4 x0 h Q (fun x1 x3 => K (x1, x3)) s.1 s.2) N (x1, x3)) := ⟨_, rfl⟩
    have hw : fX12_power_4 x0 h Q (fun x1 x3 => lpN (fun (K : Int64 × Int32 → Prop) (s : Int64 × Int32) => fX12_power_4 x0 h Q (fun x1 x3 => K (x1, x3)) s.1 s.2) N (x1, x3)) x1 x3 := hw
    have hK4 : ∀ (x1 : Int64) (x3 : Int32), K4 x1 x3 → R0 G X 0 0 (ZM G (fun r h' => ∃ v, r = some (.long v) ∧ h' = h ∧ Q v) X) 4 [some (.int x0), some (.long x1), none, some (.int x3)] [] h := fun x1 x3 q => ih (by rw [eK] at q; exact q)
    rw [← eK] at hw
    clear eK ih
    unfold fX12_power_4 at hw
    refine r_iload_n C dX12_power_4 rfl ?_
    refine r_iload_n C dX12_power_5 rfl ?_
    refine r_icmp_ge 21 C dX12_power_6 (by decide) (fun hc => ?_) (fun hc => ?_)
    · replace hw := it_t hc hw
      refine r_lload_n C dX12_power_21 rfl ?_
      exact r_lret C dX12_power_22 ⟨_, rfl, rfl, hw⟩
    · replace hw := it_f hc hw
      refine r_lload_n C dX12_power_9 rfl ?_
      refine r_ldc2_w (12) C wd1515 dX12_power_10 ?_
      refine r_lmul C dX12_power_13 ?_
      refine r_topl (fun v1 ev1 => ?_)
      replace hw := hw v1 ev1
      refine r_lstore_n [some (.int x0), some (.long v1), none, some (.int x3)] C dX12_power_14 (Nat.le_of_ble_eq_true rfl) rfl rfl ?_
      obtain ⟨v2, ev2⟩ : ∃ v : Int32, v = x3 + (1 : Int32) := ⟨_, rfl⟩
      replace hw := hw v2 ev2
      refine r_iinc v2 [some (.int x0), some (.long v1), none, some (.int v2)] C dX12_power_15 rfl (by rw [ev2]; rfl) rfl rfl ?_
      refine r_goto 4 C dX12_power_18 (by decide) ?_
      exact hK4 _ _ hw
def wX12_power (x0 : Int32) (h : Hp) (Q : Int64 → Prop) : Prop :=
  eX12_power_4 x0 h Q (1 : Int64) (0 : Int32)
set_option maxRecDepth 20000 in
theorem sX12_power {G : GG} {x0 : Int32} {h : Hp} {Q : Int64 → Prop} (hw : wX12_power x0 h Q) : PJ G 0 yX12_power cX12_power 4 (some .long) [.int x0] h Q := by
  refine CO_of [some (.int x0), none, none, none] (by decide) (Nat.le_of_ble_eq_true rfl) rfl (fun X C => ?_)
  unfold wX12_power at hw
  refine r_lconst (1) C dX12_power_0 (by decide) ?_
  refine r_lstore_n [some (.int x0), some (.long (1 : Int64)), none, none] C dX12_power_1 (Nat.le_of_ble_eq_true rfl) rfl rfl ?_
  refine r_iconst (0) C dX12_power_2 (by decide) ?_
  refine r_istore_n [some (.int x0), some (.long (1 : Int64)), none, some (.int (0 : Int32))] C dX12_power_3 (Nat.le_of_ble_eq_true rfl) rfl rfl ?_
  exact tX12_power_4 C  hw
abbrev TG5 : Type := (Nat → Int32 → Int32 → Int32 → Int32 → Hp → (Int64 → Hp → Prop) → Prop)
def HG5 (G : GG) (r : TG5) (n : Nat) : Prop := (∀ (a0 : Nat) (x1 : Int32) (x2 : Int32) (x3 : Int32) (x4 : Int32) (h : Hp) (Q : (Int64 → Hp → Prop)), kd a0 = 12 → r a0 x1 x2 x3 x4 h Q → CJ G (4 + n) yX12_waiting cX12_waiting 6 (some .long) [.ref (G.1 a0), .int x1, .int x2, .int x3, .int x4] h Q)
def bX12_waiting (r : TG5) (a0 : Nat) (x1 : Int32) (x2 : Int32) (x3 : Int32) (x4 : Int32) (h : Hp) (Q : Int64 → Hp → Prop) : Prop :=
  if x4 = 0 then (Q (0 : Int64) h) else (vp_in x1 (ln (rf a0 2)) ∧ (if x2 = (gI h (rf a0 2) x1.toNatClampNeg) then (Q (0 : Int64) h) else (wX12_comesTo a0 x1 x2 x3 h (fun v2 h3 => wX12_power x4 h3 (fun v4 => r a0 x1 (x2 + (1 : Int32)) (x3 + (1 : Int32)) (x4 - (1 : Int32)) h3 (fun v5 h6 => r a0 x1 x2 (x3 + (1 : Int32)) (x4 - (1 : Int32)) h6 (fun v7 h8 => Q ((v4 + (v2.toInt64 * v5)) + (((12 : Int32) - v2).toInt64 * v7)) h8)))))))
set_option maxRecDepth 20000 in
theorem uX12_waiting {G : GG} {n : Nat} {r : TG5} {a0 : Nat} {x1 : Int32} {x2 : Int32} {x3 : Int32} {x4 : Int32} {h : Hp} {Q : Int64 → Hp → Prop} (hr : HG5 G r n) (k0 : kd a0 = 12) (hw : bX12_waiting r a0 x1 x2 x3 x4 h Q) : CJ G (4 + n + 1) yX12_waiting cX12_waiting 6 (some .long) [.ref (G.1 a0), .int x1, .int x2, .int x3, .int x4] h Q := by
  refine CO_of [some (.ref (G.1 a0)), some (.int x1), some (.int x2), some (.int x3), some (.int x4), none] (by decide) (Nat.le_of_ble_eq_true rfl) rfl (fun X C => ?_)
  unfold bX12_waiting at hw
  refine r_iload C dX12_waiting_0 rfl ?_
  refine r_if_eq 15 C dX12_waiting_2 (by decide) (fun hc => ?_) (fun hc => ?_)
  · replace hw := it_t hc hw
    refine r_lconst (0) C dX12_waiting_15 (by decide) ?_
    exact r_lret C dX12_waiting_16 ⟨_, rfl, hw⟩
  · replace hw := it_f hc hw
    refine r_iload_n C dX12_waiting_5 rfl ?_
    refine r_aload_n C dX12_waiting_6 rfl ?_
    refine gX12_7 C (k0) dX12_waiting_7 ?_
    refine r_iload_n C dX12_waiting_10 rfl ?_
    obtain ⟨hi1, hw⟩ := hw
    refine r_iald C (kr12_2 (k0)) hi1 dX12_waiting_11 ?_
    refine r_icmp_ne 17 C dX12_waiting_12 (by decide) (fun hc => ?_) (fun hc => ?_)
    · replace hw := it_f hc hw
      refine r_aload_n C dX12_waiting_17 rfl ?_
      refine r_iload_n C dX12_waiting_18 rfl ?_
      refine r_iload_n C dX12_waiting_19 rfl ?_
      refine r_iload_n C dX12_waiting_20 rfl ?_
      refine kX12_237 C (k0) (sX12_comesTo (k0) hw) dX12_waiting_21 (by omega) rfl (Nat.le_of_ble_eq_true rfl) (fun v2 h3 hw => ?_)
      refine r_istore [some (.ref (G.1 a0)), some (.int x1), some (.int x2), some (.int x3), some (.int x4), some (.int v2)] C dX12_waiting_24 (Nat.le_of_ble_eq_true rfl) rfl rfl ?_
      refine r_iload C dX12_waiting_26 rfl ?_
      refine kX12_323 C (sX12_power hw) dX12_waiting_28 (by omega) rfl (Nat.le_of_ble_eq_true rfl) (fun v4 hw => ?_)
      refine r_iload C dX12_waiting_31 rfl ?_
      refine r_i2l C dX12_waiting_33 ?_
      refine r_aload_n C dX12_waiting_34 rfl ?_
      refine r_iload_n C dX12_waiting_35 rfl ?_
      refine r_iload_n C dX12_waiting_36 rfl ?_
      refine r_iconst (1) C dX12_waiting_37 (by decide) ?_
      refine r_iadd C dX12_waiting_38 ?_
      refine r_iload_n C dX12_waiting_39 rfl ?_
      refine r_iconst (1) C dX12_waiting_40 (by decide) ?_
      refine r_iadd C dX12_waiting_41 ?_
      refine r_iload C dX12_waiting_42 rfl ?_
      refine r_iconst (1) C dX12_waiting_44 (by decide) ?_
      refine r_isub C dX12_waiting_45 ?_
      refine kX12_327 C (k0) (hr _ _ _ _ _ _ _ (k0) hw) dX12_waiting_46 (by omega) rfl (Nat.le_of_ble_eq_true rfl) (fun v5 h6 hw => ?_)
      refine r_lmul C dX12_waiting_49 ?_
      refine r_ladd C dX12_waiting_50 ?_
      refine r_bipush (12) C dX12_waiting_51 (by decide) ?_
      refine r_iload C dX12_waiting_53 rfl ?_
      refine r_isub C dX12_waiting_55 ?_
      refine r_i2l C dX12_waiting_56 ?_
      refine r_aload_n C dX12_waiting_57 rfl ?_
      refine r_iload_n C dX12_waiting_58 rfl ?_
      refine r_iload_n C dX12_waiting_59 rfl ?_
      refine r_iload_n C dX12_waiting_60 rfl ?_
      refine r_iconst (1) C dX12_waiting_61 (by decide) ?_
      refine r_iadd C dX12_waiting_62 ?_
      refine r_iload C dX12_waiting_63 rfl ?_
      refine r_iconst (1) C dX12_waiting_65 (by decide) ?_
      refine r_isub C dX12_waiting_66 ?_
      refine kX12_327 C (k0) (hr _ _ _ _ _ _ _ (k0) hw) dX12_waiting_67 (by omega) rfl (Nat.le_of_ble_eq_true rfl) (fun v7 h8 hw => ?_)
      refine r_lmul C dX12_waiting_70 ?_
      refine r_ladd C dX12_waiting_71 ?_
      exact r_lret C dX12_waiting_72 ⟨_, rfl, hw⟩
    · replace hw := it_t hc hw
      refine r_lconst (0) C dX12_waiting_15 (by decide) ?_
      exact r_lret C dX12_waiting_16 ⟨_, rfl, hw⟩
def wG5 : Nat → TG5
  | 0 => fun _ _ _ _ _ _ _ => False
  | n + 1 => bX12_waiting (wG5 n)
theorem sG5 (G : GG) : ∀ n, HG5 G (wG5 n) n := by
  intro n
  induction n with
  | zero => exact fun _ _ _ _ _ _ _ k0 hw => False.elim hw
  | succ n ih => exact fun _ _ _ _ _ _ _ k0 hw => uX12_waiting ih k0 hw
def wX12_waits (a0 : Nat) (x1 : Int32) (x2 : Int32) (x3 : Int32) (h : Hp) (Q : Int64 → Hp → Prop) : Prop :=
  if x1 < 0 then (Q (-9223372036854775808 : Int64) h) else (wX12_isGate a0 (x1 / (100 : Int32)) h (fun v1 => if v1 = 0 then (Q (-9223372036854775808 : Int64) h) else (wX12_isTime (rm x1 (100 : Int32)) h (fun v2 => if v2 = 0 then (Q (-9223372036854775808 : Int64) h) else (wX12_in x2 (0 : Int32) (8 : Int32) h (fun v3 => if v3 = 0 then (Q (-9223372036854775808 : Int64) h) else (wX12_in x3 (0 : Int32) (1 : Int32) h (fun v4 => if v4 = 0 then (Q (-9223372036854775808 : Int64) h) else (∃ n5, n5 ≤ 120 ∧ ((wG5 n5) a0 (x1 / (100 : Int32)) (0 : Int32) (rm x1 (100 : Int32)) x2 h (fun v6 h7 => wX12_power x2 h7 (fun v8 => wX12_common v6 v8 h7 (fun v9 => if x3 = 0 then (¬ v9 = 0 ∧ (Q (v6 / v9) h7)) else (¬ v9 = 0 ∧ (Q (v8 / v9) h7)))))))))))))))
set_option maxRecDepth 20000 in
theorem sX12_waits {G : GG} {a0 : Nat} {x1 : Int32} {x2 : Int32} {x3 : Int32} {h : Hp} {Q : Int64 → Hp → Prop} (k0 : kd a0 = 12) (hw : wX12_waits a0 x1 x2 x3 h Q) : CJ G 125 yX12_waits cX12_waits 10 (some .long) [.ref (G.1 a0), .int x1, .int x2, .int x3] h Q := by
  refine CO_of [some (.ref (G.1 a0)), some (.int x1), some (.int x2), some (.int x3), none, none, none, none, none, none] (by decide) (Nat.le_of_ble_eq_true rfl) rfl (fun X C => ?_)
  unfold wX12_waits at hw
  refine r_iload_n C dX12_waits_0 rfl ?_
  refine r_if_lt 44 C dX12_waits_1 (by decide) (fun hc => ?_) (fun hc => ?_)
  · replace hw := it_t hc hw
    refine r_ldc2_w (-9223372036854775808) C wd1507 dX12_waits_44 ?_
    exact r_lret C dX12_waits_47 ⟨_, rfl, hw⟩
  · replace hw := it_f hc hw
    refine r_aload_n C dX12_waits_4 rfl ?_
    refine r_iload_n C dX12_waits_5 rfl ?_
    refine r_bipush (100) C dX12_waits_6 (by decide) ?_
    refine r_idiv C dX12_waits_8 (by decide) ?_
    refine kX12_157 C (k0) (sX12_isGate (k0) hw) dX12_waits_9 (Nat.le_of_ble_eq_true rfl) rfl (Nat.le_of_ble_eq_true rfl) (fun v1 hw => ?_)
    refine r_if_eq 44 C dX12_waits_12 (by decide) (fun hc => ?_) (fun hc => ?_)
    · replace hw := it_t hc hw
      refine r_ldc2_w (-9223372036854775808) C wd1507 dX12_waits_44 ?_
      exact r_lret C dX12_waits_47 ⟨_, rfl, hw⟩
    · replace hw := it_f hc hw
      refine r_iload_n C dX12_waits_15 rfl ?_
      refine r_bipush (100) C dX12_waits_16 (by decide) ?_
      refine r_irem C dX12_waits_18 (by decide) ?_
      refine kX12_121 C (sX12_isTime hw) dX12_waits_19 (Nat.le_of_ble_eq_true rfl) rfl (Nat.le_of_ble_eq_true rfl) (fun v2 hw => ?_)
      refine r_if_eq 44 C dX12_waits_22 (by decide) (fun hc => ?_) (fun hc => ?_)
      · replace hw := it_t hc hw
        refine r_ldc2_w (-9223372036854775808) C wd1507 dX12_waits_44 ?_
        exact r_lret C dX12_waits_47 ⟨_, rfl, hw⟩
      · replace hw := it_f hc hw
        refine r_iload_n C dX12_waits_25 rfl ?_
        refine r_iconst (0) C dX12_waits_26 (by decide) ?_
        refine r_bipush (8) C dX12_waits_27 (by decide) ?_
        refine kX12_114 C (sX12_in hw) dX12_waits_29 (Nat.le_of_ble_eq_true rfl) rfl (Nat.le_of_ble_eq_true rfl) (fun v3 hw => ?_)
        refine r_if_eq 44 C dX12_waits_32 (by decide) (fun hc => ?_) (fun hc => ?_)
        · replace hw := it_t hc hw
          refine r_ldc2_w (-9223372036854775808) C wd1507 dX12_waits_44 ?_
          exact r_lret C dX12_waits_47 ⟨_, rfl, hw⟩
        · replace hw := it_f hc hw
          refine r_iload_n C dX12_waits_35 rfl ?_
          refine r_iconst (0) C dX12_waits_36 (by decide) ?_
          refine r_iconst (1) C dX12_waits_37 (by decide) ?_
          refine kX12_114 C (sX12_in hw) dX12_waits_38 (Nat.le_of_ble_eq_true rfl) rfl (Nat.le_of_ble_eq_true rfl) (fun v4 hw => ?_)
          refine r_if_ne 48 C dX12_waits_41 (by decide) (fun hc => ?_) (fun hc => ?_)
          · replace hw := it_f hc hw
            refine r_aload_n C dX12_waits_48 rfl ?_
            refine r_iload_n C dX12_waits_49 rfl ?_
            refine r_bipush (100) C dX12_waits_50 (by decide) ?_
            refine r_idiv C dX12_waits_52 (by decide) ?_
            refine r_iconst (0) C dX12_waits_53 (by decide) ?_
            refine r_iload_n C dX12_waits_54 rfl ?_
            refine r_bipush (100) C dX12_waits_55 (by decide) ?_
            refine r_irem C dX12_waits_57 (by decide) ?_
            refine r_iload_n C dX12_waits_58 rfl ?_
            obtain ⟨n5, hnn5, hw⟩ := hw
            refine kX12_327 C (k0) ((sG5 G n5) _ _ _ _ _ _ _ (k0) hw) dX12_waits_59 (by omega) rfl (Nat.le_of_ble_eq_true rfl) (fun v6 h7 hw => ?_)
            refine r_lstore [some (.ref (G.1 a0)), some (.int x1), some (.int x2), some (.int x3), some (.long v6), none, none, none, none, none] C dX12_waits_62 (Nat.le_of_ble_eq_true rfl) rfl rfl ?_
            refine r_iload_n C dX12_waits_64 rfl ?_
            refine kX12_323 C (sX12_power hw) dX12_waits_65 (Nat.le_of_ble_eq_true rfl) rfl (Nat.le_of_ble_eq_true rfl) (fun v8 hw => ?_)
            refine r_lstore [some (.ref (G.1 a0)), some (.int x1), some (.int x2), some (.int x3), some (.long v6), none, some (.long v8), none, none, none] C dX12_waits_68 (Nat.le_of_ble_eq_true rfl) rfl rfl ?_
            refine r_lload C dX12_waits_70 rfl ?_
            refine r_lload C dX12_waits_72 rfl ?_
            refine kX12_335 C (sX12_common hw) dX12_waits_74 (Nat.le_of_ble_eq_true rfl) rfl (Nat.le_of_ble_eq_true rfl) (fun v9 hw => ?_)
            refine r_lstore [some (.ref (G.1 a0)), some (.int x1), some (.int x2), some (.int x3), some (.long v6), none, some (.long v8), none, some (.long v9), none] C dX12_waits_77 (Nat.le_of_ble_eq_true rfl) rfl rfl ?_
            refine r_iload_n C dX12_waits_79 rfl ?_
            refine r_if_ne 91 C dX12_waits_80 (by decide) (fun hc => ?_) (fun hc => ?_)
            · replace hw := it_f hc hw
              refine r_lload C dX12_waits_91 rfl ?_
              refine r_lload C dX12_waits_93 rfl ?_
              obtain ⟨hz10, hw⟩ := hw
              refine r_ldiv C dX12_waits_95 hz10 ?_
              exact r_lret C dX12_waits_96 ⟨_, rfl, hw⟩
            · replace hw := it_t hc hw
              refine r_lload C dX12_waits_83 rfl ?_
              refine r_lload C dX12_waits_85 rfl ?_
              obtain ⟨hz11, hw⟩ := hw
              refine r_ldiv C dX12_waits_87 hz11 ?_
              refine r_goto 96 C dX12_waits_88 (by decide) ?_
              exact r_lret C dX12_waits_96 ⟨_, rfl, hw⟩
          · replace hw := it_t hc hw
            refine r_ldc2_w (-9223372036854775808) C wd1507 dX12_waits_44 ?_
            exact r_lret C dX12_waits_47 ⟨_, rfl, hw⟩
def jX12_drawn_83 (a0 : Nat) (x2 : Int32) (x3 : Int32) (x4 : Int32) (x5 : Int32) (x6 : Int32) (x7 : Int32) (x8 : Int32) (h : Hp) (K29 : Int32 → Int32 → Int32 → Hp → Prop) (K41 : Int32 → Int32 → Int32 → Int32 → Hp → Prop) (Q : Int32 → Hp → Prop) : Prop :=
  vp_in x3 (ln (rf a0 2)) ∧ (if (gI h (rf a0 2) x3.toNatClampNeg) ≤ x7 then (∀ v2 : Int32, v2 = (x5 + x7) → (∀ v3 : Int32, v3 = x8 + (1 : Int32) → (K41 x4 v2 (0 : Int32) v3 h))) else (∀ v4 : Int32, v4 = x8 + (1 : Int32) → (K41 x4 x5 x7 v4 h)))
set_option maxRecDepth 20000 in
theorem tX12_drawn_83 {G : GG} {X : XX} {a0 : Nat} {x2 : Int32} {x3 : Int32} {x4 : Int32} {x5 : Int32} {x6 : Int32} {x7 : Int32} {x8 : Int32} {h : Hp}  {K29 : Int32 → Int32 → Int32 → Hp → Prop} {K41 : Int32 → Int32 → Int32 → Int32 → Hp → Prop} {Q : Int32 → Hp → Prop} (C : Cx G RX12 cX12_drawn 9 (some .int) 4 0 0 X) (k0 : kd a0 = 12) (hK29 : ∀ (y4 : Int32) (y5 : Int32) (y6 : Int32) (h' : Hp), K29 y4 y5 y6 h' → R0 G X 0 0 (ZM G (fun r h' => ∃ v, r = some (.int v) ∧ Q v h') X) 29 [some (.ref (G.1 a0)), none, some (.int x2), some (.int x3), some (.int y4), some (.int y5), some (.int y6), none, none] [] h') (hK41 : ∀ (y4 : Int32) (y5 : Int32) (y7 : Int32) (y8 : Int32) (h' : Hp), K41 y4 y5 y7 y8 h' → R0 G X 0 0 (ZM G (fun r h' => ∃ v, r = some (.int v) ∧ Q v h') X) 41 [some (.ref (G.1 a0)), none, some (.int x2), some (.int x3), some (.int y4), some (.int y5), some (.int x6), some (.int y7), some (.int y8)] [] h') (hw : jX12_drawn_83 a0 x2 x3 x4 x5 x6 x7 x8 h K29 K41 Q) : R0 G X 0 0 (ZM G (fun r h' => ∃ v, r = some (.int v) ∧ Q v h') X) 83 [some (.ref (G.1 a0)), none, some (.int x2), some (.int x3), some (.int x4), some (.int x5), some (.int x6), some (.int x7), some (.int x8)] [] h := by
  unfold jX12_drawn_83 at hw
  refine r_iload C dX12_drawn_83 rfl ?_
  refine r_aload_n C dX12_drawn_85 rfl ?_
  refine gX12_7 C (k0) dX12_drawn_86 ?_
  refine r_iload_n C dX12_drawn_89 rfl ?_
  obtain ⟨hi1, hw⟩ := hw
  refine r_iald C (kr12_2 (k0)) hi1 dX12_drawn_90 ?_
  refine r_icmp_ge 97 C dX12_drawn_91 (by decide) (fun hc => ?_) (fun hc => ?_)
  · replace hw := it_t hc hw
    refine r_iload C dX12_drawn_97 rfl ?_
    refine r_iload C dX12_drawn_99 rfl ?_
    refine r_iadd C dX12_drawn_101 ?_
    refine r_topi (fun v2 ev2 => ?_)
    replace hw := hw v2 ev2
    refine r_istore [some (.ref (G.1 a0)), none, some (.int x2), some (.int x3), some (.int x4), some (.int v2), some (.int x6), some (.int x7), some (.int x8)] C dX12_drawn_102 (Nat.le_of_ble_eq_true rfl) rfl rfl ?_
    refine r_iconst (0) C dX12_drawn_104 (by decide) ?_
    refine r_istore [some (.ref (G.1 a0)), none, some (.int x2), some (.int x3), some (.int x4), some (.int v2), some (.int x6), some (.int (0 : Int32)), some (.int x8)] C dX12_drawn_105 (Nat.le_of_ble_eq_true rfl) rfl rfl ?_
    obtain ⟨v3, ev3⟩ : ∃ v : Int32, v = x8 + (1 : Int32) := ⟨_, rfl⟩
    replace hw := hw v3 ev3
    refine r_iinc v3 [some (.ref (G.1 a0)), none, some (.int x2), some (.int x3), some (.int x4), some (.int v2), some (.int x6), some (.int (0 : Int32)), some (.int v3)] C dX12_drawn_107 rfl (by rw [ev3]; rfl) rfl rfl ?_
    refine r_goto 41 C dX12_drawn_110 (by decide) ?_
    exact hK41 _ _ _ _ _ hw
  · replace hw := it_f hc hw
    refine r_goto 107 C dX12_drawn_94 (by decide) ?_
    obtain ⟨v4, ev4⟩ : ∃ v : Int32, v = x8 + (1 : Int32) := ⟨_, rfl⟩
    replace hw := hw v4 ev4
    refine r_iinc v4 [some (.ref (G.1 a0)), none, some (.int x2), some (.int x3), some (.int x4), some (.int x5), some (.int x6), some (.int x7), some (.int v4)] C dX12_drawn_107 rfl (by rw [ev4]; rfl) rfl rfl ?_
    refine r_goto 41 C dX12_drawn_110 (by decide) ?_
    exact hK41 _ _ _ _ _ hw
def fX12_drawn_41 (a0 : Nat) (x2 : Int32) (x3 : Int32) (x6 : Int32) (K29 : Int32 → Int32 → Int32 → Hp → Prop) (Q : Int32 → Hp → Prop) (K41 : Int32 → Int32 → Int32 → Int32 → Hp → Prop) (x4 : Int32) (x5 : Int32) (x7 : Int32) (x8 : Int32) (h : Hp) : Prop :=
  if (60 : Int32) ≤ x8 then (∀ v1 : Int32, v1 = x6 + (1 : Int32) → (K29 x4 x5 v1 h)) else (∀ v2 : Int32, v2 = ((x4 * (1103515245 : Int32)) + (12345 : Int32)) → (wX12_comesTo a0 x3 x7 x8 h (fun v3 h4 => if v3 ≤ (rm (ushr v2 (8 : Int32)) (12 : Int32)) then (jX12_drawn_83 a0 x2 x3 v2 x5 x6 x7 x8 h4 K29 K41 Q) else (∀ v5 : Int32, v5 = x7 + (1 : Int32) → (jX12_drawn_83 a0 x2 x3 v2 x5 x6 v5 x8 h4 K29 K41 Q)))))
def eX12_drawn_41 (a0 : Nat) (x2 : Int32) (x3 : Int32) (x6 : Int32) (K29 : Int32 → Int32 → Int32 → Hp → Prop) (Q : Int32 → Hp → Prop) (x4 : Int32) (x5 : Int32) (x7 : Int32) (x8 : Int32) (h : Hp) : Prop := ∃ N, lpN (fun (K : Int32 × Int32 × Int32 × Int32 × Hp → Prop) (s : Int32 × Int32 × Int32 × Int32 × Hp) => fX12_drawn_41 a0 x2 x3 x6 K29 Q (fun x4 x5 x7 x8 h => K (x4, x5, x7, x8, h)) s.1 s.2.1 s.2.2.1 s.2.2.2.1 s.2.2.2.2) N (x4, x5, x7, x8, h)
theorem iX12_drawn_41 {a0 : Nat} {x2 : Int32} {x3 : Int32} {x6 : Int32} {K29 : Int32 → Int32 → Int32 → Hp → Prop} {Q : Int32 → Hp → Prop} (I : Int32 → Int32 → Int32 → Int32 → Hp → Prop) (μ : Int32 → Int32 → Int32 → Int32 → Hp → Nat) (hs : ∀ (x4 : Int32) (x5 : Int32) (x7 : Int32) (x8 : Int32) (h : Hp), I x4 x5 x7 x8 h → ∀ K : Int32 → Int32 → Int32 → Int32 → Hp → Prop, (∀ (x4' : Int32) (x5' : Int32) (x7' : Int32) (x8' : Int32) (h' : Hp), I x4' x5' x7' x8' h' → μ x4' x5' x7' x8' h' < μ x4 x5 x7 x8 h → K x4' x5' x7' x8' h') → fX12_drawn_41 a0 x2 x3 x6 K29 Q K x4 x5 x7 x8 h) : ∀ (x4 : Int32) (x5 : Int32) (x7 : Int32) (x8 : Int32) (h : Hp), I x4 x5 x7 x8 h → eX12_drawn_41 a0 x2 x3 x6 K29 Q x4 x5 x7 x8 h := fun x4 x5 x7 x8 h hI => lp_ind (fun s => I s.1 s.2.1 s.2.2.1 s.2.2.2.1 s.2.2.2.2) (fun s => μ s.1 s.2.1 s.2.2.1 s.2.2.2.1 s.2.2.2.2) (fun s hs' K hK => hs s.1 s.2.1 s.2.2.1 s.2.2.2.1 s.2.2.2.2 hs' _ (fun x4' x5' x7' x8' h' h1 h2 => hK (x4', x5', x7', x8', h') h1 h2)) (x4, x5, x7, x8, h) hI
set_option maxRecDepth 20000 in
theorem tX12_drawn_41 {G : GG} {X : XX} {a0 : Nat} {x2 : Int32} {x3 : Int32} {x4 : Int32} {x5 : Int32} {x6 : Int32} {x7 : Int32} {x8 : Int32} {h : Hp}  {K29 : Int32 → Int32 → Int32 → Hp → Prop} {Q : Int32 → Hp → Prop} (C : Cx G RX12 cX12_drawn 9 (some .int) 4 0 0 X) (k0 : kd a0 = 12) (hK29 : ∀ (y4 : Int32) (y5 : Int32) (y6 : Int32) (h' : Hp), K29 y4 y5 y6 h' → R0 G X 0 0 (ZM G (fun r h' => ∃ v, r = some (.int v) ∧ Q v h') X) 29 [some (.ref (G.1 a0)), none, some (.int x2), some (.int x3), some (.int y4), some (.int y5), some (.int y6), none, none] [] h') (hw : eX12_drawn_41 a0 x2 x3 x6 K29 Q x4 x5 x7 x8 h) : R0 G X 0 0 (ZM G (fun r h' => ∃ v, r = some (.int v) ∧ Q v h') X) 41 [some (.ref (G.1 a0)), none, some (.int x2), some (.int x3), some (.int x4), some (.int x5), some (.int x6), some (.int x7), some (.int x8)] [] h := by
  obtain ⟨N, hw⟩ := hw
  induction N generalizing x4 x5 x7 x8 h with
  | zero => exact hw.elim
  | succ N ih =>
    obtain ⟨K41, eK⟩ : ∃ K : Int32 → Int32 → Int32 → Int32 → Hp → Prop, K = (fun x4 x5 x7 x8 h => lpN (fun (K : Int32 × Int32 × Int32 × Int32 × Hp → Prop) (s : Int32 × Int32 × Int32 × Int32 × Hp) => fX12_drawn_41 a0 x2 x3 x6 K29 Q (fun x4 x5 x7 x8 h => K (x4, x5, x7, x8, h)) s.1 s.2.1 s.2.2.1 s.2.2.2.1 s.2.2.2.2) N (x4, x5, x7, x8, h)) := ⟨_, rfl⟩
    have hw : fX12_drawn_41 a0 x2 x3 x6 K29 Q (fun x4 x5 x7 x8 h => lpN (fun (K : Int32 × Int32 × Int32 × Int32 × Hp → Prop) (s : Int32 × Int32 × Int32 × Int32 × Hp) => fX12_drawn_41 a0 x2 x3 x6 K29 Q (fun x4 x5 x7 x8 h => K (x4, x5, x7, x8, h)) s.1 s.2.1 s.2.2.1 s.2.2.2.1 s.2.2.2.2) N (x4, x5, x7, x8, h)) x4 x5 x7 x8 h := hw
    have hK41 : ∀ (x4 : Int32) (x5 : Int32) (x7 : Int32) (x8 : Int32) (h : Hp), K41 x4 x5 x7 x8 h → R0 G X 0 0 (ZM G (fun r h' => ∃ v, r = some (.int v) ∧ Q v h') X) 41 [some (.ref (G.1 a0)), none, some (.int x2), some (.int x3), some (.int x4), some (.int x5), some (.int x6), some (.int x7), some (.int x8)] [] h := fun x4 x5 x7 x8 h q => ih (by rw [eK] at q; exact q)
    rw [← eK] at hw
    clear eK ih
    unfold fX12_drawn_41 at hw
    refine r_iload C dX12_drawn_41 rfl ?_
    refine r_bipush (60) C dX12_drawn_43 (by decide) ?_
    refine r_icmp_ge 113 C dX12_drawn_45 (by decide) (fun hc => ?_) (fun hc => ?_)
    · replace hw := it_t hc hw
      obtain ⟨v1, ev1⟩ : ∃ v : Int32, v = x6 + (1 : Int32) := ⟨_, rfl⟩
      replace hw := hw v1 ev1
      refine r_iinc v1 [some (.ref (G.1 a0)), none, some (.int x2), some (.int x3), some (.int x4), some (.int x5), some (.int v1), some (.int x7), some (.int x8)] C dX12_drawn_113 rfl (by rw [ev1]; rfl) rfl rfl ?_
      refine r_goto 29 C dX12_drawn_116 (by decide) ?_
      refine r_weak [some (.ref (G.1 a0)), none, some (.int x2), some (.int x3), some (.int x4), some (.int x5), some (.int v1), none, none] (lw_k (lw_k (lw_k (lw_k (lw_k (lw_k (lw_k (lw_d (lw_d (lw_n)))))))))) ?_
      exact hK29 _ _ _ _ hw
    · replace hw := it_f hc hw
      refine r_iload C dX12_drawn_48 rfl ?_
      refine r_ldc_w (1103515245) C wd1523 dX12_drawn_50 ?_
      refine r_imul C dX12_drawn_53 ?_
      refine r_sipush (12345) C dX12_drawn_54 (by decide) ?_
      refine r_iadd C dX12_drawn_57 ?_
      refine r_topi (fun v2 ev2 => ?_)
      replace hw := hw v2 ev2
      refine r_istore [some (.ref (G.1 a0)), none, some (.int x2), some (.int x3), some (.int v2), some (.int x5), some (.int x6), some (.int x7), some (.int x8)] C dX12_drawn_58 (Nat.le_of_ble_eq_true rfl) rfl rfl ?_
      refine r_iload C dX12_drawn_60 rfl ?_
      refine r_bipush (8) C dX12_drawn_62 (by decide) ?_
      refine r_iushr C dX12_drawn_64 ?_
      refine r_bipush (12) C dX12_drawn_65 (by decide) ?_
      refine r_irem C dX12_drawn_67 (by decide) ?_
      refine r_aload_n C dX12_drawn_68 rfl ?_
      refine r_iload_n C dX12_drawn_69 rfl ?_
      refine r_iload C dX12_drawn_70 rfl ?_
      refine r_iload C dX12_drawn_72 rfl ?_
      refine kX12_237 C (k0) (sX12_comesTo (k0) hw) dX12_drawn_74 (Nat.le_of_ble_eq_true rfl) rfl (Nat.le_of_ble_eq_true rfl) (fun v3 h4 hw => ?_)
      refine r_icmp_ge 83 C dX12_drawn_77 (by decide) (fun hc => ?_) (fun hc => ?_)
      · replace hw := it_t hc hw
        exact tX12_drawn_83 C (k0) hK29 hK41 hw
      · replace hw := it_f hc hw
        obtain ⟨v5, ev5⟩ : ∃ v : Int32, v = x7 + (1 : Int32) := ⟨_, rfl⟩
        replace hw := hw v5 ev5
        refine r_iinc v5 [some (.ref (G.1 a0)), none, some (.int x2), some (.int x3), some (.int v2), some (.int x5), some (.int x6), some (.int v5), some (.int x8)] C dX12_drawn_80 rfl (by rw [ev5]; rfl) rfl rfl ?_
        exact tX12_drawn_83 C (k0) hK29 hK41 hw
def fX12_drawn_29 (a0 : Nat) (x2 : Int32) (x3 : Int32) (Q : Int32 → Hp → Prop) (K29 : Int32 → Int32 → Int32 → Hp → Prop) (x4 : Int32) (x5 : Int32) (x6 : Int32) (h : Hp) : Prop :=
  if x2 ≤ x6 then (Q x5 h) else (eX12_drawn_41 a0 x2 x3 x6 K29 Q x4 x5 (0 : Int32) (0 : Int32) h)
def eX12_drawn_29 (a0 : Nat) (x2 : Int32) (x3 : Int32) (Q : Int32 → Hp → Prop) (x4 : Int32) (x5 : Int32) (x6 : Int32) (h : Hp) : Prop := ∃ N, lpN (fun (K : Int32 × Int32 × Int32 × Hp → Prop) (s : Int32 × Int32 × Int32 × Hp) => fX12_drawn_29 a0 x2 x3 Q (fun x4 x5 x6 h => K (x4, x5, x6, h)) s.1 s.2.1 s.2.2.1 s.2.2.2) N (x4, x5, x6, h)
theorem iX12_drawn_29 {a0 : Nat} {x2 : Int32} {x3 : Int32} {Q : Int32 → Hp → Prop} (I : Int32 → Int32 → Int32 → Hp → Prop) (μ : Int32 → Int32 → Int32 → Hp → Nat) (hs : ∀ (x4 : Int32) (x5 : Int32) (x6 : Int32) (h : Hp), I x4 x5 x6 h → ∀ K : Int32 → Int32 → Int32 → Hp → Prop, (∀ (x4' : Int32) (x5' : Int32) (x6' : Int32) (h' : Hp), I x4' x5' x6' h' → μ x4' x5' x6' h' < μ x4 x5 x6 h → K x4' x5' x6' h') → fX12_drawn_29 a0 x2 x3 Q K x4 x5 x6 h) : ∀ (x4 : Int32) (x5 : Int32) (x6 : Int32) (h : Hp), I x4 x5 x6 h → eX12_drawn_29 a0 x2 x3 Q x4 x5 x6 h := fun x4 x5 x6 h hI => lp_ind (fun s => I s.1 s.2.1 s.2.2.1 s.2.2.2) (fun s => μ s.1 s.2.1 s.2.2.1 s.2.2.2) (fun s hs' K hK => hs s.1 s.2.1 s.2.2.1 s.2.2.2 hs' _ (fun x4' x5' x6' h' h1 h2 => hK (x4', x5', x6', h') h1 h2)) (x4, x5, x6, h) hI
set_option maxRecDepth 20000 in
theorem tX12_drawn_29 {G : GG} {X : XX} {a0 : Nat} {x2 : Int32} {x3 : Int32} {x4 : Int32} {x5 : Int32} {x6 : Int32} {h : Hp}  {Q : Int32 → Hp → Prop} (C : Cx G RX12 cX12_drawn 9 (some .int) 4 0 0 X) (k0 : kd a0 = 12) (hw : eX12_drawn_29 a0 x2 x3 Q x4 x5 x6 h) : R0 G X 0 0 (ZM G (fun r h' => ∃ v, r = some (.int v) ∧ Q v h') X) 29 [some (.ref (G.1 a0)), none, some (.int x2), some (.int x3), some (.int x4), some (.int x5), some (.int x6), none, none] [] h := by
  obtain ⟨N, hw⟩ := hw
  induction N generalizing x4 x5 x6 h with
  | zero => exact hw.elim
  | succ N ih =>
    obtain ⟨K29, eK⟩ : ∃ K : Int32 → Int32 → Int32 → Hp → Prop, K = (fun x4 x5 x6 h => lpN (fun (K : Int32 × Int32 × Int32 × Hp → Prop) (s : Int32 × Int32 × Int32 × Hp) => fX12_drawn_29 a0 x2 x3 Q (fun x4 x5 x6 h => K (x4, x5, x6, h)) s.1 s.2.1 s.2.2.1 s.2.2.2) N (x4, x5, x6, h)) := ⟨_, rfl⟩
    have hw : fX12_drawn_29 a0 x2 x3 Q (fun x4 x5 x6 h => lpN (fun (K : Int32 × Int32 × Int32 × Hp → Prop) (s : Int32 × Int32 × Int32 × Hp) => fX12_drawn_29 a0 x2 x3 Q (fun x4 x5 x6 h => K (x4, x5, x6, h)) s.1 s.2.1 s.2.2.1 s.2.2.2) N (x4, x5, x6, h)) x4 x5 x6 h := hw
    have hK29 : ∀ (x4 : Int32) (x5 : Int32) (x6 : Int32) (h : Hp), K29 x4 x5 x6 h → R0 G X 0 0 (ZM G (fun r h' => ∃ v, r = some (.int v) ∧ Q v h') X) 29 [some (.ref (G.1 a0)), none, some (.int x2), some (.int x3), some (.int x4), some (.int x5), some (.int x6), none, none] [] h := fun x4 x5 x6 h q => ih (by rw [eK] at q; exact q)
    rw [← eK] at hw
    clear eK ih
    unfold fX12_drawn_29 at hw
    refine r_iload C dX12_drawn_29 rfl ?_
    refine r_iload_n C dX12_drawn_31 rfl ?_
    refine r_icmp_ge 119 C dX12_drawn_32 (by decide) (fun hc => ?_) (fun hc => ?_)
    · replace hw := it_t hc hw
      refine r_iload C dX12_drawn_119 rfl ?_
      exact r_iret C dX12_drawn_121 ⟨_, rfl, hw⟩
    · replace hw := it_f hc hw
      refine r_iconst (0) C dX12_drawn_35 (by decide) ?_
      refine r_istore [some (.ref (G.1 a0)), none, some (.int x2), some (.int x3), some (.int x4), some (.int x5), some (.int x6), some (.int (0 : Int32)), none] C dX12_drawn_36 (Nat.le_of_ble_eq_true rfl) rfl rfl ?_
      refine r_iconst (0) C dX12_drawn_38 (by decide) ?_
      refine r_istore [some (.ref (G.1 a0)), none, some (.int x2), some (.int x3), some (.int x4), some (.int x5), some (.int x6), some (.int (0 : Int32)), some (.int (0 : Int32))] C dX12_drawn_39 (Nat.le_of_ble_eq_true rfl) rfl rfl ?_
      exact tX12_drawn_41 C (k0) hK29 hw
def wX12_drawn (a0 : Nat) (x1 : Int32) (x2 : Int32) (x3 : Int32) (h : Hp) (Q : Int32 → Hp → Prop) : Prop :=
  wX12_in x2 (1 : Int32) (30 : Int32) h (fun v1 => if v1 = 0 then (Q (-1 : Int32) h) else (wX12_isGate a0 x3 h (fun v2 => if v2 = 0 then (Q (-1 : Int32) h) else (eX12_drawn_29 a0 x2 x3 Q x1 (0 : Int32) (0 : Int32) h))))
set_option maxRecDepth 20000 in
theorem sX12_drawn {G : GG} {a0 : Nat} {x1 : Int32} {x2 : Int32} {x3 : Int32} {h : Hp} {Q : Int32 → Hp → Prop} (k0 : kd a0 = 12) (hw : wX12_drawn a0 x1 x2 x3 h Q) : CI G 4 yX12_drawn cX12_drawn 9 (some .int) [.ref (G.1 a0), .int x1, .int x2, .int x3] h Q := by
  refine CO_of [some (.ref (G.1 a0)), some (.int x1), some (.int x2), some (.int x3), none, none, none, none, none] (by decide) (Nat.le_of_ble_eq_true rfl) rfl (fun X C => ?_)
  unfold wX12_drawn at hw
  refine r_iload_n C dX12_drawn_0 rfl ?_
  refine r_iconst (1) C dX12_drawn_1 (by decide) ?_
  refine r_bipush (30) C dX12_drawn_2 (by decide) ?_
  refine kX12_114 C (sX12_in hw) dX12_drawn_4 (Nat.le_of_ble_eq_true rfl) rfl (Nat.le_of_ble_eq_true rfl) (fun v1 hw => ?_)
  refine r_if_eq 18 C dX12_drawn_7 (by decide) (fun hc => ?_) (fun hc => ?_)
  · replace hw := it_t hc hw
    refine r_iconst (-1) C dX12_drawn_18 (by decide) ?_
    exact r_iret C dX12_drawn_19 ⟨_, rfl, hw⟩
  · replace hw := it_f hc hw
    refine r_aload_n C dX12_drawn_10 rfl ?_
    refine r_iload_n C dX12_drawn_11 rfl ?_
    refine kX12_157 C (k0) (sX12_isGate (k0) hw) dX12_drawn_12 (Nat.le_of_ble_eq_true rfl) rfl (Nat.le_of_ble_eq_true rfl) (fun v2 hw => ?_)
    refine r_if_ne 20 C dX12_drawn_15 (by decide) (fun hc => ?_) (fun hc => ?_)
    · replace hw := it_f hc hw
      refine r_iload_n C dX12_drawn_20 rfl ?_
      refine r_istore [some (.ref (G.1 a0)), some (.int x1), some (.int x2), some (.int x3), some (.int x1), none, none, none, none] C dX12_drawn_21 (Nat.le_of_ble_eq_true rfl) rfl rfl ?_
      refine r_iconst (0) C dX12_drawn_23 (by decide) ?_
      refine r_istore [some (.ref (G.1 a0)), some (.int x1), some (.int x2), some (.int x3), some (.int x1), some (.int (0 : Int32)), none, none, none] C dX12_drawn_24 (Nat.le_of_ble_eq_true rfl) rfl rfl ?_
      refine r_iconst (0) C dX12_drawn_26 (by decide) ?_
      refine r_istore [some (.ref (G.1 a0)), some (.int x1), some (.int x2), some (.int x3), some (.int x1), some (.int (0 : Int32)), some (.int (0 : Int32)), none, none] C dX12_drawn_27 (Nat.le_of_ble_eq_true rfl) rfl rfl ?_
      refine r_weak [some (.ref (G.1 a0)), none, some (.int x2), some (.int x3), some (.int x1), some (.int (0 : Int32)), some (.int (0 : Int32)), none, none] (lw_k (lw_d (lw_k (lw_k (lw_k (lw_k (lw_k (lw_k (lw_k (lw_n)))))))))) ?_
      exact tX12_drawn_29 C (k0) hw
    · replace hw := it_t hc hw
      refine r_iconst (-1) C dX12_drawn_18 (by decide) ?_
      exact r_iret C dX12_drawn_19 ⟨_, rfl, hw⟩
