/-! drawn by a seed -/
def drS (P : Option Lns) (g m t : Nat) (s : Int32 × Int32 × Nat) : Int32 × Int32 × Nat :=
  if (if nI (comV P g s.2.2 t) ≤ rm (ushr (s.1 * 1103515245 + 12345) 8) 12 then s.2.2 else s.2.2 + 1) < m then (s.1 * 1103515245 + 12345, s.2.1, if nI (comV P g s.2.2 t) ≤ rm (ushr (s.1 * 1103515245 + 12345) 8) 12 then s.2.2 else s.2.2 + 1) else (s.1 * 1103515245 + 12345, s.2.1 + nI m, 0)
def drT (P : Option Lns) (g m : Nat) (s : Int32 × Int32 × Nat) : Nat → Int32 × Int32 × Nat
  | 0 => s
  | t + 1 => drS P g m t (drT P g m s t)
def drR (P : Option Lns) (g m : Nat) (seed : Int32) : Nat → Int32 × Int32
  | 0 => (seed, 0)
  | r + 1 => ((drT P g m ((drR P g m seed r).1, (drR P g m seed r).2, 0) 60).1, (drT P g m ((drR P g m seed r).1, (drR P g m seed r).2, 0) 60).2.1)
theorem drR_s (P : Option Lns) (g m : Nat) (seed : Int32) (r : Nat) : drR P g m seed (r + 1) = ((drT P g m ((drR P g m seed r).1, (drR P g m seed r).2, 0) 60).1, (drT P g m ((drR P g m seed r).1, (drR P g m seed r).2, 0) 60).2.1) := by rw [drR]
theorem drT_lt {P : Option Lns} {g m : Nat} {s : Int32 × Int32 × Nat} (hm : 1 ≤ m) (hs : s.2.2 < m) : ∀ t, (drT P g m s t).2.2 < m
  | 0 => hs
  | t + 1 => by
    rw [drT, drS]
    by_cases c : (if nI (comV P g (drT P g m s t).2.2 t) ≤ rm (ushr ((drT P g m s t).1 * 1103515245 + 12345) 8) 12 then (drT P g m s t).2.2 else (drT P g m s t).2.2 + 1) < m
    · rw [if_pos c]; exact c
    · rw [if_neg c]; exact hm
theorem c_dr_in {h0 : Hp} {g m : Nat} {P : Option Lns} (L : LT h0 14 15 16 1 P) (hm1 : 1 ≤ m) (hm : m ≤ 6) {x2 x7 z w : Int32} {K43 : Int32 → Int32 → Int32 → Hp → Prop} {Q : Int32 → Hp → Prop} (hK0 : ∀ h', Fs h0 h' → K43 (drT P g m (z, w, 0) 60).1 (drT P g m (z, w, 0) 60).2.1 (x7 + 1) h') : eX11_drawn_55 0 x2 (nI g) (nI m) x7 K43 Q z w 0 0 h0 := by
  refine iX11_drawn_55 (I := fun x5 x6 x8 x9 h => ∃ t : Nat, x5 = (drT P g m (z, w, 0) t).1 ∧ x6 = (drT P g m (z, w, 0) t).2.1 ∧ x8 = nI (drT P g m (z, w, 0) t).2.2 ∧ x9 = nI t ∧ t ≤ 60 ∧ Fs h0 h) (μ := fun _ _ _ x9 _ => 60 - x9.toNatClampNeg) ?_ z w 0 0 h0 ⟨0, rfl, rfl, rfl, rfl, by omega, Fs.refl h0⟩
  rintro x5 x6 x8 x9 h ⟨t, rfl, rfl, rfl, rfl, ht, F⟩ K hK
  unfold fX11_drawn_55
  have hlt := drT_lt (P := P) (g := g) (s := (z, w, 0)) hm1 (show (z, w, 0).2.2 < m from hm1) t
  by_cases c : 60 ≤ t
  · rw [if_pos (show (60 : Int32) ≤ nI t from nI_le (a := 60) c (by omega))]
    have : t = 60 := by omega
    subst this
    simp only [forall_eq]
    exact hK0 h F
  · rw [if_neg (show ¬ (60 : Int32) ≤ nI t from nI_ge (b := 60) (by omega) (by omega))]
    simp only [forall_eq, rf_0_4]
    apply c_chance (L.fs1 F)
    intro h2 F2
    have st : drT P g m (z, w, 0) (t + 1) = drS P g m t (drT P g m (z, w, 0) t) := rfl
    unfold drS at st
    have jn : ∀ n, n ≤ m → (if n < m then ((drT P g m (z, w, 0) t).1 * 1103515245 + 12345, (drT P g m (z, w, 0) t).2.1, n) else ((drT P g m (z, w, 0) t).1 * 1103515245 + 12345, (drT P g m (z, w, 0) t).2.1 + nI m, 0)) = drT P g m (z, w, 0) (t + 1) → jX11_drawn_100 0 x2 (nI g) (nI m) ((drT P g m (z, w, 0) t).1 * 1103515245 + 12345) (drT P g m (z, w, 0) t).2.1 x7 (nI n) (nI t) h2 K43 K Q := by
      intro n hn e
      unfold jX11_drawn_100
      simp only [forall_eq, nI_1]
      by_cases d : n < m
      · rw [if_pos (nI_lt d (by omega))]
        rw [if_pos d] at e
        exact hK _ _ _ _ _ ⟨t + 1, by rw [← e], by rw [← e], by rw [← e], rfl, by omega, F.trans F2⟩ (by rw [nI_clamp (by omega), nI_clamp (by omega)]; omega)
      · rw [if_neg (nI_nlt (by omega) (by omega))]
        rw [if_neg d] at e
        exact hK _ _ _ _ _ ⟨t + 1, by rw [← e], by rw [← e], by rw [← e]; rfl, rfl, by omega, F.trans F2⟩ (by rw [nI_clamp (by omega), nI_clamp (by omega)]; omega)
    by_cases d : nI (comV P g (drT P g m (z, w, 0) t).2.2 t) ≤ rm (ushr ((drT P g m (z, w, 0) t).1 * 1103515245 + 12345) 8) 12
    · rw [if_pos d]
      rw [if_pos d] at st
      exact jn _ (by omega) st.symm
    · rw [if_neg d]
      rw [if_neg d] at st
      rw [nI_1]
      exact jn _ (by omega) st.symm
theorem m_dr_in {h0 : Hp} {g gn m : Nat} {num : Nat → Nat} {P : Option Lns} (G : GN h0 gn num) (hg : g < gn) (hmn : num g = m) (L : LT h0 14 15 16 1 P) {x2 x6 z w : Int32} {K29 : Int32 → Int32 → Int32 → Hp → Prop} {Q : Int32 → Hp → Prop} (hK0 : ∀ h', Fs h0 h' → K29 (drT P g m (z, w, 0) 60).1 (drT P g m (z, w, 0) 60).2.1 (x6 + 1) h') : eX12_drawn_41 55 x2 (nI g) x6 K29 Q z w 0 0 h0 := by
  obtain ⟨y1, y2, hm1, hm⟩ := G.2.2.2 g hg
  have hgn := G.1
  rw [hmn] at y2 hm1 hm
  refine iX12_drawn_41 (I := fun x4 x5 x7 x8 h => ∃ t : Nat, x4 = (drT P g m (z, w, 0) t).1 ∧ x5 = (drT P g m (z, w, 0) t).2.1 ∧ x7 = nI (drT P g m (z, w, 0) t).2.2 ∧ x8 = nI t ∧ t ≤ 60 ∧ Fs h0 h) (μ := fun _ _ _ x8 _ => 60 - x8.toNatClampNeg) ?_ z w 0 0 h0 ⟨0, rfl, rfl, rfl, rfl, by omega, Fs.refl h0⟩
  rintro x4 x5 x7 x8 h ⟨t, rfl, rfl, rfl, rfl, ht, F⟩ K hK
  unfold fX12_drawn_41
  have hlt := drT_lt (P := P) (g := g) (s := (z, w, 0)) hm1 (show (z, w, 0).2.2 < m from hm1) t
  by_cases c : 60 ≤ t
  · rw [if_pos (show (60 : Int32) ≤ nI t from nI_le (a := 60) c (by omega))]
    have : t = 60 := by omega
    subst this
    simp only [forall_eq]
    exact hK0 h F
  · rw [if_neg (show ¬ (60 : Int32) ≤ nI t from nI_ge (b := 60) (by omega) (by omega))]
    simp only [forall_eq]
    apply m_comesTo (L.fs1 F)
    intro h2 F2
    have st : drT P g m (z, w, 0) (t + 1) = drS P g m t (drT P g m (z, w, 0) t) := rfl
    unfold drS at st
    have f2 : gI h2 56 g = nI m := by rw [(F.trans F2).at 56 g (by decide)]; exact y2
    have jn : ∀ n, n ≤ m → (if n < m then ((drT P g m (z, w, 0) t).1 * 1103515245 + 12345, (drT P g m (z, w, 0) t).2.1, n) else ((drT P g m (z, w, 0) t).1 * 1103515245 + 12345, (drT P g m (z, w, 0) t).2.1 + nI m, 0)) = drT P g m (z, w, 0) (t + 1) → jX12_drawn_83 55 x2 (nI g) ((drT P g m (z, w, 0) t).1 * 1103515245 + 12345) (drT P g m (z, w, 0) t).2.1 x6 (nI n) (nI t) h2 K29 K Q := by
      intro n hn e
      unfold jX12_drawn_83
      simp only [forall_eq, nI_1, rf_55_2, ln_56, nI_clamp (show g < 2 ^ 31 by omega), f2]
      refine ⟨(vp_nI (by omega)).mpr (by omega), ?_⟩
      by_cases d : n < m
      · rw [if_neg (nI_ge d (by omega))]
        rw [if_pos d] at e
        exact hK _ _ _ _ _ ⟨t + 1, by rw [← e], by rw [← e], by rw [← e], rfl, by omega, F.trans F2⟩ (by rw [nI_clamp (by omega), nI_clamp (by omega)]; omega)
      · rw [if_pos (nI_le (by omega) (by omega))]
        rw [if_neg d] at e
        have : n = m := by omega
        rw [this]
        exact hK _ _ _ _ _ ⟨t + 1, by rw [← e], by rw [← e], by rw [← e]; rfl, rfl, by omega, F.trans F2⟩ (by rw [nI_clamp (by omega), nI_clamp (by omega)]; omega)
    by_cases d : nI (comV P g (drT P g m (z, w, 0) t).2.2 t) ≤ rm (ushr ((drT P g m (z, w, 0) t).1 * 1103515245 + 12345) 8) 12
    · rw [if_pos d]
      rw [if_pos d] at st
      exact jn _ (by omega) st.symm
    · rw [if_neg d]
      rw [if_neg d] at st
      rw [nI_1]
      exact jn _ (by omega) st.symm
theorem c_dr {h0 : Hp} {g m n : Nat} {P : Option Lns} (L : LT h0 14 15 16 1 P) (hm1 : 1 ≤ m) (hm : m ≤ 6) (hn : n ≤ 30) {seed : Int32} {Q : Int32 → Hp → Prop} (hQ : ∀ h', Fs h0 h' → Q (drR P g m seed n).2 h') : eX11_drawn_43 0 (nI n) (nI g) (nI m) Q seed 0 0 h0 := by
  refine iX11_drawn_43 (I := fun x5 x6 x7 h => ∃ r : Nat, x5 = (drR P g m seed r).1 ∧ x6 = (drR P g m seed r).2 ∧ x7 = nI r ∧ r ≤ n ∧ Fs h0 h) (μ := fun _ _ x7 _ => n - x7.toNatClampNeg) ?_ seed 0 0 h0 ⟨0, rfl, rfl, rfl, by omega, Fs.refl h0⟩
  rintro x5 x6 x7 h ⟨r, rfl, rfl, rfl, hr, F⟩ K hK
  unfold fX11_drawn_43
  by_cases c : n ≤ r
  · rw [if_pos (nI_le c (by omega)), show r = n by omega]
    exact hQ h F
  · rw [if_neg (nI_ge (by omega) (by omega))]
    apply c_dr_in (L.fs1 F) hm1 hm
    intro h2 F2
    obtain ⟨q, hq⟩ : ∃ q, drT P g m ((drR P g m seed r).1, (drR P g m seed r).2, 0) 60 = q := ⟨_, rfl⟩
    rw [nI_1, hq]
    exact hK _ _ _ _ ⟨r + 1, by rw [drR_s, hq], by rw [drR_s, hq], rfl, by omega, F.trans F2⟩ (by rw [nI_clamp (by omega), nI_clamp (by omega)]; omega)
theorem m_dr {h0 : Hp} {g gn m n : Nat} {num : Nat → Nat} {P : Option Lns} (G : GN h0 gn num) (hg : g < gn) (hmn : num g = m) (L : LT h0 14 15 16 1 P) (hn : n ≤ 30) {seed : Int32} {Q : Int32 → Hp → Prop} (hQ : ∀ h', Fs h0 h' → Q (drR P g m seed n).2 h') : eX12_drawn_29 55 (nI n) (nI g) Q seed 0 0 h0 := by
  refine iX12_drawn_29 (I := fun x4 x5 x6 h => ∃ r : Nat, x4 = (drR P g m seed r).1 ∧ x5 = (drR P g m seed r).2 ∧ x6 = nI r ∧ r ≤ n ∧ Fs h0 h) (μ := fun _ _ x6 _ => n - x6.toNatClampNeg) ?_ seed 0 0 h0 ⟨0, rfl, rfl, rfl, by omega, Fs.refl h0⟩
  rintro x4 x5 x6 h ⟨r, rfl, rfl, rfl, hr, F⟩ K hK
  unfold fX12_drawn_29
  by_cases c : n ≤ r
  · rw [if_pos (nI_le c (by omega)), show r = n by omega]
    exact hQ h F
  · rw [if_neg (nI_ge (by omega) (by omega))]
    apply m_dr_in (G.fs F) hg hmn (L.fs1 F)
    intro h2 F2
    obtain ⟨q, hq⟩ : ∃ q, drT P g m ((drR P g m seed r).1, (drR P g m seed r).2, 0) 60 = q := ⟨_, rfl⟩
    rw [nI_1, hq]
    exact hK _ _ _ _ ⟨r + 1, by rw [drR_s, hq], by rw [drR_s, hq], rfl, by omega, F.trans F2⟩ (by rw [nI_clamp (by omega), nI_clamp (by omega)]; omega)
-- drawn
set_option maxRecDepth 20000 in
set_option maxHeartbeats 1000000 in
theorem ok_drawn {h : Hp} (I : Inv h) (x1 : Int32) (x2 : Int32) (x3 : Int32) {A1 : Prop} (b1 : A1) {A2 : Prop} (b2 : A2) {A3 : Prop} (b3 : A3) {R : Hp → Prop} {Q0 : Prop} (hR : ∀ h', Inv h' → R h') : wX11_drawn 0 x1 x2 x3 h (fun v h1 => A1 ∧ (A2 ∧ (A3 ∧ (wX12_drawn 55 x1 x2 x3 h1 (fun v' h2 => if v = v' then R h2 else Q0))))) := by
  obtain ⟨N, gn, num, P0, P1, PP, G, L0, L1⟩ := I.world
  have hg := G.1
  unfold wX11_drawn
  rcases bd x2 1 30 (l := 1) (u := 30) rfl rfl (by omega) (by omega) with c | ⟨n, n1, n2, rfl, c⟩
  · have key : wX12_drawn 55 x1 x2 x3 h (fun v' h2 => if -1 = v' then R h2 else Q0) := by
      unfold wX12_drawn
      rw [e_in, if_pos c, if_pos rfl]
      exact fin rfl (hR h I)
    by_cases c0 : x2 < 1
    · rw [if_pos c0]
      exact ⟨b1, b2, b3, key⟩
    · rw [if_neg c0, if_pos (c.resolve_left c0)]
      exact ⟨b1, b2, b3, key⟩
  · rw [if_neg (show ¬ nI n < 1 from fun q => c (Or.inl q)), if_neg (show ¬ (30 : Int32) < nI n from fun q => c (Or.inr q)), rf_0_0, e_gHas, G.2.1]
    have op : ∀ h1, Fs h h1 → ∀ Q : Int32 → Hp → Prop, (if x3 < 0 ∨ ¬ x3 < nI gn then Q (-1) h1 else eX12_drawn_29 55 (nI n) x3 Q x1 0 0 h1) → wX12_drawn 55 x1 (nI n) x3 h1 Q := by
      intro h1 F Q q
      unfold wX12_drawn
      rw [e_in, if_neg c, if_neg (by decide), e_isGate _ (G.fs F).2.2.1 (by omega)]
      by_cases d : x3 < 0 ∨ ¬ x3 < nI gn
      · rw [if_pos d] at q ⊢
        rw [if_pos rfl]
        exact q
      · rw [if_neg d] at q ⊢
        rw [if_neg (by decide)]
        exact q
    rcases ix x3 gn (by omega) with d | ⟨k, hk, rfl, d⟩
    · rw [if_pos d, if_pos rfl]
      refine ⟨b1, b2, b3, op h (Fs.refl h) _ ?_⟩
      rw [if_pos d]
      exact fin rfl (hR h I)
    · rw [if_neg d, if_neg (by decide), e_numberOf G hk]
      obtain ⟨y1, y2, y3, y4⟩ := G.2.2.2 k hk
      apply c_dr L1 y3 y4 n2
      intro h1 F1
      refine ⟨b1, b2, b3, op h1 F1 _ ?_⟩
      rw [if_neg d]
      apply m_dr (G.fs F1) hk rfl (L1.fs1 F1) n2
      intro h2 F2
      exact fin rfl (hR h2 (I.fs (F1.trans F2)))
