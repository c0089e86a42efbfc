theorem cl121 : (121 : Int32).toNatClampNeg = 121 := rfl
/-- a law takes over what was read -/
theorem c_takeL {h : Hp} {b0 ob gb : Nat} (hb : (b0 = 10 ∧ ob = 11 ∧ gb = 12) ∨ (b0 = 14 ∧ ob = 15 ∧ gb = 16)) {Q : Hp → Prop} (hQ : ∀ h', gI h' b0 3 = gI h 19 3 → gI h' b0 4 = 1 → (∀ k, k < 121 → gI h' ob k = gI h 20 k ∧ gI h' gb k = gI h 21 k) → (∀ a k, a ≠ b0 → a ≠ ob → a ≠ gb → gI h' a k = gI h a k) → (∀ a k, gL h' a k = gL h a k) → Q h') : wX5_takeFrom b0 19 h Q := by
  unfold wX5_takeFrom
  rcases hb with ⟨rfl, rfl, rfl⟩ | ⟨rfl, rfl, rfl⟩
  · simp only [forall_eq, rf_19_0, rf_19_1, rf_10_0, rf_10_1, cl0, cl121]
    refine ⟨⟨by decide, by decide, by decide, by decide, by decide⟩, ⟨by decide, by decide, by decide, by decide, by decide⟩, hQ _ ?_ ?_ (fun k hk => ⟨?_, ?_⟩) (fun a k q1 q2 q3 => ?_) (fun a k => rfl)⟩
    · simp only [gI_sI, gI_cpI, Nat.reduceEqDiff, false_and, and_false, ↓reduceIte, and_self]
    · simp only [gI_sI, and_self, ↓reduceIte]
    · simp only [gI_sI, gI_cpI, Nat.reduceEqDiff, false_and, ↓reduceIte, true_and, Nat.zero_add, Nat.sub_zero]
      rw [if_pos ⟨by omega, hk⟩]
    · simp only [gI_sI, gI_cpI, Nat.reduceEqDiff, false_and, ↓reduceIte, true_and, Nat.zero_add, Nat.sub_zero]
      rw [if_pos ⟨by omega, hk⟩]
    · simp only [gI_sI, gI_cpI, q1, q2, q3, false_and, ↓reduceIte]
  · simp only [forall_eq, rf_19_0, rf_19_1, rf_14_0, rf_14_1, cl0, cl121]
    refine ⟨⟨by decide, by decide, by decide, by decide, by decide⟩, ⟨by decide, by decide, by decide, by decide, by decide⟩, hQ _ ?_ ?_ (fun k hk => ⟨?_, ?_⟩) (fun a k q1 q2 q3 => ?_) (fun a k => rfl)⟩
    · simp only [gI_sI, gI_cpI, Nat.reduceEqDiff, false_and, and_false, ↓reduceIte, and_self]
    · simp only [gI_sI, and_self, ↓reduceIte]
    · simp only [gI_sI, gI_cpI, Nat.reduceEqDiff, false_and, ↓reduceIte, true_and, Nat.zero_add, Nat.sub_zero]
      rw [if_pos ⟨by omega, hk⟩]
    · simp only [gI_sI, gI_cpI, Nat.reduceEqDiff, false_and, ↓reduceIte, true_and, Nat.zero_add, Nat.sub_zero]
      rw [if_pos ⟨by omega, hk⟩]
    · simp only [gI_sI, gI_cpI, q1, q2, q3, false_and, ↓reduceIte]
theorem fz_out {w a k : Nat} (q : a ≠ 55 ∨ (k < 18 ∨ 22 < k)) (q2 : a ≠ 66 ∧ a ≠ 67 ∧ a ≠ 68 ∧ a ≠ 69 ∧ a ≠ 70) : fzs w a k = false := by
  unfold fzs
  simp only [Bool.or_eq_false_iff, Bool.and_eq_false_iff, decide_eq_false_iff_not]
  omega
theorem fz_66 {w w' k : Nat} (hw : w < 3) (hw' : w' < 2) (ne : w ≠ w') (hk : k < 130) : fzs w 66 (130 * w' + k) = false ∧ fzs w 67 (130 * w' + k) = false := by
  unfold fzs
  simp only [Bool.or_eq_false_iff, Bool.and_eq_false_iff, decide_eq_false_iff_not]
  omega
theorem fz_69 {w w' k : Nat} (hw : w < 3) (hw' : w' < 2) (ne : w ≠ w') (hk : k < 61) : fzs w 69 (61 * w' + k) = false ∧ fzs w 70 (61 * w' + k) = false := by
  unfold fzs
  simp only [Bool.or_eq_false_iff, Bool.and_eq_false_iff, decide_eq_false_iff_not]
  omega
theorem fz_68 {w w' : Nat} (hw : w < 3) (hw' : w' < 2) (ne : w ≠ w') : fzs w 68 w' = false := by
  unfold fzs
  simp only [Bool.or_eq_false_iff, Bool.and_eq_false_iff, decide_eq_false_iff_not]
  omega
theorem usd55 {k : Nat} (q : usd 55 k = true ∨ usD 55 k = true) (n18 : k ≠ 18) : k < 18 ∨ 22 < k := by
  unfold usd usD at q
  simp only [Bool.or_eq_true, decide_eq_true_eq, List.mem_cons, List.not_mem_nil, or_false, Prod.mk.injEq] at q
  omega
theorem usd18 {a k : Nat} (q : usd a k = true ∨ usD a k = true) : a ≠ 18 ∧ a ≠ 19 ∧ a ≠ 20 ∧ a ≠ 21 := by
  unfold usd usD at q
  simp only [Bool.or_eq_true, decide_eq_true_eq, List.mem_cons, List.not_mem_nil, or_false, Prod.mk.injEq] at q
  omega
theorem usd0 {k : Nat} (q : usd 0 k = true ∨ usD 0 k = true) (n3 : k ≠ 3) : k ≠ 3 := n3
theorem JT_0 {h : Hp} (e1 : gI h 0 3 = 0) (e2 : gI h 55 18 = 0) : JT (gI h 0 3) (rI h 7) (gI h 55 18) (rI h 65) := ⟨0, by omega, e1, e2, fun k hk => by omega⟩
theorem nar1 : vp_nar .boolean (1 : Int32) = 1 := by decide
-- law
set_option maxRecDepth 20000 in
set_option maxHeartbeats 1000000 in
theorem ok_law {h : Hp} (I : Inv h) (x1 : Int32) {A1 : Prop} (b1 : A1) {R : Hp → Prop} {Q0 : Prop} (hR : ∀ h', Inv h' → R h') : wX11_law 0 x1 h (fun v h1 => A1 ∧ (wX12_law 55 x1 h1 (fun v' h2 => if v = v' then R h2 else Q0))) := by
  obtain ⟨n, hn, t1, t2, ht⟩ := I.2.2.2.1
  obtain ⟨P0, P1, L0, L1⟩ := I.laws
  obtain ⟨sg, hsg⟩ : ∃ sg : Nat → Nat, sg = fun i => if i < n then (gI h 7 i).toNatClampNeg else 999 := ⟨_, rfl⟩
  have sgv : ∀ i, i < n → gI h 7 i = nI (sg i) ∧ sg i < 256 ∧ gI h 65 i = b8 (nI (sg i)) := by
    intro i hi
    obtain ⟨b, y1, y2, y3⟩ := ht i hi
    have y2 : gI h 7 i = nI b := y2
    have y3 : gI h 65 i = b8 (nI b) := y3
    have e : sg i = b := by rw [hsg]; show (if i < n then _ else _) = b; rw [if_pos hi, y2, nI_clamp (by omega)]
    rw [e]
    exact ⟨y2, y1, y3⟩
  have sge : ∀ i, n ≤ i → sg i = 999 := by
    intro i hi
    rw [hsg]
    show (if i < n then _ else _) = 999
    rw [if_neg (by omega)]
  have T : TP h n sg := ⟨hn, fun i hi => ⟨(sgv i hi).1, (sgv i hi).2.1⟩, sge⟩
  obtain ⟨F, hF⟩ : ∃ F, 20 * (n + 1) + 12 ≤ F := ⟨_, Nat.le_refl _⟩
  obtain ⟨G, hG⟩ : ∃ G, n + 1 ≤ G := ⟨_, Nat.le_refl _⟩
  have allok := lns_ok (n := n) T.end (F := F) G 0 (Nat.zero_le n)
  unfold wX11_law
  rcases bd x1 0 1 (l := 0) (u := 1) rfl rfl (by omega) (by omega) with c | ⟨w, _, hw, rfl, c⟩
  · rw [if_neg (fun q => by
      rw [q] at c
      exact absurd c (by decide)), if_neg (fun q => by
      rw [q] at c
      exact absurd c (by decide))]
    refine ⟨b1, ?_⟩
    unfold wX12_law
    rw [e_in, if_pos c, if_pos rfl]
    exact fin rfl (hR h I)
  · have hw2 : w < 2 := by omega
    have go : ∀ Q : Int32 → Hp → Prop, jX11_law_11 0 (nI w) h Q → (if nI w = 0 then jX11_law_11 0 (nI w) h Q else if nI w = 1 then jX11_law_11 0 (nI w) h Q else Q (-1) h) := by
      intro Q q
      by_cases z : nI w = 0
      · rw [if_pos z]; exact q
      · rw [if_neg z]
        have : nI w = 1 := by
          rcases (show w = 0 ∨ w = 1 by omega) with rfl | rfl
          · exact absurd rfl z
          · rfl
        rw [if_pos this]; exact q
    apply go
    unfold jX11_law_11 wX6_become
    rw [rf_0_4, rf_8_1, rf_8_2, rf_8_3, t1]
    -- the reference, behind the class
    have op : ∀ hc, TM2 hc n sg → gI hc 55 18 = nI n → ∀ Q : Int32 → Hp → Prop, wX12_readText 55 (nI w) hc (fun v2 h3 => if v2 < 0 then (vp_in (nI w) 2 ∧ (∀ h5 : Hp, h5 = sI h3 73 w 1 → (Q (1 : Int32) h5))) else (Q ((-100 : Int32) - v2) h3)) → wX12_law 55 (nI w) hc Q := by
      intro hc Tc e18 Q q
      unfold wX12_law
      rw [e_in, if_neg c, if_neg (by decide)]
      simp only [rf_55_30, ln_73, nI_clamp (show w < 2 ^ 31 by omega), nar1]
      exact q
    have vw2 : vp_in (nI w) 2 := (vp_nI (by omega)).mpr (by omega)
    apply cc_read T hF hG
    · intro p P e pn h1 F1 s1 s2
      obtain ⟨a1, a2, a3, a4, a5, a6⟩ := allok.1 p P e
      rw [if_pos rfl]
      -- the law's own cells, and the other's
      obtain ⟨b0, ob, gb, c0, oc, gc, hb⟩ : ∃ b0 ob gb c0 oc gc, (w = 0 ∧ b0 = 10 ∧ ob = 11 ∧ gb = 12 ∧ c0 = 14 ∧ oc = 15 ∧ gc = 16) ∨ (w = 1 ∧ b0 = 14 ∧ ob = 15 ∧ gb = 16 ∧ c0 = 10 ∧ oc = 11 ∧ gc = 12) := by
        rcases (show w = 0 ∨ w = 1 by omega) with q | q
        · exact ⟨10, 11, 12, 14, 15, 16, Or.inl ⟨q, rfl, rfl, rfl, rfl, rfl, rfl⟩⟩
        · exact ⟨14, 15, 16, 10, 11, 12, Or.inr ⟨q, rfl, rfl, rfl, rfl, rfl, rfl⟩⟩
      have pick1 : ∀ Q : Int32 → Hp → Prop, wX5_takeFrom b0 19 h1 (fun h2 => Q (-1) h2) → (if nI w = 0 then jX6_become_29 8 (-1) 10 h1 Q else jX6_become_29 8 (-1) 14 h1 Q) := by
        intro Q q
        unfold jX6_become_29
        rw [rf_8_3, rf_18_0]
        rcases hb with ⟨z1, z2, _⟩ | ⟨z1, z2, _⟩
        · rw [if_pos (show nI w = 0 by rw [z1]; rfl)]
          rw [z2] at q; exact q
        · rw [if_neg (show ¬ nI w = 0 by rw [z1]; decide)]
          rw [z2] at q; exact q
      apply pick1
      apply c_takeL (b0 := b0) (ob := ob) (gb := gb) (by omega)
      intro h2 k1 k2 k3 k4 k5
      simp only [forall_eq]
      rw [if_pos trivial]
      refine ⟨b1, ?_⟩
      obtain ⟨hc, ehc⟩ : ∃ hc, hc = sI h2 0 3 0 := ⟨_, rfl⟩
      rw [← ehc]
      have fc : ∀ a k, a ≠ 18 → a ≠ 19 → a ≠ 20 → a ≠ 21 → a ≠ b0 → a ≠ ob → a ≠ gb → (a = 0 → k ≠ 3) → gI hc a k = gI h a k := by
        intro a k q1 q2 q3 q4 q5 q6 q7 q8
        rw [ehc, gI_sI, if_neg (fun q => q8 q.1 q.2), k4 a k q5 q6 q7, F1.1 a k q1 q2 q3 q4]
      have fcL : ∀ a k, gL hc a k = gL h a k := fun a k => by
        rw [ehc]
        show gL h2 a k = gL h a k
        rw [k5, F1.2]
      have Tc : TM2 hc n sg := ⟨hn, fun i hi => ⟨by rw [fc 65 i (by decide) (by decide) (by decide) (by decide) (by omega) (by omega) (by omega) (by omega)]; exact (sgv i hi).2.2, (sgv i hi).2.1⟩, sge⟩
      have e18 : gI hc 55 18 = nI n := by rw [fc 55 18 (by decide) (by decide) (by decide) (by decide) (by omega) (by omega) (by omega) (by omega)]; exact t2
      apply op hc Tc e18
      apply mm_read hw2 Tc e18 hF hG
      · intro p' P' e' pn' h3 q1 q2 q3 q4 q5
        rw [e] at e'
        have ep := (Prod.mk.inj e').1
        have eP := Option.some.inj (Prod.mk.inj e').2
        subst ep eP
        rw [if_pos (by decide)]
        simp only [forall_eq]
        refine ⟨vw2, fin trivial (hR _ ?_)⟩
        -- the cells behind it all
        have g : ∀ a k, a ≠ 73 → fzs w a k = false → gI (sI h3 73 w 1) a k = gI hc a k := by
          intro a k z1 z2
          rw [gI_sI, if_neg (fun q => z1 q.1)]
          exact q5.1 a k z2
        have gl : ∀ a k, gL (sI h3 73 w 1) a k = gL h a k := fun a k => (q5.2 a k).trans (fcL a k)
        have fmle := fmS_le P
        have lawN : LT (sI h3 73 w 1) b0 ob gb w (some P) := by
          refine ⟨?_, by rw [gI_sI, if_pos ⟨rfl, rfl⟩], by omega, a3, by omega, ?_, fun k s hk => ?_, ?_, fun k s hk => ?_, fun k l hk => ?_⟩
          · rw [g b0 4 (by omega) (fz_out (by omega) (by omega)), ehc, gI_sI, if_neg (by omega)]; exact k2
          · rw [g b0 3 (by omega) (fz_out (by omega) (by omega)), ehc, gI_sI, if_neg (by omega), k1]; exact s1
          · have kl := (List.getElem?_eq_some_iff.mp hk).1
            rw [g ob k (by omega) (fz_out (by omega) (by omega)), g gb k (by omega) (fz_out (by omega) (by omega)), ehc, gI_sI, if_neg (by omega), gI_sI, if_neg (by omega), (k3 k (by omega)).1, (k3 k (by omega)).2]
            exact s2 k s hk
          · rw [gI_sI, if_neg (by omega)]; exact q2
          · rw [gI_sI, if_neg (by omega), gI_sI, if_neg (by omega)]; exact q3 k s hk
          · rw [gI_sI, if_neg (by omega), gI_sI, if_neg (by omega)]; exact q4 k l hk
        have keepO : ∀ w' P', w' < 2 → w ≠ w' → LT h c0 oc gc w' P' → LT (sI h3 73 w 1) c0 oc gc w' P' := by
          intro w' P' hw' ne L
          have gh : ∀ a k, a ≠ 73 → fzs w a k = false → a ≠ 18 → a ≠ 19 → a ≠ 20 → a ≠ 21 → a ≠ b0 → a ≠ ob → a ≠ gb → a ≠ 0 → gI (sI h3 73 w 1) a k = gI h a k := by
            intro a k z1 z2 z3 z4 z5 z6 z7 z8 z9 z10
            rw [g a k z1 z2, fc a k z3 z4 z5 z6 z7 z8 z9 (fun q => absurd q z10)]
          refine L.keep (gh c0 3 (by omega) (fz_out (by omega) (by omega)) (by omega) (by omega) (by omega) (by omega) (by omega) (by omega) (by omega) (by omega)) (gh c0 4 (by omega) (fz_out (by omega) (by omega)) (by omega) (by omega) (by omega) (by omega) (by omega) (by omega) (by omega) (by omega)) (fun k => gh oc k (by omega) (fz_out (by omega) (by omega)) (by omega) (by omega) (by omega) (by omega) (by omega) (by omega) (by omega) (by omega)) (fun k => gh gc k (by omega) (fz_out (by omega) (by omega)) (by omega) (by omega) (by omega) (by omega) (by omega) (by omega) (by omega) (by omega)) ?_ (gh 68 w' (by omega) (fz_68 (by omega) hw' ne) (by omega) (by omega) (by omega) (by omega) (by omega) (by omega) (by omega) (by omega)) (fun k hk => ⟨gh 66 _ (by omega) (fz_66 (by omega) hw' ne hk).1 (by omega) (by omega) (by omega) (by omega) (by omega) (by omega) (by omega) (by omega), gh 67 _ (by omega) (fz_66 (by omega) hw' ne hk).2 (by omega) (by omega) (by omega) (by omega) (by omega) (by omega) (by omega) (by omega)⟩) (fun k hk => ⟨gh 69 _ (by omega) (fz_69 (by omega) hw' ne hk).1 (by omega) (by omega) (by omega) (by omega) (by omega) (by omega) (by omega) (by omega), gh 70 _ (by omega) (fz_69 (by omega) hw' ne hk).2 (by omega) (by omega) (by omega) (by omega) (by omega) (by omega) (by omega) (by omega)⟩)
          rw [gI_sI, if_neg (by omega), q5.1 73 w' (fz_out (by omega) (by omega)), fc 73 w' (by decide) (by decide) (by decide) (by decide) (by omega) (by omega) (by omega) (by omega)]
        have jt : JT (gI (sI h3 73 w 1) 0 3) (rI (sI h3 73 w 1) 7) (gI (sI h3 73 w 1) 55 18) (rI (sI h3 73 w 1) 65) := by
          apply JT_0
          · rw [g 0 3 (by decide) (fz_out (by decide) (by decide)), ehc, gI_sI, if_pos ⟨rfl, rfl⟩]
          · rw [gI_sI, if_neg (by omega)]; exact q1
        have fr : ∀ a k, usd a k = true ∨ usD a k = true → a ≠ 10 ∧ a ≠ 11 ∧ a ≠ 12 ∧ a ≠ 14 ∧ a ≠ 15 ∧ a ≠ 16 ∧ a ≠ 66 ∧ a ≠ 67 ∧ a ≠ 68 ∧ a ≠ 69 ∧ a ≠ 70 ∧ a ≠ 73 ∧ a ≠ 7 ∧ a ≠ 65 ∧ (a, k) ≠ (0, 3) ∧ (a, k) ≠ (55, 18) → gI (sI h3 73 w 1) a k = gI h a k := by
          rintro a k us ⟨z1, z2, z3, z4, z5, z6, z7, z8, z9, z10, z11, z12, z13, z14, z15, z16⟩
          obtain ⟨y1, y2, y3, y4⟩ := usd18 us
          have f55 : a ≠ 55 ∨ (k < 18 ∨ 22 < k) := by
            by_cases z : a = 55
            · subst z
              exact Or.inr (usd55 us (fun q => z16 (by rw [q])))
            · exact Or.inl z
          rw [g a k z12 (fz_out f55 ⟨z7, z8, z9, z10, z11⟩), fc a k y1 y2 y3 y4 (by omega) (by omega) (by omega) (fun q q' => z15 (by rw [q, q']))]
        rcases hb with ⟨e1, e2, e3, e4, e5, e6, e7⟩ | ⟨e1, e2, e3, e4, e5, e6, e7⟩
        · subst e1 e2 e3 e4 e5 e6 e7
          exact I.lw fr (fun a k _ => gl a k) jt lawN.jl (keepO 1 P1 (by omega) (by omega) L1).jl
        · subst e1 e2 e3 e4 e5 e6 e7
          exact I.lw fr (fun a k _ => gl a k) jt (keepO 0 P0 (by omega) (by omega) L0).jl lawN.jl
      · rintro p' (e' | ⟨P', e', l'⟩) h3 q1 q5
        · rw [e] at e'; exact absurd e' (by simp)
        · rw [e] at e'
          have ep := (Prod.mk.inj e').1
          omega
    · intro p ef h1 F1
      have pl : p ≤ n := by
        rcases ef with e | ⟨P, e, l⟩
        · exact (allok.2 p e).2
        · omega
      have np : ¬ nI p = -1 := nm1 (by omega)
      rw [if_neg np]
      simp only [forall_eq]
      rw [if_neg np]
      refine ⟨b1, ?_⟩
      obtain ⟨hc, ehc⟩ : ∃ hc, hc = sI h1 0 3 0 := ⟨_, rfl⟩
      rw [← ehc]
      have fc : ∀ a k, a ≠ 18 → a ≠ 19 → a ≠ 20 → a ≠ 21 → (a = 0 → k ≠ 3) → gI hc a k = gI h a k := by
        intro a k q1 q2 q3 q4 q8
        rw [ehc, gI_sI, if_neg (fun q => q8 q.1 q.2), F1.1 a k q1 q2 q3 q4]
      have fcL : ∀ a k, gL hc a k = gL h a k := fun a k => by
        rw [ehc]
        show gL h1 a k = gL h a k
        rw [F1.2]
      have Tc : TM2 hc n sg := ⟨hn, fun i hi => ⟨by rw [fc 65 i (by decide) (by decide) (by decide) (by decide) (by omega)]; exact (sgv i hi).2.2, (sgv i hi).2.1⟩, sge⟩
      have e18 : gI hc 55 18 = nI n := by rw [fc 55 18 (by decide) (by decide) (by decide) (by decide) (by omega)]; exact t2
      apply op hc Tc e18
      apply mm_read hw2 Tc e18 hF hG
      · intro p' P' e' pn' h3 q1 q2 q3 q4 q5
        exfalso
        rcases ef with e | ⟨P, e, l⟩
        · rw [e] at e'; exact absurd e' (by simp)
        · rw [e] at e'
          have ep := (Prod.mk.inj e').1
          omega
      · intro p' ef' h3 q1 q5
        have ep : p' = p := by
          rcases ef with e | ⟨P, e, l⟩
          · rcases ef' with e' | ⟨P', e', l'⟩
            · rw [e] at e'; exact (Prod.mk.inj e').1.symm
            · rw [e] at e'; exact absurd e' (by simp)
          · rcases ef' with e' | ⟨P', e', l'⟩
            · rw [e] at e'; exact absurd e' (by simp)
            · rw [e] at e'; exact (Prod.mk.inj e').1.symm
        subst ep
        rw [if_neg (nI_pos (by omega)), if_pos rfl]
        refine hR _ ?_
        have gh : ∀ a k, fzs 2 a k = false → a ≠ 18 → a ≠ 19 → a ≠ 20 → a ≠ 21 → (a = 0 → k ≠ 3) → gI h3 a k = gI h a k := by
          intro a k z2 z3 z4 z5 z6 z7
          rw [q5.1 a k z2, fc a k z3 z4 z5 z6 z7]
        have keepO : ∀ c0 oc gc w' P', 10 ≤ c0 → c0 ≤ 16 → 10 ≤ oc → oc ≤ 16 → 10 ≤ gc → gc ≤ 16 → w' < 2 → LT h c0 oc gc w' P' → LT h3 c0 oc gc w' P' := by
          intro c0 oc gc w' P' y1 y2 y3 y4 y5 y6 hw' L
          exact L.keep (gh c0 3 (fz_out (by omega) (by omega)) (by omega) (by omega) (by omega) (by omega) (by omega)) (gh c0 4 (fz_out (by omega) (by omega)) (by omega) (by omega) (by omega) (by omega) (by omega)) (fun k => gh oc k (fz_out (by omega) (by omega)) (by omega) (by omega) (by omega) (by omega) (by omega)) (fun k => gh gc k (fz_out (by omega) (by omega)) (by omega) (by omega) (by omega) (by omega) (by omega)) (gh 73 w' (fz_out (by omega) (by omega)) (by omega) (by omega) (by omega) (by omega) (by omega)) (gh 68 w' (fz_68 (by omega) hw' (by omega)) (by omega) (by omega) (by omega) (by omega) (by omega)) (fun k hk => ⟨gh 66 _ (fz_66 (by omega) hw' (by omega) hk).1 (by omega) (by omega) (by omega) (by omega) (by omega), gh 67 _ (fz_66 (by omega) hw' (by omega) hk).2 (by omega) (by omega) (by omega) (by omega) (by omega)⟩) (fun k hk => ⟨gh 69 _ (fz_69 (by omega) hw' (by omega) hk).1 (by omega) (by omega) (by omega) (by omega) (by omega), gh 70 _ (fz_69 (by omega) hw' (by omega) hk).2 (by omega) (by omega) (by omega) (by omega) (by omega)⟩)
        have jt : JT (gI h3 0 3) (rI h3 7) (gI h3 55 18) (rI h3 65) := by
          apply JT_0
          · rw [q5.1 0 3 (fz_out (by decide) (by decide)), ehc, gI_sI, if_pos ⟨rfl, rfl⟩]
          · exact q1
        have fr : ∀ a k, usd a k = true ∨ usD a k = true → a ≠ 10 ∧ a ≠ 11 ∧ a ≠ 12 ∧ a ≠ 14 ∧ a ≠ 15 ∧ a ≠ 16 ∧ a ≠ 66 ∧ a ≠ 67 ∧ a ≠ 68 ∧ a ≠ 69 ∧ a ≠ 70 ∧ a ≠ 73 ∧ a ≠ 7 ∧ a ≠ 65 ∧ (a, k) ≠ (0, 3) ∧ (a, k) ≠ (55, 18) → gI h3 a k = gI h a k := by
          rintro a k us ⟨z1, z2, z3, z4, z5, z6, z7, z8, z9, z10, z11, z12, z13, z14, z15, z16⟩
          obtain ⟨y1, y2, y3, y4⟩ := usd18 us
          have f55 : a ≠ 55 ∨ (k < 18 ∨ 22 < k) := by
            by_cases z : a = 55
            · subst z
              exact Or.inr (usd55 us (fun q => z16 (by rw [q])))
            · exact Or.inl z
          exact gh a k (fz_out f55 ⟨z7, z8, z9, z10, z11⟩) y1 y2 y3 y4 (fun q q' => z15 (by rw [q, q']))
        exact I.lw fr (fun a k _ => (q5.2 a k).trans (fcL a k)) jt (keepO 10 11 12 0 P0 (by omega) (by omega) (by omega) (by omega) (by omega) (by omega) (by omega) L0).jl (keepO 14 15 16 1 P1 (by omega) (by omega) (by omega) (by omega) (by omega) (by omega) (by omega) L1).jl
