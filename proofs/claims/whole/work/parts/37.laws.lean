/-! the lines of a text, one behind another -/
abbrev lnS (l : List Sp2 × List Sp2) : List Sp2 := l.1 ++ l.2
def offP (P : Lns) (j : Nat) : Nat := ((P.take j).flatMap lnS).length
theorem fm_cut {P : Lns} {j : Nat} {l : List Sp2 × List Sp2} (h : P[j]? = some l) : P.flatMap lnS = (P.take j).flatMap lnS ++ (lnS l ++ (P.drop (j + 1)).flatMap lnS) := by
  conv =>
    lhs
    rw [← List.take_append_drop j P, drop_cons h, List.flatMap_append, List.flatMap_cons]
theorem offP_succ {P : Lns} {j : Nat} {l : List Sp2 × List Sp2} (h : P[j]? = some l) : offP P (j + 1) = offP P j + (l.1.length + l.2.length) := by
  unfold offP
  rw [List.take_add_one, h, List.flatMap_append, List.length_append]
  simp
theorem fm_get {P : Lns} {j k : Nat} {l : List Sp2 × List Sp2} {s : Sp2} (h : P[j]? = some l) (hk : (lnS l)[k]? = some s) : (P.flatMap lnS)[offP P j + k]? = some s := by
  rw [fm_cut h, List.getElem?_append_right (by unfold offP; omega), show offP P j + k - ((P.take j).flatMap lnS).length = k by unfold offP; omega, List.getElem?_append_left (List.getElem?_eq_some_iff.mp hk).1]
  exact hk
theorem fm_le {P : Lns} {j : Nat} {l : List Sp2 × List Sp2} (h : P[j]? = some l) : offP P j + (l.1.length + l.2.length) ≤ (P.flatMap lnS).length := by
  rw [fm_cut h]
  simp only [List.length_append]
  unfold offP
  omega
theorem lnS_le (l : List Sp2 × List Sp2) : (lnS l).length ≤ (lnC l).length := by
  unfold lnC
  by_cases c : l.1 = []
  · rw [if_pos c]; simp [lnS, c]
  · rw [if_neg c]; simp [lnS]; omega
theorem fmS_le : ∀ P : Lns, (P.flatMap lnS).length ≤ (P.flatMap lnC).length
  | [] => by simp
  | l :: r => by
    have ih := fmS_le r
    have e := lnS_le l
    rw [List.flatMap_cons, List.flatMap_cons]
    simp only [List.length_append] at e ⊢
    omega
theorem fr1.trans {c : Nat} {h0 h1 h2 : Hp} (F : fr1 c h0 h1) (F2 : fr1 c h1 h2) : fr1 c h0 h2 := ⟨fun a k ha => (F2.1 a k ha).trans (F.1 a k ha), fun a k => (F2.2 a k).trans (F.2 a k)⟩
theorem m_gives {h0 : Hp} {w : Nat} {P : Lns} (hw : w < 2) (hP : P.length ≤ 61) (hOK : ∀ l ∈ P, lnOK l) (hlen : (P.flatMap lnS).length ≤ 130) (h68 : gI h0 68 w = nI P.length)
    (hA : ∀ k s, (P.flatMap lnS)[k]? = some s → gI h0 66 (130 * w + k) = (encS s).1 ∧ gI h0 67 (130 * w + k) = (encS s).2)
    (hB : ∀ k l, P[k]? = some l → gI h0 69 (61 * w + k) = nI (offP P k + l.1.length) ∧ gI h0 70 (61 * w + k) = nI (offP P (k + 1))) {Q : Int32 → Hp → Prop}
    (hQ : ∀ h, fr1 72 h0 h → Q (valP (rI h0 71) P) h) : wX12_gives 55 (nI w) h0 Q := by
  unfold wX12_gives
  obtain ⟨V, hV⟩ : ∃ V, V = valP (rI h0 71) P := ⟨_, rfl⟩
  rw [← hV] at hQ
  simp only [forall_eq]
  rw [show (61 : Int32) * nI w = nI (61 * w) by simp (disch := omega) only [lit, nI_ltI, nI_leI, nI_eq, nI_clamp, nI_add, vp_nI, nI_ne_neg, neg_ne_nI, pk_sub, pk_mul, pk_div, Nat.reduceAdd, Nat.reduceMul, Nat.reducePow, e_mn, e_mx, e_rm, lt_t, lt_f, le_t, le_f, eq_f, eq_t, ↓reduceIte, true_and, and_true, and_false, false_and, and_self, or_true, or_false, true_or, false_or, not_true, not_false_iff]]
  refine iX12_gives_7 (I := fun x2 x3 h => ∃ j : Nat, x2 = nI (offP P j) ∧ x3 = nI (61 * w + j) ∧ j ≤ P.length ∧ fr1 72 h0 h ∧ valP (rI h0 71) (P.drop j) = V) (μ := fun _ x3 _ => 61 * w + P.length - x3.toNatClampNeg) ?_ 0 (nI (61 * w)) h0 ⟨0, rfl, rfl, by omega, fr1.refl _ _, hV.symm⟩
  rintro x2 x3 h ⟨j, rfl, rfl, hj, F, E⟩ K hK
  unfold fX12_gives_7
  have vw : vp_in (nI w) 3 := (vp_nI (by omega)).mpr (by omega)
  have wl : (nI w).toNatClampNeg = w := nI_clamp (by omega)
  have jl : (nI (61 * w + j)).toNatClampNeg = 61 * w + j := nI_clamp (by omega)
  simp only [rf_55_25, rf_55_26, rf_55_27, ln_68, ln_69, ln_70, wl, jl, forall_eq, nI_1]
  rw [F.1 68 w (by decide), h68, show (61 : Int32) * nI w + nI P.length = nI (61 * w + P.length) by simp (disch := omega) only [lit, nI_ltI, nI_leI, nI_eq, nI_clamp, nI_add, vp_nI, nI_ne_neg, neg_ne_nI, pk_sub, pk_mul, pk_div, Nat.reduceAdd, Nat.reduceMul, Nat.reducePow, e_mn, e_mx, e_rm, lt_t, lt_f, le_t, le_f, eq_f, eq_t, ↓reduceIte, true_and, and_true, and_false, false_and, and_self, or_true, or_false, true_or, false_or, not_true, not_false_iff]]
  refine ⟨vw, ?_⟩
  by_cases c : P.length ≤ j
  · rw [if_pos (nI_le (by omega) (by omega))]
    rw [List.drop_eq_nil_of_le c, valP] at E
    rw [show (0 : Int32) = V from E]
    exact hQ h F
  · rw [if_neg (nI_ge (by omega) (by omega))]
    obtain ⟨l, hl⟩ := get_lt (show j < P.length by omega)
    rw [drop_cons hl, valP] at E
    obtain ⟨t1, t2⟩ := hB j l hl
    have vj : vp_in (nI (61 * w + j)) 183 := (vp_nI (by omega)).mpr (by omega)
    have bl := fm_le hl
    have os := offP_succ hl
    obtain ⟨ok2, ok1⟩ := hOK l (List.mem_of_getElem? hl)
    -- the line counts
    have cnt : ∀ h1, fr1 72 h0 h1 → V = hd0 (evl (rI h0 71) l.2 []) → jX12_gives_47 55 (nI w) (nI (61 * w + j)) h1 Q := by
      intro h1 F1 hv
      unfold jX12_gives_47
      simp only [rf_55_26, rf_55_27, ln_69, ln_70, jl]
      rw [F1.1 69 _ (by decide), F1.1 70 _ (by decide), t1, t2]
      refine ⟨vj, vj, m_worked (L := l.2) hw (by omega) (fun k s hk => ?_) ok2 (by omega) (fun h2 F2 => ?_)⟩
      · rw [F1.1 66 _ (by decide), F1.1 67 _ (by decide), show 130 * w + (offP P j + l.1.length) + k = 130 * w + (offP P j + (l.1.length + k)) by omega]
        refine hA _ s (fm_get hl ?_)
        rw [List.getElem?_append_right (by omega), show l.1.length + k - l.1.length = k by omega]
        exact hk
      · rw [show rI h1 71 = rI h0 71 from funext fun k => F1.1 71 k (by decide), ← hv]
        exact hQ h2 (F1.trans F2)
    rw [F.1 69 _ (by decide), t1]
    refine ⟨vj, ?_⟩
    by_cases c1 : l.1 = []
    · rw [if_pos c1] at E
      rw [if_pos (show nI (offP P j + l.1.length) = nI (offP P j) by rw [c1]; rfl)]
      exact cnt h F E.symm
    · rw [if_neg c1] at E
      have : 0 < l.1.length := List.length_pos_iff.mpr c1
      rw [if_neg (fun q => by have := (nI_eq (by omega) (by omega)).mp q; omega)]
      refine ⟨vj, m_worked (L := l.1) hw (by omega) (fun k s hk => ?_) (ok1.resolve_left c1) rfl (fun h2 F2 => ?_)⟩
      · rw [F.1 66 _ (by decide), F.1 67 _ (by decide), show 130 * w + offP P j + k = 130 * w + (offP P j + k) by omega]
        refine hA _ s (fm_get hl ?_)
        rw [List.getElem?_append_left (List.getElem?_eq_some_iff.mp hk).1]
        exact hk
      · rw [show rI h 71 = rI h0 71 from funext fun k => F.1 71 k (by decide)]
        have F3 := F.trans F2
        by_cases v0 : hd0 (evl (rI h0 71) l.1 []) = 0
        · rw [if_pos v0] at E ⊢
          rw [F3.1 70 _ (by decide), t2]
          exact ⟨vj, hK _ _ _ ⟨j + 1, rfl, by rw [Nat.add_assoc], by omega, F3, E⟩ (by rw [nI_clamp (by omega), jl]; omega)⟩
        · rw [if_neg v0] at E ⊢
          exact cnt h2 F3 E.symm
/-! what a text gives rests on its six names alone -/
theorem evl_nm {nm nm' : Nat → Int32} (hn : ∀ k, k < 6 → nm k = nm' k) : ∀ (L : List Sp2) (st : List Int32), (∀ s ∈ L, s.1 = 1 → ∃ j, j < 6 ∧ s.2 = nI j) → evl nm L st = evl nm' L st
  | [], _, _ => rfl
  | s :: L, st, h => by
    have ih := fun st => evl_nm hn L st (fun s hs => h s (List.mem_cons_of_mem _ hs))
    rw [evl_c, evl_c]
    by_cases c0 : s.1 = 0
    · rw [if_pos c0, if_pos c0, ih]
    · rw [if_neg c0, if_neg c0]
      by_cases c1 : s.1 = 1
      · obtain ⟨j, hj, ej⟩ := h s List.mem_cons_self c1
        rw [if_pos c1, if_pos c1, ej, nI_clamp (by omega), hn j hj, ih]
      · rw [if_neg c1, if_neg c1]
        cases st with
        | nil => rfl
        | cons x t =>
          dsimp only
          by_cases c2 : s.1 = 2
          · rw [if_pos c2, if_pos c2, ih]
          · rw [if_neg c2, if_neg c2]
            by_cases c3 : s.1 = 33
            · rw [if_pos c3, if_pos c3, ih]
            · rw [if_neg c3, if_neg c3]
              cases t with
              | nil => rfl
              | cons y u => exact ih _
theorem valP_nm {nm nm' : Nat → Int32} (hn : ∀ k, k < 6 → nm k = nm' k) : ∀ P : Lns, (∀ l ∈ P, lnOK l) → valP nm P = valP nm' P
  | [], _ => rfl
  | l :: r, h => by
    have ih := valP_nm hn r (fun l hl => h l (List.mem_cons_of_mem _ hl))
    obtain ⟨h2, h1⟩ := h l List.mem_cons_self
    rw [valP, valP, ih, evl_nm hn l.2 [] (runs_wf _ _ _ h2)]
    by_cases c : l.1 = []
    · rw [if_pos c, if_pos c]
    · rw [if_neg c, if_neg c, evl_nm hn l.1 [] (runs_wf _ _ _ (h1.resolve_left c))]
def nmF (t g p c s n : Int32) : Nat → Int32 := fun k => if k = 0 then t else if k = 1 then g else if k = 2 then p else if k = 3 then c else if k = 4 then s else n
/-- a law of the class and of the reference -/
def LT (h : Hp) (a0 o g w : Nat) : Option Lns → Prop
  | none => gI h a0 4 = 0 ∧ gI h 73 w = 0
  | some P => gI h a0 4 = 1 ∧ gI h 73 w = 1 ∧ P.length ≤ 61 ∧ (∀ l ∈ P, lnOK l) ∧ (P.flatMap lnC).length ≤ 121 ∧ gI h a0 3 = nI (P.flatMap lnC).length ∧ (∀ k s, (P.flatMap lnC)[k]? = some s → gI h o k = s.1 ∧ gI h g k = s.2) ∧
    gI h 68 w = nI P.length ∧ (∀ k s, (P.flatMap lnS)[k]? = some s → gI h 66 (130 * w + k) = (encS s).1 ∧ gI h 67 (130 * w + k) = (encS s).2) ∧
    ∀ k l, P[k]? = some l → gI h 69 (61 * w + k) = nI (offP P k + l.1.length) ∧ gI h 70 (61 * w + k) = nI (offP P (k + 1))
theorem Inv.laws {h : Hp} (I : Inv h) : ∃ P0 P1, LT h 10 11 12 0 P0 ∧ LT h 14 15 16 1 P1 := by
  obtain ⟨iG, iP, iD, iT, iI, iC, iB, iS, iL0, iL1⟩ := I
  have key : ∀ a0 o g w, JL1 w (gI h a0 4) (gI h a0 3) (rI h o) (rI h g) (rI h 73) (rI h 66) (rI h 67) (rI h 68) (rI h 69) (rI h 70) → ∃ P, LT h a0 o g w P := by
    intro a0 o g w
    rintro ⟨e, q | ⟨q, P, p1, p2, p3, p4, p5, p6, p7, p8⟩⟩
    · exact ⟨none, q, by rw [show gI h 73 w = _ from e]; exact q⟩
    · exact ⟨some P, q, by rw [show gI h 73 w = _ from e]; exact q, p1, p2, p3, p4, p5, p6, p7, p8⟩
  obtain ⟨P0, q0⟩ := key 10 11 12 0 iL0
  obtain ⟨P1, q1⟩ := key 14 15 16 1 iL1
  exact ⟨P0, P1, q0, q1⟩
/-- what the working out of a text changes -/
def Fs (h h' : Hp) : Prop := (∀ a k, a ≠ 9 → a ≠ 13 → a ≠ 17 → a ≠ 71 → a ≠ 72 → gI h' a k = gI h a k) ∧ ∀ a k, gL h' a k = gL h a k
theorem Fs.refl (h : Hp) : Fs h h := ⟨fun _ _ _ _ _ _ _ => rfl, fun _ _ => rfl⟩
theorem Fs.trans {h0 h1 h2 : Hp} (F : Fs h0 h1) (F2 : Fs h1 h2) : Fs h0 h2 := ⟨fun a k q1 q2 q3 q4 q5 => (F2.1 a k q1 q2 q3 q4 q5).trans (F.1 a k q1 q2 q3 q4 q5), fun a k => (F2.2 a k).trans (F.2 a k)⟩
theorem Fs.row {h h' : Hp} (F : Fs h h') (a : Nat) (ha : a ≠ 9 ∧ a ≠ 13 ∧ a ≠ 17 ∧ a ≠ 71 ∧ a ≠ 72) : rI h' a = rI h a := funext fun k => F.1 a k ha.1 ha.2.1 ha.2.2.1 ha.2.2.2.1 ha.2.2.2.2
theorem Fs.at {h h' : Hp} (F : Fs h h') (a k : Nat) (ha : a ≠ 9 ∧ a ≠ 13 ∧ a ≠ 17 ∧ a ≠ 71 ∧ a ≠ 72) : gI h' a k = gI h a k := F.1 a k ha.1 ha.2.1 ha.2.2.1 ha.2.2.2.1 ha.2.2.2.2
theorem fr1.fs {c : Nat} {h h' : Hp} (F : fr1 c h h') (hc : c = 9 ∨ c = 13 ∨ c = 17 ∨ c = 71 ∨ c = 72) : Fs h h' := ⟨fun a k q1 q2 q3 q4 q5 => F.1 a k (by omega), F.2⟩
theorem LT.fs {h h' : Hp} {a0 o g w : Nat} {P : Option Lns} (L : LT h a0 o g w P) (F : Fs h h') (ha : a0 < 9 ∨ (9 < a0 ∧ a0 < 13) ∨ (13 < a0 ∧ a0 < 17)) (hb : o < 9 ∨ (9 < o ∧ o < 13) ∨ (13 < o ∧ o < 17)) (hc : g < 9 ∨ (9 < g ∧ g < 13) ∨ (13 < g ∧ g < 17)) : LT h' a0 o g w P := by
  cases P with
  | none => exact ⟨(F.at a0 4 (by omega)).trans L.1, (F.at 73 w (by decide)).trans L.2⟩
  | some P =>
    obtain ⟨q1, q2, q3, q4, q5, q6, q7, q8, q9, q10⟩ := L
    refine ⟨(F.at a0 4 (by omega)).trans q1, (F.at 73 w (by decide)).trans q2, q3, q4, q5, (F.at a0 3 (by omega)).trans q6, fun k s hk => ?_, (F.at 68 w (by decide)).trans q8, fun k s hk => ?_, fun k l hk => ?_⟩
    · rw [F.at o k (by omega), F.at g k (by omega)]; exact q7 k s hk
    · rw [F.at 66 _ (by decide), F.at 67 _ (by decide)]; exact q9 k s hk
    · rw [F.at 69 _ (by decide), F.at 70 _ (by decide)]; exact q10 k l hk
theorem LT.fs0 {h h' : Hp} {P : Option Lns} (L : LT h 10 11 12 0 P) (F : Fs h h') : LT h' 10 11 12 0 P := L.fs F (by omega) (by omega) (by omega)
theorem LT.fs1 {h h' : Hp} {P : Option Lns} (L : LT h 14 15 16 1 P) (F : Fs h h') : LT h' 14 15 16 1 P := L.fs F (by omega) (by omega) (by omega)
theorem PN.fs {h h' : Hp} {p : Nat} (P : PN h p) (F : Fs h h') : PN h' p := P.kept (F.at _ _ (by decide)) (F.at _ _ (by decide)) (F.row _ (by decide)) (F.row _ (by decide)) (F.row _ (by decide)) (F.row _ (by decide)) (F.row _ (by decide)) (F.row _ (by decide))
theorem GN.fs {h h' : Hp} {g : Nat} {num : Nat → Nat} (G : GN h g num) (F : Fs h h') : GN h' g num := G.kept (F.at _ _ (by decide)) (F.at _ _ (by decide)) (fun k => F.at _ k (by decide)) (fun k => F.at _ k (by decide))
theorem Inv.fs {h h' : Hp} (I : Inv h) (F : Fs h h') : Inv h' := by
  refine I.same (fun a k q => ?_) (fun a k _ => F.2 a k)
  refine F.1 a k ?_ ?_ ?_ ?_ ?_ <;> (rintro rfl; rcases q with q | q <;> simp [usd, usD] at q)
theorem hC_fs {h h' : Hp} (F : Fs h h') : hC h' = hC h := by show tn (rI h' 6) = tn (rI h 6); rw [F.row 6 (by decide)]
theorem hL_fs {h h' : Hp} (F : Fs h h') : hL h' = hL h := by show tn (rI h' 4) = tn (rI h 4); rw [F.row 4 (by decide)]
theorem hR_fs {h h' : Hp} (F : Fs h h') : hRt h' = hRt h := by show tn (rI h' 5) = tn (rI h 5); rw [F.row 5 (by decide)]
theorem cl2 : (2 : Int32).toNatClampNeg = 2 := rfl
theorem cl3 : (3 : Int32).toNatClampNeg = 3 := rfl
theorem cl4 : (4 : Int32).toNatClampNeg = 4 := rfl
theorem cl5 : (5 : Int32).toNatClampNeg = 5 := rfl
theorem vc6 : vp_in (0 : Int32) 6 ∧ vp_in (1 : Int32) 6 ∧ vp_in (2 : Int32) 6 ∧ vp_in (3 : Int32) 6 ∧ vp_in (4 : Int32) 6 ∧ vp_in (5 : Int32) 6 :=
  ⟨(vp_nI (a := 0) (by omega)).mpr (by omega), (vp_nI (a := 1) (by omega)).mpr (by omega), (vp_nI (a := 2) (by omega)).mpr (by omega), (vp_nI (a := 3) (by omega)).mpr (by omega), (vp_nI (a := 4) (by omega)).mpr (by omega), (vp_nI (a := 5) (by omega)).mpr (by omega)⟩
def six (h : Hp) (c : Nat) (x1 x2 x3 x4 x5 x6 : Int32) : Hp := sI (sI (sI (sI (sI (sI h c 0 x1) c 1 x2) c 2 x3) c 3 x4) c 4 x5) c 5 x6
theorem six_fr (h : Hp) (c : Nat) (x1 x2 x3 x4 x5 x6 : Int32) : fr1 c h (six h c x1 x2 x3 x4 x5 x6) := ((((((fr1.refl c h).set _ _).set _ _).set _ _).set _ _).set _ _).set _ _
theorem six_at (h : Hp) (c : Nat) (x1 x2 x3 x4 x5 x6 : Int32) (k : Nat) (hk : k < 6) : rI (six h c x1 x2 x3 x4 x5 x6) c k = nmF x1 x2 x3 x4 x5 x6 k := by
  rcases (show k = 0 ∨ k = 1 ∨ k = 2 ∨ k = 3 ∨ k = 4 ∨ k = 5 by omega) with rfl | rfl | rfl | rfl | rfl | rfl <;> simp [six, rI, gI_sI, nmF]
theorem c_name (x1 x2 x3 x4 x5 x6 : Int32) (h : Hp) {Q : Hp → Prop} (hQ : Q (six h 9 x1 x2 x3 x4 x5 x6)) : wX6_name 8 x1 x2 x3 x4 x5 x6 h Q := by
  unfold wX6_name
  obtain ⟨v0, v1, v2, v3, v4, v5⟩ := vc6
  simp only [rf_8_0, ln_9, forall_eq, cl0, cl1, cl2, cl3, cl4, cl5]
  exact ⟨v0, v1, v2, v3, v4, v5, hQ⟩
def nzB (v : Int32) : Bool := decide (v ≠ 0)
/-- MAY -/
def mayV (P : Option Lns) (c : Nat → Nat) (t g p s : Nat) : Bool := match P with
  | none => true
  | some P => nzB (valP (nmF (nI t) (nI g) (nI p) (nI (c p)) (nI s) 0) P)
/-- COMES -/
def comV (P : Option Lns) (g n t : Nat) : Nat := match P with
  | none => 6
  | some P => min 12 (valP (nmF (nI t) (nI g) 0 0 0 (nI n)) P).toNatClampNeg
theorem comV_le (P : Option Lns) (g n t : Nat) : comV P g n t ≤ 12 := by
  unfold comV
  cases P with
  | none => simp
  | some P => exact Nat.min_le_left _ _
theorem wf_of {P : Lns} (h : ∀ l ∈ P, lnOK l) : ∀ s ∈ P.flatMap lnC, s.1 = 1 → ∃ j, j < 6 ∧ s.2 = nI j := by
  intro s hs h1
  obtain ⟨l, hl, hs⟩ := List.mem_flatMap.mp hs
  obtain ⟨o2, o1⟩ := h l hl
  unfold lnC at hs
  rcases List.mem_append.mp hs with hs | hs
  · rcases List.mem_append.mp hs with hs | hs
    · by_cases c : l.1 = []
      · rw [if_pos c] at hs; exact absurd hs (by simp)
      · rw [if_neg c] at hs
        rcases List.mem_append.mp hs with hs | hs
        · exact runs_wf _ _ _ (o1.resolve_left c) s hs h1
        · rw [List.mem_singleton.mp hs] at h1; exact absurd h1 (by decide)
    · exact runs_wf _ _ _ o2 s hs h1
  · rw [List.mem_singleton.mp hs] at h1; exact absurd h1 (by decide)
theorem c_val0 {h : Hp} {P : Lns} (L : LT h 10 11 12 0 (some P)) {x1 x2 x3 x4 x5 x6 : Int32} {Q : Int32 → Hp → Prop} (hQ : ∀ h', Fs h h' → Q (valP (nmF x1 x2 x3 x4 x5 x6) P) h') : wX6_name 8 x1 x2 x3 x4 x5 x6 h (fun h4 => wX5_value 10 9 h4 Q) := by
  apply c_name
  have F := six_fr h 9 x1 x2 x3 x4 x5 x6
  obtain ⟨q1, q2, q3, q4, q5, q6, q7, q8, q9, q10⟩ := L
  refine c_value (o := 11) (g := 12) (sc := 13) (by decide) (by decide) q5 (by rw [F.1 10 3 (by decide)]; exact q6) (fun k s hk => by rw [F.1 11 k (by decide), F.1 12 k (by decide)]; exact q7 k s hk) (wf_of q4) (fun h' F' => ?_)
  rw [cmv_eq _ P q4, valP_nm (six_at h 9 x1 x2 x3 x4 x5 x6) P q4]
  exact hQ h' ((F.fs (by omega)).trans (F'.fs (by omega)))
theorem c_val1 {h : Hp} {P : Lns} (L : LT h 14 15 16 1 (some P)) {x1 x2 x3 x4 x5 x6 : Int32} {Q : Int32 → Hp → Prop} (hQ : ∀ h', Fs h h' → Q (valP (nmF x1 x2 x3 x4 x5 x6) P) h') : wX6_name 8 x1 x2 x3 x4 x5 x6 h (fun h4 => wX5_value 14 9 h4 Q) := by
  apply c_name
  have F := six_fr h 9 x1 x2 x3 x4 x5 x6
  obtain ⟨q1, q2, q3, q4, q5, q6, q7, q8, q9, q10⟩ := L
  refine c_value (o := 15) (g := 16) (sc := 17) (by decide) (by decide) q5 (by rw [F.1 14 3 (by decide)]; exact q6) (fun k s hk => by rw [F.1 15 k (by decide), F.1 16 k (by decide)]; exact q7 k s hk) (wf_of q4) (fun h' F' => ?_)
  rw [cmv_eq _ P q4, valP_nm (six_at h 9 x1 x2 x3 x4 x5 x6) P q4]
  exact hQ h' ((F.fs (by omega)).trans (F'.fs (by omega)))
theorem m_val {h : Hp} {a0 o g w : Nat} {P : Lns} (L : LT h a0 o g w (some P)) (hw : w < 2) {x1 x2 x3 x4 x5 x6 : Int32} {Q : Int32 → Hp → Prop} (hQ : ∀ h', Fs h h' → Q (valP (nmF x1 x2 x3 x4 x5 x6) P) h') : wX12_gives 55 (nI w) (six h 71 x1 x2 x3 x4 x5 x6) Q := by
  have F := six_fr h 71 x1 x2 x3 x4 x5 x6
  obtain ⟨q1, q2, q3, q4, q5, q6, q7, q8, q9, q10⟩ := L
  have := fmS_le P
  refine m_gives hw q3 q4 (by omega) (by rw [F.1 68 _ (by decide)]; exact q8) (fun k s hk => by rw [F.1 66 _ (by decide), F.1 67 _ (by decide)]; exact q9 k s hk) (fun k l hk => by rw [F.1 69 _ (by decide), F.1 70 _ (by decide)]; exact q10 k l hk) (fun h' F' => ?_)
  rw [valP_nm (six_at h 71 x1 x2 x3 x4 x5 x6) P q4]
  exact hQ h' ((F.fs (by omega)).trans (F'.fs (by omega)))
theorem nz_ite {α : Type} (v : Int32) (a b : α) : (if v = 0 then a else b) = if nzB v then b else a := by
  unfold nzB
  by_cases c : v = 0 <;> simp [c]
theorem c_lets {h : Hp} {N p g s t : Nat} {P : Option Lns} (PP : PN h N) (hp : p < N) (L : LT h 10 11 12 0 P) {Q : Int32 → Hp → Prop} (hQ : ∀ h', Fs h h' → Q (if mayV P (hC h) t g p s then 1 else 0) h') : wX6_lets 8 3 (nI p) (nI g) (nI s) (nI t) h Q := by
  unfold wX6_lets
  rw [rf_8_1]
  cases P with
  | none =>
    rw [if_pos L.1]
    exact hQ h (Fs.refl h)
  | some P =>
    obtain ⟨hN, e1, e2, hq⟩ := PP
    have cc : ¬ (nI p < 0 ∨ ¬ nI p < nI N) := fun q => q.elim (fun q => nI_pos (by omega) q) (fun q => q (nI_lt hp (by omega)))
    rw [if_neg (by rw [L.1]; decide), e_pHas, e1, if_neg cc, if_neg (by decide)]
    simp only [rf_3_2, rf_8_0, ln_6, nI_clamp (show p < 2 ^ 31 by omega)]
    obtain ⟨y1, y2, y3, y4⟩ := hq p hp
    refine ⟨(vp_nI (by omega)).mpr (by omega), ?_⟩
    rw [y3]
    apply c_val0 L
    intro h' F
    have := hQ h' F
    unfold mayV at this
    simp only [nz_ite]
    by_cases c : nzB (valP (nmF (nI t) (nI g) (nI p) (nI (hC h p)) (nI s) 0) P) = true
    · rw [if_pos c] at this ⊢; exact this
    · rw [if_neg c] at this ⊢; exact this
theorem m_mayGo {h : Hp} {N p g s t : Nat} {P : Option Lns} (PP : PN h N) (hp : p < N) (L : LT h 10 11 12 0 P) {Q : Int32 → Hp → Prop} (hQ : ∀ h', Fs h h' → Q (if mayV P (hC h) t g p s then 1 else 0) h') : wX12_mayGo 55 (nI p) (nI g) (nI s) (nI t) h Q := by
  unfold wX12_mayGo
  obtain ⟨v0, v1, v2, v3, v4, v5⟩ := vc6
  simp only [rf_55_30, rf_55_28, rf_55_6, ln_73, ln_71, ln_59, forall_eq, cl0, cl1, cl2, cl3, cl4, cl5]
  refine ⟨(vp_nI (a := 0) (by omega)).mpr (by omega), ?_⟩
  cases P with
  | none =>
    rw [if_pos L.2]
    exact hQ h (Fs.refl h)
  | some P =>
    obtain ⟨hN, e1, e2, hq⟩ := PP
    obtain ⟨y1, y2, y3, y4, y5, y6, y7⟩ := hq p hp
    rw [if_neg (by rw [L.2.1]; decide)]
    refine ⟨v0, v1, v2, (vp_nI (by omega)).mpr (by omega), v3, v4, v5, ?_⟩
    rw [nI_clamp (show p < 2 ^ 31 by omega)]
    simp only [gI_sI, Nat.reduceEqDiff, false_and, ↓reduceIte, y6]
    refine m_val (w := 0) L (by omega) (fun h' F => ?_)
    have := hQ h' F
    unfold mayV at this
    simp only [nz_ite]
    by_cases c : nzB (valP (nmF (nI t) (nI g) (nI p) (nI (hC h p)) (nI s) 0) P) = true
    · rw [if_pos c] at this ⊢; exact this
    · rw [if_neg c] at this ⊢; exact this
theorem clamp12 (v : Int32) : mx 0 (mn 12 v) = nI (min 12 v.toNatClampNeg) := by
  by_cases c : v < 0
  · have e : v.toNatClampNeg = 0 := by
      rw [Int32.lt_iff_toInt_lt] at c
      show v.toInt.toNat = 0
      have : v.toInt < 0 := c
      omega
    rw [e]
    have : mn 12 v = v := by
      unfold mn
      rw [if_pos]
      rw [Int32.lt_iff_toInt_lt] at c ⊢
      have : v.toInt < 0 := c
      show v.toInt < 12
      omega
    rw [this]
    unfold mx
    rw [if_neg (by intro q; rw [Int32.lt_iff_toInt_lt] at c q; omega)]
    rfl
  · obtain ⟨j, hj, rfl⟩ := nI_of c
    rw [nI_clamp hj, show (12 : Int32) = nI 12 from rfl, e_mn (by omega) hj, show (0 : Int32) = nI 0 from rfl, e_mx (by omega) (by omega), Nat.zero_max]
theorem clamp12' {α : Type} (v : Int32) (f : Int32 → α) : (if 0 ≤ v then (if v ≤ 12 then f v else f 12) else f 0) = f (nI (min 12 v.toNatClampNeg)) := by
  by_cases c : v < 0
  · have e : v.toNatClampNeg = 0 := by
      rw [Int32.lt_iff_toInt_lt] at c
      show v.toInt.toNat = 0
      have : v.toInt < 0 := c
      omega
    rw [if_neg (Int32.not_le.mpr c), e]
    rfl
  · rw [if_pos (nl c)]
    obtain ⟨j, hj, rfl⟩ := nI_of c
    rw [nI_clamp hj]
    by_cases d : j ≤ 12
    · rw [if_pos (show nI j ≤ 12 from nI_le (b := 12) d (by omega)), Nat.min_eq_right d]
    · rw [if_neg (show ¬ nI j ≤ 12 from nI_ge (a := 12) (by omega) hj), Nat.min_eq_left (by omega)]
      rfl
theorem c_chance {h : Hp} {g n t : Nat} {P : Option Lns} (L : LT h 14 15 16 1 P) {Q : Int32 → Hp → Prop} (hQ : ∀ h', Fs h h' → Q (nI (comV P g n t)) h') : wX6_chance 8 (nI g) (nI n) (nI t) h Q := by
  unfold wX6_chance
  rw [rf_8_2]
  cases P with
  | none =>
    rw [if_pos L.1]
    exact hQ h (Fs.refl h)
  | some P =>
    rw [if_neg (by rw [L.1]; decide), rf_8_0]
    apply c_val1 L
    intro h' F
    rw [clamp12]
    exact hQ h' F
theorem m_comesTo {h : Hp} {g n t : Nat} {P : Option Lns} (L : LT h 14 15 16 1 P) {Q : Int32 → Hp → Prop} (hQ : ∀ h', Fs h h' → Q (nI (comV P g n t)) h') : wX12_comesTo 55 (nI g) (nI n) (nI t) h Q := by
  unfold wX12_comesTo
  obtain ⟨v0, v1, v2, v3, v4, v5⟩ := vc6
  simp only [rf_55_30, rf_55_28, ln_73, ln_71, forall_eq, cl0, cl1, cl2, cl3, cl4, cl5]
  refine ⟨(vp_nI (a := 1) (by omega)).mpr (by omega), ?_⟩
  cases P with
  | none =>
    rw [if_pos L.2]
    exact hQ h (Fs.refl h)
  | some P =>
    rw [if_neg (by rw [L.2.1]; decide)]
    refine ⟨v0, v1, v2, v3, v4, v5, ?_⟩
    refine m_val (w := 1) L (by omega) (fun h' F => ?_)
    rw [clamp12' _ (fun v => Q v h')]
    exact hQ h' F
