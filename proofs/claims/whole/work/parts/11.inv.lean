/-! the invariant: the class's cells beside the reference's -/
def JG (gc : Int32) (gr : Nat → Int32) (mc : Int32) (mr : Nat → Int32) : Prop :=
  ∃ g : Nat, g ≤ 3 ∧ gc = nI g ∧ mc = nI g ∧ ∀ k, k < g → mr k = gr k ∧ ∃ n : Nat, gr k = nI n ∧ 1 ≤ n ∧ n ≤ 6
def JP (pc : Int32) (lr rr cr : Nat → Int32) (mpc : Int32) (mlr mrr mcr : Nat → Int32) : Prop :=
  ∃ p : Nat, p ≤ 12 ∧ pc = nI p ∧ mpc = nI p ∧ ∀ k, k < p → mlr k = lr k ∧ mrr k = rr k ∧ mcr k = cr k ∧ ∃ a b c : Nat, lr k = nI a ∧ rr k = nI b ∧ cr k = nI c ∧ a < b ∧ b ≤ 60 ∧ 1 ≤ c ∧ c ≤ 9
def JD (pc now out gone : Int32) (pd : Nat → Int32) (mnow mout mgone : Int32) (mpd : Nat → Int32) : Prop :=
  mnow = now ∧ mout = out ∧ mgone = gone ∧ ∃ p t o w : Nat, p ≤ 12 ∧ pc = nI p ∧ now = nI t ∧ out = nI o ∧ gone = nI w ∧ t ≤ 60 ∧ o < 2 ^ p ∧ w < 2 ^ p ∧ o &&& w = o ∧ (∀ k, k < p → mpd k = pd k) ∧ ∀ k, p ≤ k → k < 12 → pd k = 0
def JT (tl : Int32) (tr : Nat → Int32) (mtl : Int32) (mtr : Nat → Int32) : Prop :=
  ∃ n : Nat, n ≤ 120 ∧ tl = nI n ∧ mtl = nI n ∧ ∀ k, k < n → ∃ b : Nat, b < 256 ∧ tr k = nI b ∧ mtr k = b8 (nI b)
def JI (pc im know kout kgone : Int32) (kpd : Nat → Int32) (mim mknow mkout mkgone mkp : Int32) (mkpd : Nat → Int32) : Prop :=
  (im = 0 ∧ mim = 0) ∨ (im = 1 ∧ mim = 1 ∧ mknow = know ∧ mkout = kout ∧ mkgone = kgone ∧ ∃ p q t o w : Nat, pc = nI p ∧ q ≤ p ∧ p ≤ 12 ∧ mkp = nI q ∧ know = nI t ∧ kout = nI o ∧ kgone = nI w ∧ t ≤ 60 ∧ o < 2 ^ q ∧ w < 2 ^ q ∧ o &&& w = o ∧ (∀ k, k < q → mkpd k = kpd k) ∧ ∀ k, q ≤ k → k < 12 → kpd k = 0)
def chOK (g p : Nat) (lr : Nat → Int32) (w n v : Int32) : Prop :=
  (w = 0 ∧ ∃ i c : Nat, i < p ∧ n = nI i ∧ v = nI c ∧ 1 ≤ c ∧ c ≤ 9) ∨ (w = 1 ∧ ∃ i a b : Nat, i < p ∧ n = nI i ∧ lr i = nI a ∧ v = nI b ∧ a < b ∧ b ≤ 60) ∨ (w = 2 ∧ ∃ i c : Nat, i < g ∧ n = nI i ∧ v = nI c ∧ 1 ≤ c ∧ c ≤ 6)
def JC (gc pc : Int32) (lr : Nat → Int32) (sz dn : Int32) (nu wh we be : Nat → Int32) (mdn mun : Int32) (mof mat mbf mbh : Nat → Int32) : Prop :=
  ∃ g p d s : Nat, gc = nI g ∧ pc = nI p ∧ g ≤ 3 ∧ p ≤ 12 ∧ d ≤ s ∧ s ≤ 40 ∧ sz = nI s ∧ dn = nI d ∧ mdn = nI d ∧ mun = nI (s - d) ∧ ∀ k, k < s → mof k = wh k ∧ mat k = nu k ∧ mbf k = we k ∧ mbh k = be k ∧ chOK g p lr (wh k) (nu k) (we k) ∧ chOK g p lr (wh k) (nu k) (be k)
def JB (bc : Int32) (kr : Nat → Int32) (ran : Int32) (beg : Nat → Int32) (mbc : Int32) (mkr : Nat → Int32) (mtr : Int32) (mtd : Nat → Int32) : Prop :=
  ∃ n r : Nat, n ≤ 50 ∧ r ≤ 1000 ∧ bc = nI n ∧ mbc = nI n ∧ ran = nI r ∧ mtr = nI r ∧ (∀ k, k < n → mkr k = kr k ∧ ∃ q : Nat, q < 8 ∧ kr k = nI q) ∧ ∀ k, k < r → k < 24 → mtd k = beg k
def sh1 (n : Nat) (b so sz : Int32) (e : Nat → Int64) (ho ms : Int32) (me : Nat → Int64) : Prop :=
  (b = -1 ∧ so = -1 ∧ ho = -1) ∨ (so = -1 ∧ ∃ i : Nat, i < n ∧ b = nI i ∧ ho = nI i) ∨ (b = -1 ∧ ∃ q z : Nat, q ≤ 4 ∧ z ≤ 60 ∧ so = nI q ∧ ho = -nI (q + 2) ∧ sz = nI z ∧ ms = nI z ∧ (∀ k, k < z → me k = e k) ∧ (q = 0 → ∀ k, k < z → -128 ≤ e k ∧ e k ≤ 127))
def JS (bc : Int32) (b so sz : Nat → Int32) (e : Nat → Nat → Int64) (ho ms : Nat → Int32) (me : Nat → Int64) : Prop :=
  ∃ n : Nat, n ≤ 50 ∧ bc = nI n ∧ ∀ s, s < 6 → sh1 n (b s) (so s) (sz s) (e s) (ho s) (ms s) (fun k => me (60 * s + k))
/-- a text: its lines, each a test (or none) and what it gives, as postfix steps -/
abbrev Sp2 : Type := Int32 × Int32
abbrev Lns : Type := List (List Sp2 × List Sp2)
def lnC (l : List Sp2 × List Sp2) : List Sp2 := (if l.1 = [] then [] else l.1 ++ [((63 : Int32), (0 : Int32))]) ++ l.2 ++ [((59 : Int32), (0 : Int32))]
def encS (s : Sp2) : Sp2 := if s.1 = 0 then (1, s.2) else if s.1 = 1 then (2, s.2) else if s.1 = 33 then (3, 0) else if s.1 = 2 then (4, 0) else s
/-- a run of steps on a pile of n values leaves m -/
def runs (n : Nat) : List Sp2 → Option Nat
  | [] => some n
  | s :: l => if s.1 = 0 then runs (n + 1) l else if s.1 = 1 then (if s.2 < 0 ∨ 6 ≤ s.2 then none else runs (n + 1) l) else if s.1 = 33 ∨ s.1 = 2 then (if n = 0 then none else runs n l) else if s.1 ∈ ([37, 38, 42, 43, 45, 47, 60, 61, 62, 124] : List Int32) then (if n < 2 then none else runs (n - 1) l) else none
def lnOK (l : List Sp2 × List Sp2) : Prop := runs 0 l.2 = some 1 ∧ (l.1 = [] ∨ runs 0 l.1 = some 1)
def JL1 (w : Nat) (told sz : Int32) (ops args : Nat → Int32) (has act wth lm te le : Nat → Int32) : Prop :=
  has w = told ∧ (told = 0 ∨ (told = 1 ∧ ∃ P : Lns, P.length ≤ 61 ∧ (∀ l ∈ P, lnOK l) ∧ (P.flatMap lnC).length ≤ 121 ∧ sz = nI (P.flatMap lnC).length ∧ (∀ k s, (P.flatMap lnC)[k]? = some s → ops k = s.1 ∧ args k = s.2) ∧
    lm w = nI P.length ∧ (∀ k s, (P.flatMap (fun l => l.1 ++ l.2))[k]? = some s → act (130 * w + k) = (encS s).1 ∧ wth (130 * w + k) = (encS s).2) ∧
    ∀ k l, P[k]? = some l → te (61 * w + k) = nI (((P.take k).flatMap (fun l => l.1 ++ l.2)).length + l.1.length) ∧ le (61 * w + k) = nI (((P.take (k + 1)).flatMap (fun l => l.1 ++ l.2)).length)))
def Inv (h : Hp) : Prop :=
  JG (gI h 1 1) (rI h 2) (gI h 55 1) (rI h 56) ∧
  JP (gI h 3 3) (rI h 4) (rI h 5) (rI h 6) (gI h 55 3) (rI h 57) (rI h 58) (rI h 59) ∧
  JD (gI h 3 3) (gI h 23 1) (gI h 23 2) (gI h 23 3) (rI h 24) (gI h 55 7) (gI h 55 8) (gI h 55 9) (rI h 60) ∧
  JT (gI h 0 3) (rI h 7) (gI h 55 18) (rI h 65) ∧
  JI (gI h 3 3) (gI h 0 7) (gI h 25 1) (gI h 25 2) (gI h 25 3) (rI h 26) (gI h 55 42) (gI h 55 43) (gI h 55 44) (gI h 55 45) (gI h 55 46) (rI h 80) ∧
  JC (gI h 1 1) (gI h 3 3) (rI h 4) (gI h 33 4) (gI h 33 5) (rI h 34) (rI h 35) (rI h 36) (rI h 37) (gI h 55 11) (gI h 55 12) (rI h 61) (rI h 62) (rI h 63) (rI h 64) ∧
  JB (gI h 39 2) (rI h 40) (gI h 39 3) (rI h 41) (gI h 55 48) (rI h 81) (gI h 55 50) (rI h 82) ∧
  JS (gI h 39 2) (shV h 1) (shV h 2) (shV h 3) (shE h) (rI h 83) (rI h 84) (rL h 85) ∧
  JL1 0 (gI h 10 4) (gI h 10 3) (rI h 11) (rI h 12) (rI h 73) (rI h 66) (rI h 67) (rI h 68) (rI h 69) (rI h 70) ∧
  JL1 1 (gI h 14 4) (gI h 14 3) (rI h 15) (rI h 16) (rI h 73) (rI h 66) (rI h 67) (rI h 68) (rI h 69) (rI h 70)
theorem chOK.grow {g p g' p' : Nat} {lr : Nat → Int32} {w n v : Int32} (h : chOK g p lr w n v) (hg : g ≤ g') (hp : p ≤ p') : chOK g' p' lr w n v := by
  rcases h with ⟨h1, i, c, h2, h3⟩ | ⟨h1, i, a, b, h2, h3⟩ | ⟨h1, i, c, h2, h3⟩
  · exact Or.inl ⟨h1, i, c, by omega, h3⟩
  · exact Or.inr (Or.inl ⟨h1, i, a, b, by omega, h3⟩)
  · exact Or.inr (Or.inr ⟨h1, i, c, by omega, h3⟩)
theorem sh1.grow {n n' : Nat} {b so sz : Int32} {e : Nat → Int64} {ho ms : Int32} {me : Nat → Int64} (h : sh1 n b so sz e ho ms me) (hn : n ≤ n') : sh1 n' b so sz e ho ms me := by
  rcases h with h | ⟨h1, i, h2, h3⟩ | h
  · exact Or.inl h
  · exact Or.inr (Or.inl ⟨h1, i, by omega, h3⟩)
  · exact Or.inr (Or.inr h)
/-! one person more -/
theorem JP_add {p : Nat} {pc mpc : Int32} {lr rr cr mlr mrr mcr : Nat → Int32} (h : JP pc lr rr cr mpc mlr mrr mcr) (e : pc = nI p) (hp : p < 12) {a b c : Nat} (h1 : a < b) (h2 : b ≤ 60) (h3 : 1 ≤ c) (h4 : c ≤ 9) :
    JP (nI (p + 1)) (upd lr p (nI a)) (upd rr p (nI b)) (upd cr p (nI c)) (nI (p + 1)) (upd mlr p (nI a)) (upd mrr p (nI b)) (upd mcr p (nI c)) := by
  obtain ⟨p', q1, q2, q3, q4⟩ := h
  have : p = p' := (nI_eq (by omega) (by omega)).mp (e.symm.trans q2)
  subst this
  refine ⟨p + 1, by omega, rfl, rfl, fun k hk => ?_⟩
  by_cases hkp : k = p
  · subst hkp
    simp [upd]
    exact ⟨a, rfl, b, rfl, c, rfl, h1, h2, h3, h4⟩
  · simp only [upd, if_neg hkp]
    exact q4 k (by omega)
theorem JD_add {p : Nat} {pc now out gone mnow mout mgone : Int32} {pd mpd : Nat → Int32} (h : JD pc now out gone pd mnow mout mgone mpd) (e : pc = nI p) (hp : p < 12) : JD (nI (p + 1)) now out gone pd mnow mout mgone (upd mpd p 0) := by
  obtain ⟨r1, r2, r3, p', t, o, w, q0, q1, q2, q3, q4, q5, q6, q7, q8, q9, q10⟩ := h
  have : p = p' := (nI_eq (by omega) (by omega)).mp (e.symm.trans q1)
  subst this
  have hpw : 2 ^ p ≤ 2 ^ (p + 1) := Nat.pow_le_pow_right (by omega) (by omega)
  refine ⟨r1, r2, r3, p + 1, t, o, w, by omega, rfl, q2, q3, q4, q5, by omega, by omega, q8, fun k hk => ?_, fun k hk hk2 => q10 k (by omega) hk2⟩
  by_cases hkp : k = p
  · subst hkp
    simp [upd, q10 k (Nat.le_refl _) hp]
  · simp only [upd, if_neg hkp]
    exact q9 k (by omega)
theorem JI_add {p : Nat} {pc im know kout kgone mim mknow mkout mkgone mkp : Int32} {kpd mkpd : Nat → Int32} (h : JI pc im know kout kgone kpd mim mknow mkout mkgone mkp mkpd) (e : pc = nI p) (hp : p < 12) : JI (nI (p + 1)) im know kout kgone kpd mim mknow mkout mkgone mkp mkpd := by
  rcases h with h | ⟨r1, r2, r3, r4, r5, p', q, t, o, w, q1, q2, q3, q4⟩
  · exact Or.inl h
  · have : p = p' := (nI_eq (by omega) (by omega)).mp (e.symm.trans q1)
    subst this
    exact Or.inr ⟨r1, r2, r3, r4, r5, p + 1, q, t, o, w, rfl, by omega, by omega, q4⟩
theorem chOK.lr {g p : Nat} {lr lr' : Nat → Int32} {w n v : Int32} (h : chOK g p lr w n v) (hl : ∀ i, i < p → lr' i = lr i) : chOK g p lr' w n v := by
  rcases h with h | ⟨h1, i, a, b, h2, h3, h4, h5⟩ | h
  · exact Or.inl h
  · exact Or.inr (Or.inl ⟨h1, i, a, b, h2, h3, by rw [hl i h2]; exact h4, h5⟩)
  · exact Or.inr (Or.inr h)
theorem JC_add {p : Nat} {gc pc sz dn mdn mun : Int32} {lr nu wh we be mof mat mbf mbh : Nat → Int32} (h : JC gc pc lr sz dn nu wh we be mdn mun mof mat mbf mbh) (e : pc = nI p) (hp : p < 12) (x : Int32) : JC gc (nI (p + 1)) (upd lr p x) sz dn nu wh we be mdn mun mof mat mbf mbh := by
  obtain ⟨g, p', d, s, q1, q2, q3, q4, q5, q6, q7, q8, q9, q10, q11⟩ := h
  have : p = p' := (nI_eq (by omega) (by omega)).mp (e.symm.trans q2)
  subst this
  refine ⟨g, p + 1, d, s, q1, rfl, q3, by omega, q5, q6, q7, q8, q9, q10, fun k hk => ?_⟩
  obtain ⟨z1, z2, z3, z4, z5, z6⟩ := q11 k hk
  have hl : ∀ i, i < p → upd lr p x i = lr i := fun i hi => by simp [upd, show ¬ i = p by omega]
  exact ⟨z1, z2, z3, z4, (z5.lr hl).grow (Nat.le_refl _) (by omega), (z6.lr hl).grow (Nat.le_refl _) (by omega)⟩
