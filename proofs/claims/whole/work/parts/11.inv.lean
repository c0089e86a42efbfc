/-! the invariant: the class's cells beside the reference's -/
def JG (gc : Int32) (gr : Nat → Int32) (mc : Int32) (mr : Nat → Int32) : Prop :=
  ∃ g : Nat, g ≤ 3 ∧ gc = nI g ∧ mc = nI g ∧ ∀ k, k < g → mr k = gr k ∧ ∃ n : Nat, gr k = nI n ∧ 1 ≤ n ∧ n ≤ 6
def JP (pc : Int32) (lr rr cr : Nat → Int32) (mpc : Int32) (mlr mrr mcr : Nat → Int32) : Prop :=
  ∃ p : Nat, p ≤ 12 ∧ pc = nI p ∧ mpc = nI p ∧ ∀ k, k < p → mlr k = lr k ∧ mrr k = rr k ∧ mcr k = cr k ∧ ∃ a b c : Nat, lr k = nI a ∧ rr k = nI b ∧ cr k = nI c ∧ a < b ∧ b ≤ 60 ∧ 1 ≤ c ∧ c ≤ 9
def JD (pc now out gone : Int32) (pd : Nat → Int32) (mnow mout mgone : Int32) (mpd : Nat → Int32) : Prop :=
  mnow = now ∧ mout = out ∧ mgone = gone ∧ ∃ p t o w : Nat, p ≤ 12 ∧ pc = nI p ∧ now = nI t ∧ out = nI o ∧ gone = nI w ∧ t ≤ 60 ∧ o < 2 ^ p ∧ w < 2 ^ p ∧ o &&& w = o ∧ (∀ k, k < p → mpd k = pd k) ∧ ∀ k, p ≤ k → k < 12 → pd k = 0
def JT (tl : Int32) (tr : Nat → Int32) (mtl : Int32) (mtr : Nat → Int32) : Prop :=
  ∃ n : Nat, n ≤ 120 ∧ tl = nI n ∧ mtl = nI n ∧ ∀ k, k < n → ∃ b : Nat, b < 256 ∧ tr k = nI b ∧ mtr k = b8 (nI b)
def JI (pc im know kout kgone : Int32) (kpd : Nat → Int32) (mim mknow mkout mkgone mkp : Int32) (mkpd : Nat → Int32) : Prop :=
  (im = 0 ∧ mim = 0) ∨ (im = 1 ∧ mim = 1 ∧ mknow = know ∧ mkout = kout ∧ mkgone = kgone ∧ ∃ p q t o w : Nat, pc = nI p ∧ q ≤ p ∧ p ≤ 12 ∧ mkp = nI q ∧ know = nI t ∧ kout = nI o ∧ kgone = nI w ∧ t ≤ 60 ∧ o < 2 ^ q ∧ w < 2 ^ q ∧ o &&& w = o ∧ (∀ k, k < q → mkpd k = kpd k) ∧ ∀ k, q ≤ k → k < 12 → kpd k = 0)
def chOK (g p : Nat) (lr : Nat → Int32) (w n v : Int32) : Prop :=
  (w = 0 ∧ ∃ i c : Nat, i < p ∧ n = nI i ∧ v = nI c ∧ 1 ≤ c ∧ c ≤ 9) ∨ (w = 1 ∧ ∃ i a b : Nat, i < p ∧ n = nI i ∧ lr i = nI a ∧ v = nI b ∧ a < b ∧ b ≤ 60) ∨ (w = 2 ∧ ∃ i c : Nat, i < g ∧ n = nI i ∧ v = nI c ∧ 1 ≤ c ∧ c ≤ 6)
def JC (gc pc : Int32) (lr : Nat → Int32) (sz dn : Int32) (nu wh we be : Nat → Int32) (mdn mun : Int32) (mof mat mbf mbh : Nat → Int32) : Prop :=
  ∃ g p d s : Nat, gc = nI g ∧ pc = nI p ∧ g ≤ 3 ∧ p ≤ 12 ∧ d ≤ s ∧ s ≤ 40 ∧ sz = nI s ∧ dn = nI d ∧ mdn = nI d ∧ mun = nI (s - d) ∧ ∀ k, k < s → mof k = wh k ∧ mat k = nu k ∧ mbf k = we k ∧ mbh k = be k ∧ chOK g p lr (wh k) (nu k) (we k) ∧ chOK g p lr (wh k) (nu k) (be k)
def JB (bc : Int32) (kr : Nat → Int32) (ran : Int32) (beg : Nat → Int32) (mbc : Int32) (mkr : Nat → Int32) (mtr : Int32) (mtd : Nat → Int32) : Prop :=
  ∃ n r : Nat, n ≤ 50 ∧ r ≤ 1000 ∧ bc = nI n ∧ mbc = nI n ∧ ran = nI r ∧ mtr = nI r ∧ (∀ k, k < n → mkr k = kr k ∧ ∃ q : Nat, q < 8 ∧ kr k = nI q) ∧ ∀ k, k < r → k < 24 → mtd k = beg k
def sh1 (n : Nat) (b so sz : Int32) (e : Nat → Int64) (ho ms : Int32) (me : Nat → Int64) : Prop :=
  (b = -1 ∧ so = -1 ∧ ho = -1) ∨ (so = -1 ∧ ∃ i : Nat, i < n ∧ b = nI i ∧ ho = nI i) ∨ (b = -1 ∧ ∃ q z : Nat, q ≤ 4 ∧ z ≤ 60 ∧ so = nI q ∧ ho = -nI (q + 2) ∧ sz = nI z ∧ ms = nI z ∧ (∀ k, k < z → me k = e k) ∧ (q = 0 → ∀ k, k < z → -128 ≤ e k ∧ e k ≤ 127))
def JS (bc : Int32) (b so sz : Nat → Int32) (e : Nat → Nat → Int64) (ho ms : Nat → Int32) (me : Nat → Int64) : Prop :=
  ∃ n : Nat, n ≤ 50 ∧ bc = nI n ∧ ∀ s, s < 6 → sh1 n (b s) (so s) (sz s) (e s) (ho s) (ms s) (fun k => me (60 * s + k))
/-- a text: its lines, each a test (or none) and what it gives, as postfix steps -/
abbrev Sp2 : Type := Int32 × Int32
abbrev Lns : Type := List (List Sp2 × List Sp2)
def lnC (l : List Sp2 × List Sp2) : List Sp2 := (if l.1 = [] then [] else l.1 ++ [((63 : Int32), (0 : Int32))]) ++ l.2 ++ [((59 : Int32), (0 : Int32))]
def encS (s : Sp2) : Sp2 := if s.1 = 0 then (1, s.2) else if s.1 = 1 then (2, s.2) else if s.1 = 33 then (3, 0) else if s.1 = 2 then (4, 0) else s
/-- a run of steps on a pile of n values leaves m -/
def runs (n : Nat) : List Sp2 → Option Nat
  | [] => some n
  | s :: l => if s.1 = 0 then runs (n + 1) l else if s.1 = 1 then (if s.2 < 0 ∨ 6 ≤ s.2 then none else runs (n + 1) l) else if s.1 = 33 ∨ s.1 = 2 then (if n = 0 then none else runs n l) else if s.1 ∈ ([37, 38, 42, 43, 45, 47, 60, 61, 62, 124] : List Int32) then (if n < 2 then none else runs (n - 1) l) else none
def lnOK (l : List Sp2 × List Sp2) : Prop := runs 0 l.2 = some 1 ∧ (l.1 = [] ∨ runs 0 l.1 = some 1)
def JL1 (w : Nat) (told sz : Int32) (ops args : Nat → Int32) (has act wth lm te le : Nat → Int32) : Prop :=
  has w = told ∧ (told = 0 ∨ (told = 1 ∧ ∃ P : Lns, P.length ≤ 61 ∧ (∀ l ∈ P, lnOK l) ∧ (P.flatMap lnC).length ≤ 121 ∧ sz = nI (P.flatMap lnC).length ∧ (∀ k s, (P.flatMap lnC)[k]? = some s → ops k = s.1 ∧ args k = s.2) ∧
    lm w = nI P.length ∧ (∀ k s, (P.flatMap (fun l => l.1 ++ l.2))[k]? = some s → act (130 * w + k) = (encS s).1 ∧ wth (130 * w + k) = (encS s).2) ∧
    ∀ k l, P[k]? = some l → te (61 * w + k) = nI (((P.take k).flatMap (fun l => l.1 ++ l.2)).length + l.1.length) ∧ le (61 * w + k) = nI (((P.take (k + 1)).flatMap (fun l => l.1 ++ l.2)).length)))
def Inv (h : Hp) : Prop :=
  JG (gI h 1 1) (rI h 2) (gI h 55 1) (rI h 56) ∧
  JP (gI h 3 3) (rI h 4) (rI h 5) (rI h 6) (gI h 55 3) (rI h 57) (rI h 58) (rI h 59) ∧
  JD (gI h 3 3) (gI h 23 1) (gI h 23 2) (gI h 23 3) (rI h 24) (gI h 55 7) (gI h 55 8) (gI h 55 9) (rI h 60) ∧
  JT (gI h 0 3) (rI h 7) (gI h 55 18) (rI h 65) ∧
  JI (gI h 3 3) (gI h 0 7) (gI h 25 1) (gI h 25 2) (gI h 25 3) (rI h 26) (gI h 55 42) (gI h 55 43) (gI h 55 44) (gI h 55 45) (gI h 55 46) (rI h 80) ∧
  JC (gI h 1 1) (gI h 3 3) (rI h 4) (gI h 33 4) (gI h 33 5) (rI h 34) (rI h 35) (rI h 36) (rI h 37) (gI h 55 11) (gI h 55 12) (rI h 61) (rI h 62) (rI h 63) (rI h 64) ∧
  JB (gI h 39 2) (rI h 40) (gI h 39 3) (rI h 41) (gI h 55 48) (rI h 81) (gI h 55 50) (rI h 82) ∧
  JS (gI h 39 2) (shV h 1) (shV h 2) (shV h 3) (shE h) (rI h 83) (rI h 84) (rL h 85) ∧
  JL1 0 (gI h 10 4) (gI h 10 3) (rI h 11) (rI h 12) (rI h 73) (rI h 66) (rI h 67) (rI h 68) (rI h 69) (rI h 70) ∧
  JL1 1 (gI h 14 4) (gI h 14 3) (rI h 15) (rI h 16) (rI h 73) (rI h 66) (rI h 67) (rI h 68) (rI h 69) (rI h 70)
theorem chOK.grow {g p g' p' : Nat} {lr : Nat → Int32} {w n v : Int32} (h : chOK g p lr w n v) (hg : g ≤ g') (hp : p ≤ p') : chOK g' p' lr w n v := by
  rcases h with ⟨h1, i, c, h2, h3⟩ | ⟨h1, i, a, b, h2, h3⟩ | ⟨h1, i, c, h2, h3⟩
  · exact Or.inl ⟨h1, i, c, by omega, h3⟩
  · exact Or.inr (Or.inl ⟨h1, i, a, b, by omega, h3⟩)
  · exact Or.inr (Or.inr ⟨h1, i, c, by omega, h3⟩)
