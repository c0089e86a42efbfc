/-! heaps: the ints and the longs of the world's cells, by cell and place -/
abbrev Hp : Type := (Nat → Nat → Int32) × (Nat → Nat → Int64)
def gI (h : Hp) (a k : Nat) : Int32 := h.1 a k
def gL (h : Hp) (a k : Nat) : Int64 := h.2 a k
def sI (h : Hp) (a k : Nat) (v : Int32) : Hp := (fun b j => if b = a ∧ j = k then v else h.1 b j, h.2)
def sL (h : Hp) (a k : Nat) (v : Int64) : Hp := (h.1, fun b j => if b = a ∧ j = k then v else h.2 b j)
def cpI (h : Hp) (a b sp dp n : Nat) : Hp := (fun c j => if c = b then va_cpy (h.1 a) (h.1 b) sp dp n j else h.1 c j, h.2)
def cpL (h : Hp) (a b sp dp n : Nat) : Hp := (h.1, fun c j => if c = b then va_cpy (h.2 a) (h.2 b) sp dp n j else h.2 c j)
/-! the shape of the world: kinds of cells (below 20: objects of that class), lengths of arrays, what the fields of references hold -/
def nW : Nat := 87
def kdL : List Nat := [11, 4, 20, 8, 20, 20, 20, 20, 6, 20, 5, 20, 20, 20, 5, 20, 20, 20, 9, 5, 20, 20, 20, 3, 20, 3, 20, 2, 20, 20, 7, 20, 20, 1, 20, 20, 20, 20, 21, 0, 20, 20, 25, 10, 21, 10, 21, 10, 21, 10, 21, 10, 21, 10, 21, 12, 20, 20, 20, 20, 20, 20, 20, 20, 20, 22, 22, 20, 20, 23, 23, 20, 20, 24, 20, 20, 20, 20, 20, 20, 20, 20, 20, 20, 20, 21, 21]
def kd (a : Nat) : Nat := kdL.getD a 99
def lnL : List Nat := [0, 0, 3, 0, 12, 12, 12, 120, 0, 6, 0, 121, 121, 121, 0, 121, 121, 121, 0, 0, 121, 121, 121, 0, 12, 0, 12, 0, 12, 12, 0, 1024, 32, 0, 40, 40, 40, 40, 6, 0, 50, 24, 6, 0, 60, 0, 60, 0, 60, 0, 60, 0, 60, 0, 60, 0, 3, 12, 12, 12, 12, 40, 40, 40, 40, 120, 390, 390, 3, 183, 183, 6, 130, 2, 12, 12, 1024, 1024, 41, 100, 12, 50, 24, 6, 6, 360, 60]
def ln (a : Nat) : Nat := lnL.getD a 0
def rfL : List (List Nat) := [[1, 3, 7, 0, 8, 23, 25, 0, 27, 30, 33, 38, 39, 42], [2, 0], [], [4, 5, 6, 0], [], [], [], [], [9, 10, 14, 18], [], [11, 12, 13, 0, 0], [], [], [], [15, 16, 17, 0, 0], [], [], [], [19, 7, 0, 0, 0], [20, 21, 22, 0, 0], [], [], [], [24, 0, 0, 0], [], [26, 0, 0, 0], [], [1, 3, 8, 28, 29, 0, 0, 0, 0, 0, 0], [], [], [1, 3, 8, 31, 32, 0, 0], [], [], [34, 35, 36, 37, 0, 0], [], [], [], [], [], [40, 41, 0, 0, 0, 0], [], [], [43, 45, 47, 49, 51, 53], [44, 0, 0, 0], [], [46, 0, 0, 0], [], [48, 0, 0, 0], [], [50, 0, 0, 0], [], [52, 0, 0, 0], [], [54, 0, 0, 0], [], [0, 0, 56, 0, 57, 58, 59, 0, 0, 0, 60, 0, 0, 61, 62, 63, 64, 65, 0, 0, 0, 0, 0, 66, 67, 68, 69, 70, 71, 72, 73, 74, 75, 0, 0, 0, 0, 76, 77, 78, 79, 0, 0, 0, 0, 0, 0, 80, 0, 81, 0, 82, 83, 84, 85, 86], [], [], [], [], [], [], [], [], [], [], [], [], [], [], [], [], [], [], [], [], [], [], [], [], [], [], [], [], [], [], []]
def rf (a k : Nat) : Nat := (rfL.getD a []).getD k 0
def fkL : List (List Nat) := [[2, 2, 0, 0, 0, 0], [2, 2, 2, 2, 0, 0], [2, 2, 2, 2, 2, 0, 1, 0, 0, 0, 0], [2, 0, 0, 0], [2, 0], [2, 2, 2, 0, 0], [2, 2, 2, 2], [2, 2, 2, 2, 2, 0, 0], [2, 2, 2, 0], [2, 2, 0, 0, 0], [2, 0, 0, 0], [2, 2, 2, 0, 2, 2, 2, 0, 2, 2, 2, 2, 2, 2], [0, 0, 2, 0, 2, 2, 2, 0, 0, 0, 2, 0, 0, 2, 2, 2, 2, 2, 0, 0, 0, 0, 0, 2, 2, 2, 2, 2, 2, 2, 2, 2, 2, 0, 0, 0, 0, 2, 2, 2, 2, 0, 0, 0, 0, 0, 0, 2, 0, 2, 0, 2, 2, 2, 2, 2]]
def fk (c : Nat) : List Nat := fkL.getD c []
theorem kd_lt {a c : Nat} (h : kd a = c) (hc : c < 99) : a < nW := by
  rcases Nat.lt_or_ge a nW with q | q
  · exact q
  · exfalso
    have e : kd a = 99 := by
      unfold kd
      rw [List.getD_eq_getElem?_getD, List.getElem?_eq_none (Nat.le_trans (show kdL.length ≤ nW by decide +kernel) q)]
      rfl
    omega
/-! addresses and classes: ad, the arrays' classes by kind, the objects' classes, their slots -/
abbrev GG : Type := (Nat → Nat) × (Nat → ClassId) × (Nat → ClassId) × (Nat → Nat → Nat)
def fv (G : GG) (h : Hp) (a : Nat) (k t : Nat) : Value := if t = 0 then .int (h.1 a k) else if t = 1 then .long (h.2 a k) else .ref (G.1 (rf a k))
def ce (G : GG) (h : Hp) (a : Nat) : va_E :=
  if kd a < 20 then .inr (kd a, (fk (kd a)).mapIdx (fv G h a))
  else if kd a = 21 then .inl (G.2.1 21, ln a, .inr (.inl (h.2 a)))
  else if kd a = 25 then .inl (G.2.1 25, ln a, .inr (.inr (.inr (.inr (fun i => some (G.1 (rf a i)))))))
  else .inl (G.2.1 (kd a), ln a, .inl (h.1 a))
def cs (G : GG) (h : Hp) : va_W := (List.range nW).map (fun a => (G.1 a, ce G h a))
def tyG (G : GG) : List (ClassId × FieldType) := [(G.2.1 20, .int), (G.2.1 21, .long), (G.2.1 22, .byte), (G.2.1 23, .short), (G.2.1 24, .boolean), (G.2.1 25, .object "ThreeThrough$Shelf")]
def AG (G : GG) : Nat → Prop := fun q => ∃ a, a < nW ∧ q = G.1 a
def inj (G : GG) : Prop := ∀ a b, a < nW → b < nW → G.1 a = G.1 b → a = b
theorem cs_at (G : GG) (h : Hp) {a : Nat} (ha : a < nW) : (cs G h)[a]? = some (G.1 a, ce G h a) := by
  unfold cs
  rw [List.getElem?_map, List.getElem?_range ha]
  rfl
theorem cs_len (G : GG) (h : Hp) : (cs G h).length = nW := by simp [cs]
theorem cs_of {G : GG} {h : Hp} {k : Nat} {q : Nat × va_E} (e : (cs G h)[k]? = some q) : k < nW ∧ q = (G.1 k, ce G h k) := by
  have hk : k < nW := by
    have := (List.getElem?_eq_some_iff.mp e).1
    rwa [cs_len] at this
  rw [cs_at G h hk] at e
  exact ⟨hk, (Option.some.inj e).symm⟩
theorem cs_D {G : GG} (hG : inj G) (h : Hp) : va_D (AG G) (cs G h) := by
  refine ⟨fun i j p q hi hj e => ?_, fun k q hk => ?_⟩
  · obtain ⟨h1, rfl⟩ := cs_of hi
    obtain ⟨h2, rfl⟩ := cs_of hj
    exact hG i j h1 h2 e
  · obtain ⟨h1, rfl⟩ := cs_of hk
    exact ⟨k, h1, rfl⟩
theorem cs_set (G : GG) (h h' : Hp) {a : Nat} (e : va_E) (h1 : ce G h' a = e) (h2 : ∀ b, b < nW → b ≠ a → ce G h' b = ce G h b) : (cs G h).set a (G.1 a, e) = cs G h' := by
  apply List.ext_getElem?
  intro i
  rw [List.getElem?_set]
  by_cases hi : i < nW
  · by_cases hia : a = i
    · subst hia
      rw [if_pos rfl, cs_len, if_pos hi, cs_at G h' hi, h1]
    · rw [if_neg hia, cs_at G h hi, cs_at G h' hi, h2 i hi (fun e => hia e.symm)]
  · have n1 : (cs G h')[i]? = none := by rw [List.getElem?_eq_none_iff, cs_len]; omega
    have n2 : (cs G h)[i]? = none := by rw [List.getElem?_eq_none_iff, cs_len]; omega
    rw [n1]
    by_cases hia : a = i
    · subst hia
      rw [if_pos rfl, cs_len, if_neg hi]
    · rw [if_neg hia, n2]
theorem ce_obj {G : GG} {h : Hp} {a c : Nat} (hk : kd a = c) (hc : c < 20) : ce G h a = .inr (c, (fk c).mapIdx (fv G h a)) := by
  unfold ce
  rw [hk, if_pos hc]
theorem ce_int {G : GG} {h : Hp} {a c : Nat} (hk : kd a = c) (h1 : ¬ c < 20) (h2 : ¬ c = 21) (h3 : ¬ c = 25) : ce G h a = .inl (G.2.1 c, ln a, .inl (h.1 a)) := by
  unfold ce
  rw [hk, if_neg h1, if_neg h2, if_neg h3]
theorem ce_long {G : GG} {h : Hp} {a : Nat} (hk : kd a = 21) : ce G h a = .inl (G.2.1 21, ln a, .inr (.inl (h.2 a))) := by
  unfold ce
  rw [hk, if_neg (by decide), if_pos rfl]
theorem ce_ref {G : GG} {h : Hp} {a : Nat} (hk : kd a = 25) : ce G h a = .inl (G.2.1 25, ln a, .inr (.inr (.inr (.inr (fun i => some (G.1 (rf a i))))))) := by
  unfold ce
  rw [hk, if_neg (by decide), if_neg (by decide), if_pos rfl]
theorem ce_same {G : GG} {h h' : Hp} {b : Nat} (e1 : h'.1 b = h.1 b) (e2 : h'.2 b = h.2 b) : ce G h' b = ce G h b := by
  unfold ce
  have : fv G h' b = fv G h b := by
    funext k t
    unfold fv
    rw [e1, e2]
  rw [this, e1, e2]
theorem sI_1 (h : Hp) (a k : Nat) (v : Int32) : (sI h a k v).1 a = upd (h.1 a) k v := by
  funext j
  by_cases e : j = k <;> simp [sI, upd, e]
theorem sI_ne (h : Hp) {a b : Nat} (k : Nat) (v : Int32) (hb : b ≠ a) : (sI h a k v).1 b = h.1 b := by
  funext j
  simp [sI, hb]
theorem sL_1 (h : Hp) (a k : Nat) (v : Int64) : (sL h a k v).2 a = vp_updL (h.2 a) k v := by
  funext j
  by_cases e : j = k <;> simp [sL, vp_updL, e]
theorem sL_ne (h : Hp) {a b : Nat} (k : Nat) (v : Int64) (hb : b ≠ a) : (sL h a k v).2 b = h.2 b := by
  funext j
  simp [sL, hb]
theorem cs_setI (G : GG) (h : Hp) {a c k : Nat} (v : Int32) (hk : kd a = c) (hc : c < 20) (ht : (fk c)[k]? = some 0) : (cs G h).set a (G.1 a, .inr (c, ((fk c).mapIdx (fv G h a)).set k (.int v))) = cs G (sI h a k v) := by
  refine cs_set G h _ _ ?_ (fun b _ hb => ce_same (sI_ne h k v hb) rfl)
  rw [ce_obj hk hc]
  congr 2
  apply List.ext_getElem?
  intro j
  rw [List.getElem?_set, List.length_mapIdx, List.getElem?_mapIdx, List.getElem?_mapIdx]
  have hl : k < (fk c).length := (List.getElem?_eq_some_iff.mp ht).1
  by_cases e : k = j
  · subst e
    rw [if_pos rfl, if_pos hl, ht]
    simp [fv, sI]
  · rw [if_neg e]
    cases hj : (fk c)[j]? with
    | none => rfl
    | some t =>
      have e' : ¬ j = k := fun q => e q.symm
      simp [fv, sI, e']
theorem cs_setL (G : GG) (h : Hp) {a c k : Nat} (v : Int64) (hk : kd a = c) (hc : c < 20) (ht : (fk c)[k]? = some 1) : (cs G h).set a (G.1 a, .inr (c, ((fk c).mapIdx (fv G h a)).set k (.long v))) = cs G (sL h a k v) := by
  refine cs_set G h _ _ ?_ (fun b _ hb => ce_same rfl (sL_ne h k v hb))
  rw [ce_obj hk hc]
  congr 2
  apply List.ext_getElem?
  intro j
  rw [List.getElem?_set, List.length_mapIdx, List.getElem?_mapIdx, List.getElem?_mapIdx]
  have hl : k < (fk c).length := (List.getElem?_eq_some_iff.mp ht).1
  by_cases e : k = j
  · subst e
    rw [if_pos rfl, if_pos hl, ht]
    simp [fv, sL]
  · rw [if_neg e]
    cases hj : (fk c)[j]? with
    | none => rfl
    | some t =>
      have e' : ¬ j = k := fun q => e q.symm
      simp [fv, sL, e']
theorem cs_setA (G : GG) (h : Hp) {a c : Nat} (k : Nat) (v : Int32) (hk : kd a = c) (h1 : ¬ c < 20) (h2 : ¬ c = 21) (h3 : ¬ c = 25) : (cs G h).set a (G.1 a, .inl (G.2.1 c, ln a, .inl (upd (h.1 a) k v))) = cs G (sI h a k v) := by
  refine cs_set G h _ _ ?_ (fun b _ hb => ce_same (sI_ne h k v hb) rfl)
  rw [ce_int hk h1 h2 h3, sI_1]
theorem cs_setAL (G : GG) (h : Hp) {a : Nat} (k : Nat) (v : Int64) (hk : kd a = 21) : (cs G h).set a (G.1 a, .inl (G.2.1 21, ln a, .inr (.inl (vp_updL (h.2 a) k v)))) = cs G (sL h a k v) := by
  refine cs_set G h _ _ ?_ (fun b _ hb => ce_same rfl (sL_ne h k v hb))
  rw [ce_long hk, sL_1]
theorem cs_setC (G : GG) (h : Hp) {a b c : Nat} (sp dp n : Nat) (hk : kd b = c) (h1 : ¬ c < 20) (h2 : ¬ c = 21) (h3 : ¬ c = 25) : (cs G h).set b (G.1 b, .inl (G.2.1 c, ln b, .inl (va_cpy (h.1 a) (h.1 b) sp dp n))) = cs G (cpI h a b sp dp n) := by
  refine cs_set G h _ _ ?_ (fun x _ hb => ce_same (by funext j; simp [cpI, hb]) rfl)
  rw [ce_int hk h1 h2 h3]
  congr 4
  funext j
  simp [cpI]
theorem cs_setCL (G : GG) (h : Hp) {a b : Nat} (sp dp n : Nat) (hk : kd b = 21) : (cs G h).set b (G.1 b, .inl (G.2.1 21, ln b, .inr (.inl (va_cpy (h.2 a) (h.2 b) sp dp n)))) = cs G (cpL h a b sp dp n) := by
  refine cs_set G h _ _ ?_ (fun x _ hb => ce_same rfl (by funext j; simp [cpL, hb]))
  rw [ce_long hk]
  congr 5
  funext j
  simp [cpL]
/-! locals: a list, none where nothing is known -/
def lR (ls : Array Slot) (lo : List (Option Value)) : Prop := ls.size = lo.length ∧ lv_wf ls ∧ ∀ (i : Nat) (v : Value), lo[i]? = some (some v) → ls[i]? = some (.val v)
def asc (lo : List (Option Value)) : List (Nat × Value) := (List.range lo.length).filterMap (fun i => (lo.getD i none).map (fun v => (i, v)))
theorem asc_iff {lo : List (Option Value)} {i : Nat} {v : Value} : (i, v) ∈ asc lo ↔ lo[i]? = some (some v) := by
  unfold asc
  rw [List.mem_filterMap]
  constructor
  · rintro ⟨j, hj, e⟩
    have hl : j < lo.length := List.mem_range.mp hj
    rw [List.getD_eq_getElem?_getD, List.getElem?_eq_getElem hl] at e
    cases hv : lo[j] with
    | none => rw [hv] at e; simp at e
    | some w =>
      rw [hv] at e
      simp at e
      obtain ⟨rfl, rfl⟩ := e
      rw [List.getElem?_eq_getElem hl, hv]
  · intro e
    have hl := (List.getElem?_eq_some_iff.mp e).1
    refine ⟨i, List.mem_range.mpr hl, ?_⟩
    rw [List.getD_eq_getElem?_getD, e]
    rfl
theorem lR.has {ls : Array Slot} {lo : List (Option Value)} (h : lR ls lo) : lv_has ls lo.length (asc lo) := ⟨h.1, h.2.1, fun q hq => h.2.2 q.1 q.2 (asc_iff.mp hq)⟩
def lcat (o : Option Value) : Bool := match o with
  | some v => v.category != 2
  | none => true
theorem lR.st {ls : Array Slot} {lo : List (Option Value)} {i : Nat} {x : Value} (hi : i < lo.length) (hc : ∀ j v, j + 1 = i → lo[j]? = some (some v) → v.category ≠ 2) (h : lv_has ls lo.length ((i, x) :: (asc lo).filter (fun q => !(q.1 == i) && !(q.1 + 1 == i && q.2.category == 2)))) : lR ls (lo.set i (some x)) := by
  refine ⟨by rw [List.length_set]; exact h.1, h.2.1, fun j v hj => ?_⟩
  rw [List.getElem?_set] at hj
  by_cases e : i = j
  · subst e
    rw [if_pos rfl, if_pos hi] at hj
    cases hj
    exact h.2.2 (i, x) List.mem_cons_self
  · rw [if_neg e] at hj
    refine h.2.2 (j, v) (List.mem_cons_of_mem _ (List.mem_filter.mpr ⟨asc_iff.mpr hj, ?_⟩))
    have e' : ¬ j = i := fun q => e q.symm
    by_cases e2 : j + 1 = i
    · have := hc j v e2 hj
      simp [e', e2, this]
    · simp [e', e2]
theorem lR.st2 {ls : Array Slot} {lo : List (Option Value)} {i : Nat} {x : Value} (hi : i + 1 < lo.length) (hc : ∀ j v, j + 1 = i → lo[j]? = some (some v) → v.category ≠ 2) (h : lv_has ls lo.length ((i, x) :: (asc lo).filter (fun q => !(q.1 == i) && (!(q.1 == i + 1) && !(q.1 + 1 == i && q.2.category == 2))))) : lR ls ((lo.set i (some x)).set (i + 1) none) := by
  refine ⟨by rw [List.length_set, List.length_set]; exact h.1, h.2.1, fun j v hj => ?_⟩
  rw [List.getElem?_set, List.getElem?_set, List.length_set] at hj
  by_cases e0 : i + 1 = j
  · rw [if_pos e0, if_pos (by omega)] at hj
    cases hj
  · rw [if_neg e0] at hj
    by_cases e : i = j
    · subst e
      rw [if_pos rfl, if_pos (by omega)] at hj
      cases hj
      exact h.2.2 (i, x) List.mem_cons_self
    · rw [if_neg e] at hj
      refine h.2.2 (j, v) (List.mem_cons_of_mem _ (List.mem_filter.mpr ⟨asc_iff.mpr hj, ?_⟩))
      have e' : ¬ j = i := fun q => e q.symm
      have e0' : ¬ j = i + 1 := fun q => e0 q.symm
      by_cases e2 : j + 1 = i
      · have := hc j v e2 hj
        simp [e', e0', e2, this]
      · simp [e', e0', e2]
def lw : List (Option Value) → List (Option Value) → Prop
  | [], [] => True
  | a :: l, b :: l' => (b = none ∨ a = b) ∧ lw l l'
  | _, _ => False
theorem lw_spec : ∀ {lo lo' : List (Option Value)}, lw lo lo' → lo.length = lo'.length ∧ ∀ (i : Nat) (v : Value), lo'[i]? = some (some v) → lo[i]? = some (some v)
  | [], [], _ => ⟨rfl, fun _ _ h => h⟩
  | a :: l, b :: l', h => by
    obtain ⟨h1, h2⟩ := lw_spec h.2
    refine ⟨by simp [h1], fun i v hi => ?_⟩
    cases i with
    | zero =>
      simp at hi
      rcases h.1 with e | e
      · rw [e] at hi; cases hi
      · simp [e, hi]
    | succ i => simpa using h2 i v (by simpa using hi)
  | [], _ :: _, h => h.elim
  | _ :: _, [], h => h.elim
theorem lR.weak {ls : Array Slot} {lo lo' : List (Option Value)} (h : lR ls lo) (hw : lw lo lo') : lR ls lo' := ⟨by rw [← (lw_spec hw).1]; exact h.1, h.2.1, fun i v e => h.2.2 i v ((lw_spec hw).2 i v e)⟩
def sOp : Slot → Option Value
  | .val v => some v
  | _ => none
theorem lR_entry (vs : List Value) {n : Nat} (h : (lg_sl vs).length ≤ n) : lR ((lg_sl vs ++ List.replicate (n - (lg_sl vs).length) Slot.unset).toArray) ((lg_sl vs ++ List.replicate (n - (lg_sl vs).length) Slot.unset).map sOp) := by
  obtain ⟨h1, h2, -⟩ := lv_entry vs h
  refine ⟨by simp, h2, fun i v e => ?_⟩
  rw [List.getElem?_map] at e
  rw [List.getElem?_toArray]
  cases hs : (lg_sl vs ++ List.replicate (n - (lg_sl vs).length) Slot.unset)[i]? with
  | none => rw [hs] at e; cases e
  | some t =>
    rw [hs] at e
    simp only [Option.map_some, Option.some.injEq] at e
    cases t <;> simp [sOp] at e
    rw [e]
/-! the two tables of Bodies, which nobody writes -/
def abvL : List Int32 := [-1, 0, 0, 2, 1, 3, 0, 6]
def ownL : List Int32 := [1, 10, 11, 2, 20, 0, 0, 0, 0, 30, 0, 0, 0, 41, 40, 0, 0, 0, 0, 50, 0, 0, 60, 61, 70, 0, 0, 0, 81, 80, 0, 0]
def tAbv : Nat := 900
def tOwn : Nat := 901
def nsts : List (String × Nat × MethodName × String) := [(RX8, 21, yX11_isTime, "ThreeThrough"), (RX6, 70, yX11_bit, "ThreeThrough"), (RX3, 27, yX11_bit, "ThreeThrough"), (RX2, 111, yX11_bit, "ThreeThrough"), (RX8, 33, yX11_bit, "ThreeThrough")]
def nst (U : State) : Prop := ∀ q ∈ nsts, va_Nw (.methodLinkNest q.1 q.2.1 q.2.2.1 q.2.2.2) U
def st4 (G : GG) (U : State) (H : Heap) : Prop :=
  va_Z "ThreeThrough$Bodies" "ABOVE" "[I" (.ref (G.1 tAbv)) (AG G) U H ∧ va_T .int (G.1 tAbv) 8 (fun j => .int (abvL.getD j 0)) (AG G) U H ∧
  va_Z "ThreeThrough$Bodies" "OWN" "[I" (.ref (G.1 tOwn)) (AG G) U H ∧ va_T .int (G.1 tOwn) 32 (fun j => .int (ownL.getD j 0)) (AG G) U H
theorem st4.moved {G : GG} {u U : State} {H : Heap} (hvm : u.vm.Alike U.vm) (h : st4 G u H) : st4 G U H := ⟨h.1.moved hvm, h.2.1.moved hvm, h.2.2.1.moved hvm, h.2.2.2.moved hvm⟩
theorem st4.kept {G : GG} {U : State} {H H1 : Heap} (h : st4 G U H) (hq : ∀ a : Nat, a < H.size → ¬ AG G a → H1[a]? = H[a]?) : st4 G U H1 := ⟨h.1.kept hq, h.2.1.kept hq, h.2.2.1.kept hq, h.2.2.2.kept hq⟩
def stt (G : GG) (U : State) (H : Heap) : Prop := st4 G U H ∧ nst U
theorem stt.warm {G : GG} {u U : State} {H H1 : Heap} (hW : u.WarmedH U.vm) (hq : ∀ a : Nat, a < H.size → ¬ AG G a → H1[a]? = H[a]?) (h : stt G u H) : stt G U H1 := ⟨(h.1.kept hq).moved hW.alike, fun q hq => va_Nw.warmM hW (h.2 q hq)⟩
theorem stt.same {G : GG} {u U : State} {H : Heap} (hv : u.vm = U.vm) (h : stt G u H) : stt G U H := ⟨h.1.moved (by rw [hv]; exact Vm.Alike.refl U.vm), fun q hq => va_Nw.same rfl hv (h.2 q hq)⟩
theorem lw_n : lw [] [] := trivial
theorem lw_k {a : Option Value} {l l' : List (Option Value)} (h : lw l l') : lw (a :: l) (a :: l') := ⟨Or.inr rfl, h⟩
theorem lw_d {a : Option Value} {l l' : List (Option Value)} (h : lw l l') : lw (a :: l) (none :: l') := ⟨Or.inl rfl, h⟩
