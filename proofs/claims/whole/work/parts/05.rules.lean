/-! a frame's fixed surroundings, in one -/
abbrev XX : Type := Program × Launch × Env × Room × State × MethodId × Array Value × List Frame × Method × Code
def Cx (G : GG) (own : String) (cc : ByteArray) (nL : Nat) (ret : Option FieldType) (d kc ks : Nat) (X : XX) : Prop :=
  X.1.tables.exec = Jvm.exec ∧ X.2.2.2.2.2.2.2.2.2.code = cc ∧ X.2.2.2.2.2.2.2.2.2.maxLocals = nL ∧ X.2.2.2.2.2.2.2.2.1.sig.returnType = ret ∧ X.2.2.2.2.2.2.2.2.1.locks = false ∧
  X.2.2.2.2.1.vm.findClass own = some X.2.2.2.2.2.1.cls ∧ (∀ w ∈ WS, w.before X.2.2.2.2.2.2.1 X.2.2.2.2.1 = true) ∧ va_K (G.2.2.1, G.2.2.2) vwCl (tyG G) X.2.2.2.2.1 ∧ inj G ∧
  d ≤ X.2.2.2.1.frames ∧ 64 * d ≤ X.2.2.2.1.locals ∧ kc ≤ X.2.2.2.1.cells ∧ ks ≤ X.2.2.2.1.slots ∧ stt G X.2.2.2.2.1 X.2.2.2.2.1.heap
def R0 (G : GG) (X : XX) (kc ks : Nat) (Z : State → Prop) (pc : Nat) (lo : List (Option Value)) (st : List Value) (h : Hp) : Prop :=
  ∀ (H : Heap) (locs : List Loc) (ls : Array Slot), lR ls lo → va_P (G.2.2.1, G.2.2.2) vwCl (cs G h) H → va_S (AG G) X.2.2.2.2.1.heap H locs →
    W X.1 X.2.1 X.2.2.1 X.2.2.2.1 X.2.2.2.2.1 X.2.2.2.2.2.1 X.2.2.2.2.2.2.1 X.2.2.2.2.2.2.2.1 X.2.2.2.2.2.2.2.2.1 X.2.2.2.2.2.2.2.2.2 H locs kc ks Z (F0 X.2.2.2.2.2.1 pc ls st)
theorem it_t {c A B : Prop} [Decidable c] (hc : c) (h : if c then A else B) : A := by rwa [if_pos hc] at h
theorem it_f {c A B : Prop} [Decidable c] (hc : ¬ c) (h : if c then A else B) : B := by rwa [if_neg hc] at h
section RR
variable {G : GG} {X : XX} {own : String} {cc : ByteArray} {nL d kc ks : Nat} {ret : Option FieldType} {Z : State → Prop} {pc : Nat} {lo : List (Option Value)} {st : List Value} {h : Hp}
theorem r_weak (lo' : List (Option Value)) (hw : lw lo lo') (k : R0 G X kc ks Z pc lo' st h) : R0 G X kc ks Z pc lo st h := fun H locs ls hl hP hS => k H locs ls (hl.weak hw) hP hS
theorem r_topi {x : Int32} (k : ∀ y : Int32, y = x → R0 G X kc ks Z pc lo (.int y :: st) h) : R0 G X kc ks Z pc lo (.int x :: st) h := k x rfl
theorem r_topl {x : Int64} (k : ∀ y : Int64, y = x → R0 G X kc ks Z pc lo (.long y :: st) h) : R0 G X kc ks Z pc lo (.long x :: st) h := k x rfl
theorem r_toph (k : ∀ h' : Hp, h' = h → R0 G X kc ks Z pc lo st h') : R0 G X kc ks Z pc lo st h := k h rfl
theorem r_iconst {n : Int} (v : Int32) (C : Cx G own cc nL ret d kc ks X) (dd : decode cc pc = .ok (.iconst n, 1)) (hv : Int32.ofInt n = v) (k : R0 G X kc ks Z (pc + 1) lo (.int v :: st) h) : R0 G X kc ks Z pc lo (st) h := fun H locs ls hl hP hS => lv_iconst C.1 C.2.1 dd hv (k H locs ls hl hP hS)
theorem r_bipush {n : Int} (v : Int32) (C : Cx G own cc nL ret d kc ks X) (dd : decode cc pc = .ok (.bipush n, 2)) (hv : (Int8.ofInt n).toInt32 = v) (k : R0 G X kc ks Z (pc + 2) lo (.int v :: st) h) : R0 G X kc ks Z pc lo (st) h := fun H locs ls hl hP hS => lv_bipush C.1 C.2.1 dd hv (k H locs ls hl hP hS)
theorem r_sipush {n : Int} (v : Int32) (C : Cx G own cc nL ret d kc ks X) (dd : decode cc pc = .ok (.sipush n, 3)) (hv : (Int16.ofInt n).toInt32 = v) (k : R0 G X kc ks Z (pc + 3) lo (.int v :: st) h) : R0 G X kc ks Z pc lo (st) h := fun H locs ls hl hP hS => lv_sipush C.1 C.2.1 dd hv (k H locs ls hl hP hS)
theorem r_lconst {n : Fin 2} (v : Int64) (C : Cx G own cc nL ret d kc ks X) (dd : decode cc pc = .ok (.lconst n, 1)) (hv : Int64.ofNat (n : Nat) = v) (k : R0 G X kc ks Z (pc + 1) lo (.long v :: st) h) : R0 G X kc ks Z pc lo (st) h := fun H locs ls hl hP hS => lv_lconst C.1 C.2.1 dd hv (k H locs ls hl hP hS)
theorem r_iadd {x y : Int32} (C : Cx G own cc nL ret d kc ks X) (dd : decode cc pc = .ok (.iadd, 1)) (k : R0 G X kc ks Z (pc + 1) lo (.int (x + y) :: st) h) : R0 G X kc ks Z pc lo (.int y :: .int x :: st) h := fun H locs ls hl hP hS => lv_iadd C.1 C.2.1 dd (k H locs ls hl hP hS)
theorem r_isub {x y : Int32} (C : Cx G own cc nL ret d kc ks X) (dd : decode cc pc = .ok (.isub, 1)) (k : R0 G X kc ks Z (pc + 1) lo (.int (x - y) :: st) h) : R0 G X kc ks Z pc lo (.int y :: .int x :: st) h := fun H locs ls hl hP hS => lv_isub C.1 C.2.1 dd (k H locs ls hl hP hS)
theorem r_imul {x y : Int32} (C : Cx G own cc nL ret d kc ks X) (dd : decode cc pc = .ok (.imul, 1)) (k : R0 G X kc ks Z (pc + 1) lo (.int (x * y) :: st) h) : R0 G X kc ks Z pc lo (.int y :: .int x :: st) h := fun H locs ls hl hP hS => lv_imul C.1 C.2.1 dd (k H locs ls hl hP hS)
theorem r_iand {x y : Int32} (C : Cx G own cc nL ret d kc ks X) (dd : decode cc pc = .ok (.iand, 1)) (k : R0 G X kc ks Z (pc + 1) lo (.int (x &&& y) :: st) h) : R0 G X kc ks Z pc lo (.int y :: .int x :: st) h := fun H locs ls hl hP hS => lv_iand C.1 C.2.1 dd (k H locs ls hl hP hS)
theorem r_ior {x y : Int32} (C : Cx G own cc nL ret d kc ks X) (dd : decode cc pc = .ok (.ior, 1)) (k : R0 G X kc ks Z (pc + 1) lo (.int (x ||| y) :: st) h) : R0 G X kc ks Z pc lo (.int y :: .int x :: st) h := fun H locs ls hl hP hS => lv_ior C.1 C.2.1 dd (k H locs ls hl hP hS)
theorem r_ixor {x y : Int32} (C : Cx G own cc nL ret d kc ks X) (dd : decode cc pc = .ok (.ixor, 1)) (k : R0 G X kc ks Z (pc + 1) lo (.int (x ^^^ y) :: st) h) : R0 G X kc ks Z pc lo (.int y :: .int x :: st) h := fun H locs ls hl hP hS => lv_ixor C.1 C.2.1 dd (k H locs ls hl hP hS)
theorem r_ishl {x y : Int32} (C : Cx G own cc nL ret d kc ks X) (dd : decode cc pc = .ok (.ishl, 1)) (k : R0 G X kc ks Z (pc + 1) lo (.int (x <<< (y &&& 31)) :: st) h) : R0 G X kc ks Z pc lo (.int y :: .int x :: st) h := fun H locs ls hl hP hS => lv_ishl C.1 C.2.1 dd (k H locs ls hl hP hS)
theorem r_ishr {x y : Int32} (C : Cx G own cc nL ret d kc ks X) (dd : decode cc pc = .ok (.ishr, 1)) (k : R0 G X kc ks Z (pc + 1) lo (.int (x >>> (y &&& 31)) :: st) h) : R0 G X kc ks Z pc lo (.int y :: .int x :: st) h := fun H locs ls hl hP hS => lv_ishr C.1 C.2.1 dd (k H locs ls hl hP hS)
theorem r_idiv {x y : Int32} (C : Cx G own cc nL ret d kc ks X) (dd : decode cc pc = .ok (.idiv, 1)) (hne : ¬ y = 0) (k : R0 G X kc ks Z (pc + 1) lo (.int (x / y) :: st) h) : R0 G X kc ks Z pc lo (.int y :: .int x :: st) h := fun H locs ls hl hP hS => lv_idiv C.1 C.2.1 dd hne (k H locs ls hl hP hS)
theorem r_irem {x y : Int32} (C : Cx G own cc nL ret d kc ks X) (dd : decode cc pc = .ok (.irem, 1)) (hne : ¬ y = 0) (k : R0 G X kc ks Z (pc + 1) lo (.int (x - x / y * y) :: st) h) : R0 G X kc ks Z pc lo (.int y :: .int x :: st) h := fun H locs ls hl hP hS => lv_irem C.1 C.2.1 dd hne (k H locs ls hl hP hS)
theorem r_ladd {x y : Int64} (C : Cx G own cc nL ret d kc ks X) (dd : decode cc pc = .ok (.ladd, 1)) (k : R0 G X kc ks Z (pc + 1) lo (.long (x + y) :: st) h) : R0 G X kc ks Z pc lo (.long y :: .long x :: st) h := fun H locs ls hl hP hS => lv_ladd C.1 C.2.1 dd (k H locs ls hl hP hS)
theorem r_lsub {x y : Int64} (C : Cx G own cc nL ret d kc ks X) (dd : decode cc pc = .ok (.lsub, 1)) (k : R0 G X kc ks Z (pc + 1) lo (.long (x - y) :: st) h) : R0 G X kc ks Z pc lo (.long y :: .long x :: st) h := fun H locs ls hl hP hS => lv_lsub C.1 C.2.1 dd (k H locs ls hl hP hS)
theorem r_lmul {x y : Int64} (C : Cx G own cc nL ret d kc ks X) (dd : decode cc pc = .ok (.lmul, 1)) (k : R0 G X kc ks Z (pc + 1) lo (.long (x * y) :: st) h) : R0 G X kc ks Z pc lo (.long y :: .long x :: st) h := fun H locs ls hl hP hS => lv_lmul C.1 C.2.1 dd (k H locs ls hl hP hS)
theorem r_land {x y : Int64} (C : Cx G own cc nL ret d kc ks X) (dd : decode cc pc = .ok (.land, 1)) (k : R0 G X kc ks Z (pc + 1) lo (.long (x &&& y) :: st) h) : R0 G X kc ks Z pc lo (.long y :: .long x :: st) h := fun H locs ls hl hP hS => lv_land C.1 C.2.1 dd (k H locs ls hl hP hS)
theorem r_lor {x y : Int64} (C : Cx G own cc nL ret d kc ks X) (dd : decode cc pc = .ok (.lor, 1)) (k : R0 G X kc ks Z (pc + 1) lo (.long (x ||| y) :: st) h) : R0 G X kc ks Z pc lo (.long y :: .long x :: st) h := fun H locs ls hl hP hS => lv_lor C.1 C.2.1 dd (k H locs ls hl hP hS)
theorem r_ldiv {x y : Int64} (C : Cx G own cc nL ret d kc ks X) (dd : decode cc pc = .ok (.ldiv, 1)) (hne : ¬ y = 0) (k : R0 G X kc ks Z (pc + 1) lo (.long (x / y) :: st) h) : R0 G X kc ks Z pc lo (.long y :: .long x :: st) h := fun H locs ls hl hP hS => lv_ldiv C.1 C.2.1 dd hne (k H locs ls hl hP hS)
theorem r_lrem {x y : Int64} (C : Cx G own cc nL ret d kc ks X) (dd : decode cc pc = .ok (.lrem, 1)) (hne : ¬ y = 0) (k : R0 G X kc ks Z (pc + 1) lo (.long (x - x / y * y) :: st) h) : R0 G X kc ks Z pc lo (.long y :: .long x :: st) h := fun H locs ls hl hP hS => lv_lrem C.1 C.2.1 dd hne (k H locs ls hl hP hS)
theorem r_ineg {x : Int32} (C : Cx G own cc nL ret d kc ks X) (dd : decode cc pc = .ok (.ineg, 1)) (k : R0 G X kc ks Z (pc + 1) lo (.int (-x) :: st) h) : R0 G X kc ks Z pc lo (.int x :: st) h := fun H locs ls hl hP hS => lv_ineg C.1 C.2.1 dd (k H locs ls hl hP hS)
theorem r_i2l {x : Int32} (C : Cx G own cc nL ret d kc ks X) (dd : decode cc pc = .ok (.i2l, 1)) (k : R0 G X kc ks Z (pc + 1) lo (.long x.toInt64 :: st) h) : R0 G X kc ks Z pc lo (.int x :: st) h := fun H locs ls hl hP hS => lv_i2l C.1 C.2.1 dd rfl (k H locs ls hl hP hS)
theorem r_l2i {x : Int64} (C : Cx G own cc nL ret d kc ks X) (dd : decode cc pc = .ok (.l2i, 1)) (k : R0 G X kc ks Z (pc + 1) lo (.int x.toInt32 :: st) h) : R0 G X kc ks Z pc lo (.long x :: st) h := fun H locs ls hl hP hS => lv_l2i C.1 C.2.1 dd rfl (k H locs ls hl hP hS)
theorem r_i2b {x : Int32} (C : Cx G own cc nL ret d kc ks X) (dd : decode cc pc = .ok (.i2b, 1)) (k : R0 G X kc ks Z (pc + 1) lo (.int x.toInt8.toInt32 :: st) h) : R0 G X kc ks Z pc lo (.int x :: st) h := fun H locs ls hl hP hS => lv_i2b C.1 C.2.1 dd rfl (k H locs ls hl hP hS)
theorem r_i2s {x : Int32} (C : Cx G own cc nL ret d kc ks X) (dd : decode cc pc = .ok (.i2s, 1)) (k : R0 G X kc ks Z (pc + 1) lo (.int x.toInt16.toInt32 :: st) h) : R0 G X kc ks Z pc lo (.int x :: st) h := fun H locs ls hl hP hS => lv_i2s C.1 C.2.1 dd rfl (k H locs ls hl hP hS)
theorem r_iushr {x y : Int32} (C : Cx G own cc nL ret d kc ks X) (dd : decode cc pc = .ok (.iushr, 1)) (k : R0 G X kc ks Z (pc + 1) lo (.int (x.toUInt32 >>> (y.toUInt32 &&& Int32.toUInt32 31)).toInt32 :: st) h) : R0 G X kc ks Z pc lo (.int y :: .int x :: st) h := fun H locs ls hl hP hS => lv_iushr C.1 C.2.1 dd rfl (k H locs ls hl hP hS)
theorem r_lshl {x : Int64} {y : Int32} (C : Cx G own cc nL ret d kc ks X) (dd : decode cc pc = .ok (.lshl, 1)) (k : R0 G X kc ks Z (pc + 1) lo (.long (x <<< (y.toInt64 &&& 63)) :: st) h) : R0 G X kc ks Z pc lo (.int y :: .long x :: st) h := fun H locs ls hl hP hS => lv_lshl C.1 C.2.1 dd rfl (k H locs ls hl hP hS)
theorem r_lshr {x : Int64} {y : Int32} (C : Cx G own cc nL ret d kc ks X) (dd : decode cc pc = .ok (.lshr, 1)) (k : R0 G X kc ks Z (pc + 1) lo (.long (x >>> (y.toInt64 &&& 63)) :: st) h) : R0 G X kc ks Z pc lo (.int y :: .long x :: st) h := fun H locs ls hl hP hS => lv_lshr C.1 C.2.1 dd rfl (k H locs ls hl hP hS)
theorem r_lcmp {x y : Int64} (C : Cx G own cc nL ret d kc ks X) (dd : decode cc pc = .ok (.lcmp, 1)) (k : R0 G X kc ks Z (pc + 1) lo (.int (lg_cmp x y) :: st) h) : R0 G X kc ks Z pc lo (.long y :: .long x :: st) h := fun H locs ls hl hP hS => W.lcmp C.1 C.2.1 dd (k H locs ls hl hP hS)
theorem r_dup {va : Value} (C : Cx G own cc nL ret d kc ks X) (dd : decode cc pc = .ok (.dup, 1)) (hva : va.category = 1) (k : R0 G X kc ks Z (pc + 1) lo (va :: va :: st) h) : R0 G X kc ks Z pc lo (va :: st) h := fun H locs ls hl hP hS => lv_dup C.1 C.2.1 dd hva (k H locs ls hl hP hS)
theorem r_pop {va : Value} (C : Cx G own cc nL ret d kc ks X) (dd : decode cc pc = .ok (.pop, 1)) (hva : va.category = 1) (k : R0 G X kc ks Z (pc + 1) lo (st) h) : R0 G X kc ks Z pc lo (va :: st) h := fun H locs ls hl hP hS => lv_pop C.1 C.2.1 dd hva (k H locs ls hl hP hS)
theorem r_dup2_2 {va : Value} (C : Cx G own cc nL ret d kc ks X) (dd : decode cc pc = .ok (.dup2, 1)) (hva : va.category = 2) (k : R0 G X kc ks Z (pc + 1) lo (va :: va :: st) h) : R0 G X kc ks Z pc lo (va :: st) h := fun H locs ls hl hP hS => lv_dup2_2 C.1 C.2.1 dd hva (k H locs ls hl hP hS)
theorem r_dup2_11 {va vb : Value} (C : Cx G own cc nL ret d kc ks X) (dd : decode cc pc = .ok (.dup2, 1)) (hva : va.category = 1) (hvb : vb.category = 1) (k : R0 G X kc ks Z (pc + 1) lo (va :: vb :: va :: vb :: st) h) : R0 G X kc ks Z pc lo (va :: vb :: st) h := fun H locs ls hl hP hS => lv_dup2_11 C.1 C.2.1 dd hva hvb (k H locs ls hl hP hS)
theorem r_goto {off : Int} (tgt : Nat) (C : Cx G own cc nL ret d kc ks X) (dd : decode cc pc = .ok (.goto off, 3)) (ht : (pc : Int) + off = (tgt : Int)) (k : R0 G X kc ks Z tgt lo st h) : R0 G X kc ks Z pc lo st h := fun H locs ls hl hP hS => lv_goto C.1 C.2.1 dd ht (k H locs ls hl hP hS)
theorem r_ldc {index : Nat} (v : Int32) (C : Cx G own cc nL ret d kc ks X) (hw : Cond.constant own index v ∈ WS) (dd : decode cc pc = .ok (.ldc index, 2)) (k : R0 G X kc ks Z (pc + 2) lo (.int v :: st) h) : R0 G X kc ks Z pc lo st h := fun H locs ls hl hP hS => lv_ldc C.1 C.2.1 C.2.2.2.2.2.1 (C.2.2.2.2.2.2.1 _ hw) dd (k H locs ls hl hP hS)
theorem r_ldc_w {index : Nat} (v : Int32) (C : Cx G own cc nL ret d kc ks X) (hw : Cond.constant own index v ∈ WS) (dd : decode cc pc = .ok (.ldc_w index, 3)) (k : R0 G X kc ks Z (pc + 3) lo (.int v :: st) h) : R0 G X kc ks Z pc lo st h := fun H locs ls hl hP hS => lv_ldcw C.1 C.2.1 C.2.2.2.2.2.1 (C.2.2.2.2.2.2.1 _ hw) dd (k H locs ls hl hP hS)
theorem r_ldc2_w {index : Nat} (v : Int64) (C : Cx G own cc nL ret d kc ks X) (hw : Cond.constantLong own index v ∈ WS) (dd : decode cc pc = .ok (.ldc2_w index, 3)) (k : R0 G X kc ks Z (pc + 3) lo (.long v :: st) h) : R0 G X kc ks Z pc lo st h := fun H locs ls hl hP hS => lv_ldc2 C.1 C.2.1 C.2.2.2.2.2.1 (C.2.2.2.2.2.2.1 _ hw) dd (k H locs ls hl hP hS)
theorem r_iload_n {i : Fin 4} {x : Int32} (C : Cx G own cc nL ret d kc ks X) (dd : decode cc pc = .ok (.iload_n i, 1)) (hl0 : lo[(i : Nat)]? = some (some (.int x))) (k : R0 G X kc ks Z (pc + 1) lo (.int x :: st) h) : R0 G X kc ks Z pc lo st h := fun H locs ls hl hP hS => lv_iload_n C.1 C.2.1 dd rfl (hl.2.2 _ _ hl0) (k H locs ls hl hP hS)
theorem r_iload {i : Nat} {x : Int32} (C : Cx G own cc nL ret d kc ks X) (dd : decode cc pc = .ok (.iload i, 2)) (hl0 : lo[i]? = some (some (.int x))) (k : R0 G X kc ks Z (pc + 2) lo (.int x :: st) h) : R0 G X kc ks Z pc lo st h := fun H locs ls hl hP hS => lv_iload C.1 C.2.1 dd (hl.2.2 _ _ hl0) (k H locs ls hl hP hS)
theorem r_lload_n {i : Fin 4} {x : Int64} (C : Cx G own cc nL ret d kc ks X) (dd : decode cc pc = .ok (.lload_n i, 1)) (hl0 : lo[(i : Nat)]? = some (some (.long x))) (k : R0 G X kc ks Z (pc + 1) lo (.long x :: st) h) : R0 G X kc ks Z pc lo st h := fun H locs ls hl hP hS => lv_lload_n C.1 C.2.1 dd rfl (hl.2.2 _ _ hl0) (k H locs ls hl hP hS)
theorem r_lload {i : Nat} {x : Int64} (C : Cx G own cc nL ret d kc ks X) (dd : decode cc pc = .ok (.lload i, 2)) (hl0 : lo[i]? = some (some (.long x))) (k : R0 G X kc ks Z (pc + 2) lo (.long x :: st) h) : R0 G X kc ks Z pc lo st h := fun H locs ls hl hP hS => lv_lload C.1 C.2.1 dd (hl.2.2 _ _ hl0) (k H locs ls hl hP hS)
theorem r_aload_n {i : Fin 4} {x : Nat} (C : Cx G own cc nL ret d kc ks X) (dd : decode cc pc = .ok (.aload_n i, 1)) (hl0 : lo[(i : Nat)]? = some (some (.ref x))) (k : R0 G X kc ks Z (pc + 1) lo (.ref x :: st) h) : R0 G X kc ks Z pc lo st h := fun H locs ls hl hP hS => lv_aload_n C.1 C.2.1 dd rfl (hl.2.2 _ _ hl0) (k H locs ls hl hP hS)
theorem r_aload {i : Nat} {x : Nat} (C : Cx G own cc nL ret d kc ks X) (dd : decode cc pc = .ok (.aload i, 2)) (hl0 : lo[i]? = some (some (.ref x))) (k : R0 G X kc ks Z (pc + 2) lo (.ref x :: st) h) : R0 G X kc ks Z pc lo st h := fun H locs ls hl hP hS => lv_aload C.1 C.2.1 dd (hl.2.2 _ _ hl0) (k H locs ls hl hP hS)
def lcOK (lo : List (Option Value)) (i : Nat) : Bool := match i with
  | 0 => true
  | j + 1 => lcat (lo.getD j none)
theorem lcOK_use {lo : List (Option Value)} {i : Nat} (h : lcOK lo i = true) : ∀ (j : Nat) (v : Value), j + 1 = i → lo[j]? = some (some v) → v.category ≠ 2 := by
  intro j v e hj
  subst e
  simp only [lcOK, List.getD_eq_getElem?_getD, hj] at h
  simpa [lcat] using h
theorem lv_len {ls : Array Slot} {lo : List (Option Value)} (hl : lR ls lo) : lv_has ls lo.length (asc lo) := hl.has
theorem r_istore_n {i : Fin 4} {x : Int32} (lo' : List (Option Value)) (C : Cx G own cc nL ret d kc ks X) (dd : decode cc pc = .ok (.istore_n i, 1)) (hi : (i : Nat) < lo.length) (hc : lcOK lo (i : Nat) = true) (hs : lo.set (i : Nat) (some (.int x)) = lo') (k : R0 G X kc ks Z (pc + 1) lo' st h) : R0 G X kc ks Z pc lo (.int x :: st) h := fun H locs ls hl hP hS => lv_istore_n C.1 C.2.1 dd rfl hl.has hi rfl (fun ls' hl' => k H locs ls' (hs ▸ lR.st hi (lcOK_use hc) hl') hP hS)
theorem r_istore {i : Nat} {x : Int32} (lo' : List (Option Value)) (C : Cx G own cc nL ret d kc ks X) (dd : decode cc pc = .ok (.istore i, 2)) (hi : i < lo.length) (hc : lcOK lo i = true) (hs : lo.set i (some (.int x)) = lo') (k : R0 G X kc ks Z (pc + 2) lo' st h) : R0 G X kc ks Z pc lo (.int x :: st) h := fun H locs ls hl hP hS => lv_istore C.1 C.2.1 dd hl.has hi rfl (fun ls' hl' => k H locs ls' (hs ▸ lR.st hi (lcOK_use hc) hl') hP hS)
theorem r_lstore_n {i : Fin 4} {x : Int64} (lo' : List (Option Value)) (C : Cx G own cc nL ret d kc ks X) (dd : decode cc pc = .ok (.lstore_n i, 1)) (hi : (i : Nat) + 1 < lo.length) (hc : lcOK lo (i : Nat) = true) (hs : (lo.set (i : Nat) (some (.long x))).set ((i : Nat) + 1) none = lo') (k : R0 G X kc ks Z (pc + 1) lo' st h) : R0 G X kc ks Z pc lo (.long x :: st) h := fun H locs ls hl hP hS => lv_lstore_n C.1 C.2.1 dd rfl hl.has hi rfl (fun ls' hl' => k H locs ls' (hs ▸ lR.st2 hi (lcOK_use hc) hl') hP hS)
theorem r_lstore {i : Nat} {x : Int64} (lo' : List (Option Value)) (C : Cx G own cc nL ret d kc ks X) (dd : decode cc pc = .ok (.lstore i, 2)) (hi : i + 1 < lo.length) (hc : lcOK lo i = true) (hs : (lo.set i (some (.long x))).set (i + 1) none = lo') (k : R0 G X kc ks Z (pc + 2) lo' st h) : R0 G X kc ks Z pc lo (.long x :: st) h := fun H locs ls hl hP hS => lv_lstore C.1 C.2.1 dd hl.has hi rfl (fun ls' hl' => k H locs ls' (hs ▸ lR.st2 hi (lcOK_use hc) hl') hP hS)
theorem r_astore_n {i : Fin 4} {x : Nat} (lo' : List (Option Value)) (C : Cx G own cc nL ret d kc ks X) (dd : decode cc pc = .ok (.astore_n i, 1)) (hi : (i : Nat) < lo.length) (hc : lcOK lo (i : Nat) = true) (hs : lo.set (i : Nat) (some (.ref x)) = lo') (k : R0 G X kc ks Z (pc + 1) lo' st h) : R0 G X kc ks Z pc lo (.ref x :: st) h := fun H locs ls hl hP hS => lv_astore_n C.1 C.2.1 dd rfl hl.has hi rfl (fun ls' hl' => k H locs ls' (hs ▸ lR.st hi (lcOK_use hc) hl') hP hS)
theorem r_astore {i : Nat} {x : Nat} (lo' : List (Option Value)) (C : Cx G own cc nL ret d kc ks X) (dd : decode cc pc = .ok (.astore i, 2)) (hi : i < lo.length) (hc : lcOK lo i = true) (hs : lo.set i (some (.ref x)) = lo') (k : R0 G X kc ks Z (pc + 2) lo' st h) : R0 G X kc ks Z pc lo (.ref x :: st) h := fun H locs ls hl hP hS => lv_astore C.1 C.2.1 dd hl.has hi rfl (fun ls' hl' => k H locs ls' (hs ▸ lR.st hi (lcOK_use hc) hl') hP hS)
theorem asc_get {lo : List (Option Value)} {i : Nat} {v : Value} (h : lo[i]? = some (some v)) : ∃ k : Nat, (asc lo)[k]? = some (i, v) := List.getElem?_of_mem (asc_iff.mpr h)
theorem r_iinc {i : Nat} {n : Int} {x : Int32} (v : Int32) (lo' : List (Option Value)) (C : Cx G own cc nL ret d kc ks X) (dd : decode cc pc = .ok (.iinc i n, 3)) (hl0 : lo[i]? = some (some (.int x))) (hv : x + Int32.ofInt n = v) (hc : lcOK lo i = true) (hs : lo.set i (some (.int v)) = lo') (k : R0 G X kc ks Z (pc + 3) lo' st h) : R0 G X kc ks Z pc lo st h := by
  intro H locs ls hl hP hS
  obtain ⟨j, hj⟩ := asc_get hl0
  have hi : i < lo.length := (List.getElem?_eq_some_iff.mp hl0).1
  exact lv_iinc C.1 C.2.1 dd hl.has hj hv hi rfl (fun ls' hl' => k H locs ls' (hs ▸ lR.st hi (lcOK_use hc) hl') hP hS)
theorem r_if_eq {off : Int} {x : Int32} (tgt : Nat) (C : Cx G own cc nL ret d kc ks X) (dd : decode cc pc = .ok (.ifCond .eq off, 3)) (ht : (pc : Int) + off = (tgt : Int)) (kt : x = 0 → R0 G X kc ks Z tgt lo st h) (kf : ¬ x = 0 → R0 G X kc ks Z (pc + 3) lo st h) : R0 G X kc ks Z pc lo (.int x :: st) h := fun H locs ls hl hP hS => lv_if_eq C.1 C.2.1 dd ht (fun q => kt q H locs ls hl hP hS) (fun q => kf q H locs ls hl hP hS)
theorem r_icmp_eq {off : Int} {x y : Int32} (tgt : Nat) (C : Cx G own cc nL ret d kc ks X) (dd : decode cc pc = .ok (.if_icmp .eq off, 3)) (ht : (pc : Int) + off = (tgt : Int)) (kt : x = y → R0 G X kc ks Z tgt lo st h) (kf : ¬ x = y → R0 G X kc ks Z (pc + 3) lo st h) : R0 G X kc ks Z pc lo (.int y :: .int x :: st) h := fun H locs ls hl hP hS => lv_icmp_eq C.1 C.2.1 dd ht (fun q => kt q H locs ls hl hP hS) (fun q => kf q H locs ls hl hP hS)
theorem r_if_ne {off : Int} {x : Int32} (tgt : Nat) (C : Cx G own cc nL ret d kc ks X) (dd : decode cc pc = .ok (.ifCond .ne off, 3)) (ht : (pc : Int) + off = (tgt : Int)) (kt : ¬ x = 0 → R0 G X kc ks Z tgt lo st h) (kf : x = 0 → R0 G X kc ks Z (pc + 3) lo st h) : R0 G X kc ks Z pc lo (.int x :: st) h := fun H locs ls hl hP hS => lv_if_ne C.1 C.2.1 dd ht (fun q => kt q H locs ls hl hP hS) (fun q => kf q H locs ls hl hP hS)
theorem r_icmp_ne {off : Int} {x y : Int32} (tgt : Nat) (C : Cx G own cc nL ret d kc ks X) (dd : decode cc pc = .ok (.if_icmp .ne off, 3)) (ht : (pc : Int) + off = (tgt : Int)) (kt : ¬ x = y → R0 G X kc ks Z tgt lo st h) (kf : x = y → R0 G X kc ks Z (pc + 3) lo st h) : R0 G X kc ks Z pc lo (.int y :: .int x :: st) h := fun H locs ls hl hP hS => lv_icmp_ne C.1 C.2.1 dd ht (fun q => kt q H locs ls hl hP hS) (fun q => kf q H locs ls hl hP hS)
theorem r_if_lt {off : Int} {x : Int32} (tgt : Nat) (C : Cx G own cc nL ret d kc ks X) (dd : decode cc pc = .ok (.ifCond .lt off, 3)) (ht : (pc : Int) + off = (tgt : Int)) (kt : x < 0 → R0 G X kc ks Z tgt lo st h) (kf : ¬ x < 0 → R0 G X kc ks Z (pc + 3) lo st h) : R0 G X kc ks Z pc lo (.int x :: st) h := fun H locs ls hl hP hS => lv_if_lt C.1 C.2.1 dd ht (fun q => kt q H locs ls hl hP hS) (fun q => kf q H locs ls hl hP hS)
theorem r_icmp_lt {off : Int} {x y : Int32} (tgt : Nat) (C : Cx G own cc nL ret d kc ks X) (dd : decode cc pc = .ok (.if_icmp .lt off, 3)) (ht : (pc : Int) + off = (tgt : Int)) (kt : x < y → R0 G X kc ks Z tgt lo st h) (kf : ¬ x < y → R0 G X kc ks Z (pc + 3) lo st h) : R0 G X kc ks Z pc lo (.int y :: .int x :: st) h := fun H locs ls hl hP hS => lv_icmp_lt C.1 C.2.1 dd ht (fun q => kt q H locs ls hl hP hS) (fun q => kf q H locs ls hl hP hS)
theorem r_if_le {off : Int} {x : Int32} (tgt : Nat) (C : Cx G own cc nL ret d kc ks X) (dd : decode cc pc = .ok (.ifCond .le off, 3)) (ht : (pc : Int) + off = (tgt : Int)) (kt : x ≤ 0 → R0 G X kc ks Z tgt lo st h) (kf : ¬ x ≤ 0 → R0 G X kc ks Z (pc + 3) lo st h) : R0 G X kc ks Z pc lo (.int x :: st) h := fun H locs ls hl hP hS => lv_if_le C.1 C.2.1 dd ht (fun q => kt q H locs ls hl hP hS) (fun q => kf q H locs ls hl hP hS)
theorem r_icmp_le {off : Int} {x y : Int32} (tgt : Nat) (C : Cx G own cc nL ret d kc ks X) (dd : decode cc pc = .ok (.if_icmp .le off, 3)) (ht : (pc : Int) + off = (tgt : Int)) (kt : x ≤ y → R0 G X kc ks Z tgt lo st h) (kf : ¬ x ≤ y → R0 G X kc ks Z (pc + 3) lo st h) : R0 G X kc ks Z pc lo (.int y :: .int x :: st) h := fun H locs ls hl hP hS => lv_icmp_le C.1 C.2.1 dd ht (fun q => kt q H locs ls hl hP hS) (fun q => kf q H locs ls hl hP hS)
theorem r_if_ge {off : Int} {x : Int32} (tgt : Nat) (C : Cx G own cc nL ret d kc ks X) (dd : decode cc pc = .ok (.ifCond .ge off, 3)) (ht : (pc : Int) + off = (tgt : Int)) (kt : 0 ≤ x → R0 G X kc ks Z tgt lo st h) (kf : ¬ 0 ≤ x → R0 G X kc ks Z (pc + 3) lo st h) : R0 G X kc ks Z pc lo (.int x :: st) h := fun H locs ls hl hP hS => lv_if_ge C.1 C.2.1 dd ht (fun q => kt q H locs ls hl hP hS) (fun q => kf q H locs ls hl hP hS)
theorem r_icmp_ge {off : Int} {x y : Int32} (tgt : Nat) (C : Cx G own cc nL ret d kc ks X) (dd : decode cc pc = .ok (.if_icmp .ge off, 3)) (ht : (pc : Int) + off = (tgt : Int)) (kt : y ≤ x → R0 G X kc ks Z tgt lo st h) (kf : ¬ y ≤ x → R0 G X kc ks Z (pc + 3) lo st h) : R0 G X kc ks Z pc lo (.int y :: .int x :: st) h := fun H locs ls hl hP hS => lv_icmp_ge C.1 C.2.1 dd ht (fun q => kt q H locs ls hl hP hS) (fun q => kf q H locs ls hl hP hS)
theorem r_if_gt {off : Int} {x : Int32} (tgt : Nat) (C : Cx G own cc nL ret d kc ks X) (dd : decode cc pc = .ok (.ifCond .gt off, 3)) (ht : (pc : Int) + off = (tgt : Int)) (kt : 0 < x → R0 G X kc ks Z tgt lo st h) (kf : ¬ 0 < x → R0 G X kc ks Z (pc + 3) lo st h) : R0 G X kc ks Z pc lo (.int x :: st) h := fun H locs ls hl hP hS => lv_if_gt C.1 C.2.1 dd ht (fun q => kt q H locs ls hl hP hS) (fun q => kf q H locs ls hl hP hS)
theorem r_icmp_gt {off : Int} {x y : Int32} (tgt : Nat) (C : Cx G own cc nL ret d kc ks X) (dd : decode cc pc = .ok (.if_icmp .gt off, 3)) (ht : (pc : Int) + off = (tgt : Int)) (kt : y < x → R0 G X kc ks Z tgt lo st h) (kf : ¬ y < x → R0 G X kc ks Z (pc + 3) lo st h) : R0 G X kc ks Z pc lo (.int y :: .int x :: st) h := fun H locs ls hl hP hS => lv_icmp_gt C.1 C.2.1 dd ht (fun q => kt q H locs ls hl hP hS) (fun q => kf q H locs ls hl hP hS)
theorem r_tabIn {dflt lo1 hi1 off : Int} {offs : Array Int} {len : Nat} {x : Int32} (k0 : Int32) (tgt : Nat) (C : Cx G own cc nL ret d kc ks X) (dd : decode cc pc = .ok (.tableswitch dflt lo1 hi1 offs, len)) (hx : x = k0) (hh : (decide (¬ k0.toInt < lo1) && decide (¬ hi1 < k0.toInt) && decide (offs[(k0.toInt - lo1).toNat]? = some off) && decide ((pc : Int) + off = (tgt : Int))) = true) (k : R0 G X kc ks Z tgt lo st h) : R0 G X kc ks Z pc lo (.int x :: st) h := by
  subst hx
  simp only [Bool.and_eq_true, decide_eq_true_eq] at hh
  obtain ⟨⟨⟨h1, h2⟩, h3⟩, h4⟩ := hh
  exact fun H locs ls hl hP hS => lv_tableIn C.1 C.2.1 dd h1 h2 h3 h4 (k H locs ls hl hP hS)
theorem r_tabOut {dflt lo1 hi1 : Int} {offs : Array Int} {len : Nat} {x : Int32} (tgt : Nat) (C : Cx G own cc nL ret d kc ks X) (dd : decode cc pc = .ok (.tableswitch dflt lo1 hi1 offs, len)) (hx : x.toInt < lo1 ∨ hi1 < x.toInt) (ht : (pc : Int) + dflt = (tgt : Int)) (k : R0 G X kc ks Z tgt lo st h) : R0 G X kc ks Z pc lo (.int x :: st) h := fun H locs ls hl hP hS => lv_tableOut C.1 C.2.1 dd hx ht (k H locs ls hl hP hS)
theorem r_look {dflt : Int} {ps : Array (Int × Int)} {len : Nat} {x : Int32} {off : Int} (tgt : Nat) (C : Cx G own cc nL ret d kc ks X) (dd : decode cc pc = .ok (.lookupswitch dflt ps, len)) (hp : (ps.toList.zip (ps.toList.drop 1)).all (fun (a, next) => a.1 < next.1) = true) (ho : Op.lookupswitch.offset ps.toList dflt x.toInt = off) (ht : (pc : Int) + off = (tgt : Int)) (k : R0 G X kc ks Z tgt lo st h) : R0 G X kc ks Z pc lo (.int x :: st) h := fun H locs ls hl hP hS => lv_lookup C.1 C.2.1 dd hp ho ht (k H locs ls hl hP hS)
theorem r_getI {a c k0 index N : Nat} {T : u_T} {Cn ref : String} (C : Cx G own cc nL ret d kc ks X) (hk : kd a = c) (hq : vwCl[c]? = some (Cn, T, N) ∧ c < 20 ∧ k0 < N ∧ (fk c)[k0]? = some 0 ∧ ref = (T k0).1) (hin : ∀ w ∈ u_ws Cn T N, w ∈ WS) (hw : Cond.fieldLink own index ref (T k0).2.1 (T k0).2.2.1 ∈ WS) (dd : decode cc pc = .ok (.getfield index, 3)) (k : R0 G X kc ks Z (pc + 3) lo (.int (gI h a k0) :: st) h) : R0 G X kc ks Z pc lo (.ref (G.1 a) :: st) h := by
  obtain ⟨q1, q2, q3, q4, q5⟩ := hq
  subst q5
  intro H locs ls hl hP hS
  have he := cs_at G h (kd_lt hk (by omega))
  rw [ce_obj hk q2] at he
  exact va_get (v := .int (gI h a k0)) C.1 C.2.1 C.2.2.2.2.2.2.1 hin C.2.2.2.2.2.1 C.2.2.2.2.2.2.2.1 hP a he q1 k0 q3 (C.2.2.2.2.2.2.1 _ hw) (fun _ z => z) (by rw [List.getElem?_mapIdx, q4]; rfl) dd (k H locs ls hl hP hS)
theorem r_getL {a c k0 index N : Nat} {T : u_T} {Cn ref : String} (C : Cx G own cc nL ret d kc ks X) (hk : kd a = c) (hq : vwCl[c]? = some (Cn, T, N) ∧ c < 20 ∧ k0 < N ∧ (fk c)[k0]? = some 1 ∧ ref = (T k0).1) (hin : ∀ w ∈ u_ws Cn T N, w ∈ WS) (hw : Cond.fieldLink own index ref (T k0).2.1 (T k0).2.2.1 ∈ WS) (dd : decode cc pc = .ok (.getfield index, 3)) (k : R0 G X kc ks Z (pc + 3) lo (.long (gL h a k0) :: st) h) : R0 G X kc ks Z pc lo (.ref (G.1 a) :: st) h := by
  obtain ⟨q1, q2, q3, q4, q5⟩ := hq
  subst q5
  intro H locs ls hl hP hS
  have he := cs_at G h (kd_lt hk (by omega))
  rw [ce_obj hk q2] at he
  exact va_get (v := .long (gL h a k0)) C.1 C.2.1 C.2.2.2.2.2.2.1 hin C.2.2.2.2.2.1 C.2.2.2.2.2.2.2.1 hP a he q1 k0 q3 (C.2.2.2.2.2.2.1 _ hw) (fun _ z => z) (by rw [List.getElem?_mapIdx, q4]; rfl) dd (k H locs ls hl hP hS)
theorem r_getR {a c k0 index N : Nat} {T : u_T} {Cn ref : String} (C : Cx G own cc nL ret d kc ks X) (hk : kd a = c) (hq : vwCl[c]? = some (Cn, T, N) ∧ c < 20 ∧ k0 < N ∧ (fk c)[k0]? = some 2 ∧ ref = (T k0).1) (hin : ∀ w ∈ u_ws Cn T N, w ∈ WS) (hw : Cond.fieldLink own index ref (T k0).2.1 (T k0).2.2.1 ∈ WS) (dd : decode cc pc = .ok (.getfield index, 3)) (k : R0 G X kc ks Z (pc + 3) lo (.ref (G.1 (rf a k0)) :: st) h) : R0 G X kc ks Z pc lo (.ref (G.1 a) :: st) h := by
  obtain ⟨q1, q2, q3, q4, q5⟩ := hq
  subst q5
  intro H locs ls hl hP hS
  have he := cs_at G h (kd_lt hk (by omega))
  rw [ce_obj hk q2] at he
  exact va_get (v := .ref (G.1 (rf a k0))) C.1 C.2.1 C.2.2.2.2.2.2.1 hin C.2.2.2.2.2.1 C.2.2.2.2.2.2.2.1 hP a he q1 k0 q3 (C.2.2.2.2.2.2.1 _ hw) (fun _ z => z) (by rw [List.getElem?_mapIdx, q4]; rfl) dd (k H locs ls hl hP hS)
theorem r_putI {a c k0 index N : Nat} {T : u_T} {Cn ref : String} {ty0 : Nat → FieldType} {ty : FieldType} {v : Int32} (C : Cx G own cc nL ret d kc ks X) (hk : kd a = c) (hq : vwCl[c]? = some (Cn, T, N) ∧ c < 20 ∧ k0 < N ∧ (fk c)[k0]? = some 0 ∧ ref = (T k0).1) (hin : ∀ w ∈ u_ws Cn T N, w ∈ WS) (hty : ∀ k, k < N → parseFieldDescriptor (T k).2.2.1 = some (ty0 k)) (hnm : ∀ a, a < N → ∀ b, b < N → a ≠ b → (T a).2.1 ≠ (T b).2.1) (hp : (T k0).2.2.2 = false ∧ parseFieldDescriptor (T k0).2.2.1 = some ty) (hw : Cond.fieldLink own index ref (T k0).2.1 (T k0).2.2.1 ∈ WS) (hn : narrow ty (.int v) = .int v ∧ fits ty (.int v) = true) (dd : decode cc pc = .ok (.putfield index, 3)) (k : R0 G X kc ks Z (pc + 3) lo st (sI h a k0 v)) : R0 G X kc ks Z pc lo (.int v :: .ref (G.1 a) :: st) h := by
  obtain ⟨q1, q2, q3, q4, q5⟩ := hq
  subst q5
  intro H locs ls hl hP hS
  have he := cs_at G h (kd_lt hk (by omega))
  rw [ce_obj hk q2] at he
  have hl0 : k0 < ((fk c).mapIdx (fv G h a)).length := by rw [List.length_mapIdx]; exact (List.getElem?_eq_some_iff.mp q4).1
  refine va_put C.1 C.2.1 C.2.2.2.2.2.2.1 hin ty0 hty hnm C.2.2.2.2.2.1 C.2.2.2.2.2.2.2.1 hP (cs_D C.2.2.2.2.2.2.2.2.1 h) hS a he q1 k0 q3 (C.2.2.2.2.2.2.1 _ hw) (fun _ z => z) hp.1 hp.2 hn.1 hn.2 hl0 dd (fun H1 locs1 hP1 hD1 hS1 => ?_)
  rw [cs_setI G h v hk q2 q4] at hP1
  exact k H1 locs1 ls hl hP1 hS1
theorem r_putL {a c k0 index N : Nat} {T : u_T} {Cn ref : String} {ty0 : Nat → FieldType} {v : Int64} (C : Cx G own cc nL ret d kc ks X) (hk : kd a = c) (hq : vwCl[c]? = some (Cn, T, N) ∧ c < 20 ∧ k0 < N ∧ (fk c)[k0]? = some 1 ∧ ref = (T k0).1) (hin : ∀ w ∈ u_ws Cn T N, w ∈ WS) (hty : ∀ k, k < N → parseFieldDescriptor (T k).2.2.1 = some (ty0 k)) (hnm : ∀ a, a < N → ∀ b, b < N → a ≠ b → (T a).2.1 ≠ (T b).2.1) (hp : (T k0).2.2.2 = false ∧ parseFieldDescriptor (T k0).2.2.1 = some .long) (hw : Cond.fieldLink own index ref (T k0).2.1 (T k0).2.2.1 ∈ WS) (dd : decode cc pc = .ok (.putfield index, 3)) (k : R0 G X kc ks Z (pc + 3) lo st (sL h a k0 v)) : R0 G X kc ks Z pc lo (.long v :: .ref (G.1 a) :: st) h := by
  obtain ⟨q1, q2, q3, q4, q5⟩ := hq
  subst q5
  intro H locs ls hl hP hS
  have he := cs_at G h (kd_lt hk (by omega))
  rw [ce_obj hk q2] at he
  have hl0 : k0 < ((fk c).mapIdx (fv G h a)).length := by rw [List.length_mapIdx]; exact (List.getElem?_eq_some_iff.mp q4).1
  refine va_put C.1 C.2.1 C.2.2.2.2.2.2.1 hin ty0 hty hnm C.2.2.2.2.2.1 C.2.2.2.2.2.2.2.1 hP (cs_D C.2.2.2.2.2.2.2.2.1 h) hS a he q1 k0 q3 (C.2.2.2.2.2.2.1 _ hw) (fun _ z => z) hp.1 hp.2 rfl rfl hl0 dd (fun H1 locs1 hP1 hD1 hS1 => ?_)
  rw [cs_setL G h v hk q2 q4] at hP1
  exact k H1 locs1 ls hl hP1 hS1
theorem r_iald {a : Nat} {i : Int32} (C : Cx G own cc nL ret d kc ks X) (hk : kd a = 20) (hi : vp_in i (ln a)) (dd : decode cc pc = .ok (.iaload, 1)) (k : R0 G X kc ks Z (pc + 1) lo (.int (gI h a i.toNatClampNeg) :: st) h) : R0 G X kc ks Z pc lo (.int i :: .ref (G.1 a) :: st) h := by
  intro H locs ls hl hP hS
  have he := cs_at G h (kd_lt hk (by decide))
  rw [ce_int hk (by decide) (by decide) (by decide)] at he
  exact va_iald C.1 C.2.1 C.2.2.2.2.2.2.2.1 hP a 0 he rfl hi dd (k H locs ls hl hP hS)
theorem r_bald {a : Nat} {i : Int32} (C : Cx G own cc nL ret d kc ks X) (hk : kd a = 22) (hi : vp_in i (ln a)) (dd : decode cc pc = .ok (.baload, 1)) (k : R0 G X kc ks Z (pc + 1) lo (.int (gI h a i.toNatClampNeg) :: st) h) : R0 G X kc ks Z pc lo (.int i :: .ref (G.1 a) :: st) h := by
  intro H locs ls hl hP hS
  have he := cs_at G h (kd_lt hk (by decide))
  rw [ce_int hk (by decide) (by decide) (by decide)] at he
  exact va_bald C.1 C.2.1 C.2.2.2.2.2.2.2.1 hP a 2 he rfl hi dd (k H locs ls hl hP hS)
theorem r_sald {a : Nat} {i : Int32} (C : Cx G own cc nL ret d kc ks X) (hk : kd a = 23) (hi : vp_in i (ln a)) (dd : decode cc pc = .ok (.saload, 1)) (k : R0 G X kc ks Z (pc + 1) lo (.int (gI h a i.toNatClampNeg) :: st) h) : R0 G X kc ks Z pc lo (.int i :: .ref (G.1 a) :: st) h := by
  intro H locs ls hl hP hS
  have he := cs_at G h (kd_lt hk (by decide))
  rw [ce_int hk (by decide) (by decide) (by decide)] at he
  exact va_sald C.1 C.2.1 C.2.2.2.2.2.2.2.1 hP a 3 he rfl hi dd (k H locs ls hl hP hS)
theorem r_zald {a : Nat} {i : Int32} (C : Cx G own cc nL ret d kc ks X) (hk : kd a = 24) (hi : vp_in i (ln a)) (dd : decode cc pc = .ok (.baload, 1)) (k : R0 G X kc ks Z (pc + 1) lo (.int (gI h a i.toNatClampNeg) :: st) h) : R0 G X kc ks Z pc lo (.int i :: .ref (G.1 a) :: st) h := by
  intro H locs ls hl hP hS
  have he := cs_at G h (kd_lt hk (by decide))
  rw [ce_int hk (by decide) (by decide) (by decide)] at he
  exact va_zald C.1 C.2.1 C.2.2.2.2.2.2.2.1 hP a 4 he rfl hi dd (k H locs ls hl hP hS)
theorem r_lald {a : Nat} {i : Int32} (C : Cx G own cc nL ret d kc ks X) (hk : kd a = 21) (hi : vp_in i (ln a)) (dd : decode cc pc = .ok (.laload, 1)) (k : R0 G X kc ks Z (pc + 1) lo (.long (gL h a i.toNatClampNeg) :: st) h) : R0 G X kc ks Z pc lo (.int i :: .ref (G.1 a) :: st) h := by
  intro H locs ls hl hP hS
  have he := cs_at G h (kd_lt hk (by decide))
  rw [ce_long hk] at he
  exact va_lald C.1 C.2.1 C.2.2.2.2.2.2.2.1 hP a 1 he rfl hi dd (k H locs ls hl hP hS)
theorem r_aald {a : Nat} {i : Int32} (C : Cx G own cc nL ret d kc ks X) (hk : kd a = 25) (hi : vp_in i (ln a)) (dd : decode cc pc = .ok (.aaload, 1)) (k : R0 G X kc ks Z (pc + 1) lo (.ref (G.1 (rf a i.toNatClampNeg)) :: st) h) : R0 G X kc ks Z pc lo (.int i :: .ref (G.1 a) :: st) h := by
  intro H locs ls hl hP hS
  have he := cs_at G h (kd_lt hk (by decide))
  rw [ce_ref hk] at he
  exact va_aldq C.1 C.2.1 C.2.2.2.2.2.2.2.1 hP a 5 he rfl hi dd (k H locs ls hl hP hS)
theorem r_last {a : Nat} {i : Int32} {x : Int64} (C : Cx G own cc nL ret d kc ks X) (hk : kd a = 21) (hi : vp_in i (ln a)) (dd : decode cc pc = .ok (.lastore, 1)) (k : R0 G X kc ks Z (pc + 1) lo st (sL h a i.toNatClampNeg x)) : R0 G X kc ks Z pc lo (.long x :: .int i :: .ref (G.1 a) :: st) h := by
  intro H locs ls hl hP hS
  have he := cs_at G h (kd_lt hk (by decide))
  rw [ce_long hk] at he
  refine va_last C.1 C.2.1 C.2.2.2.2.2.2.2.1 hP (cs_D C.2.2.2.2.2.2.2.2.1 h) hS a 1 he rfl hi dd (fun H1 locs1 hP1 hD1 hS1 => ?_)
  rw [cs_setAL G h _ x hk] at hP1
  exact k H1 locs1 ls hl hP1 hS1
theorem r_iast {a : Nat} {i x : Int32} (C : Cx G own cc nL ret d kc ks X) (hk : kd a = 20) (hi : vp_in i (ln a)) (dd : decode cc pc = .ok (.iastore, 1)) (k : R0 G X kc ks Z (pc + 1) lo st (sI h a i.toNatClampNeg x)) : R0 G X kc ks Z pc lo (.int x :: .int i :: .ref (G.1 a) :: st) h := by
  intro H locs ls hl hP hS
  have he := cs_at G h (kd_lt hk (by decide))
  rw [ce_int hk (by decide) (by decide) (by decide)] at he
  refine va_iast C.1 C.2.1 C.2.2.2.2.2.2.2.1 hP (cs_D C.2.2.2.2.2.2.2.2.1 h) hS a 0 he rfl hi dd (fun H1 locs1 hP1 hD1 hS1 => ?_)
  rw [cs_setA G h _ x hk (by decide) (by decide) (by decide)] at hP1
  exact k H1 locs1 ls hl hP1 hS1
theorem r_bast {a : Nat} {i x : Int32} (C : Cx G own cc nL ret d kc ks X) (hk : kd a = 22) (hi : vp_in i (ln a)) (dd : decode cc pc = .ok (.bastore, 1)) (k : R0 G X kc ks Z (pc + 1) lo st (sI h a i.toNatClampNeg (vp_nar .byte x))) : R0 G X kc ks Z pc lo (.int x :: .int i :: .ref (G.1 a) :: st) h := by
  intro H locs ls hl hP hS
  have he := cs_at G h (kd_lt hk (by decide))
  rw [ce_int hk (by decide) (by decide) (by decide)] at he
  refine va_bast C.1 C.2.1 C.2.2.2.2.2.2.2.1 hP (cs_D C.2.2.2.2.2.2.2.2.1 h) hS a 2 he rfl hi dd (fun H1 locs1 hP1 hD1 hS1 => ?_)
  rw [cs_setA G h _ (vp_nar .byte x) hk (by decide) (by decide) (by decide)] at hP1
  exact k H1 locs1 ls hl hP1 hS1
theorem r_sast {a : Nat} {i x : Int32} (C : Cx G own cc nL ret d kc ks X) (hk : kd a = 23) (hi : vp_in i (ln a)) (dd : decode cc pc = .ok (.sastore, 1)) (k : R0 G X kc ks Z (pc + 1) lo st (sI h a i.toNatClampNeg (vp_nar .short x))) : R0 G X kc ks Z pc lo (.int x :: .int i :: .ref (G.1 a) :: st) h := by
  intro H locs ls hl hP hS
  have he := cs_at G h (kd_lt hk (by decide))
  rw [ce_int hk (by decide) (by decide) (by decide)] at he
  refine va_sast C.1 C.2.1 C.2.2.2.2.2.2.2.1 hP (cs_D C.2.2.2.2.2.2.2.2.1 h) hS a 3 he rfl hi dd (fun H1 locs1 hP1 hD1 hS1 => ?_)
  rw [cs_setA G h _ (vp_nar .short x) hk (by decide) (by decide) (by decide)] at hP1
  exact k H1 locs1 ls hl hP1 hS1
theorem r_zast {a : Nat} {i x : Int32} (C : Cx G own cc nL ret d kc ks X) (hk : kd a = 24) (hi : vp_in i (ln a)) (dd : decode cc pc = .ok (.bastore, 1)) (k : R0 G X kc ks Z (pc + 1) lo st (sI h a i.toNatClampNeg (vp_nar .boolean x))) : R0 G X kc ks Z pc lo (.int x :: .int i :: .ref (G.1 a) :: st) h := by
  intro H locs ls hl hP hS
  have he := cs_at G h (kd_lt hk (by decide))
  rw [ce_int hk (by decide) (by decide) (by decide)] at he
  refine va_zast C.1 C.2.1 C.2.2.2.2.2.2.2.1 hP (cs_D C.2.2.2.2.2.2.2.2.1 h) hS a 4 he rfl hi dd (fun H1 locs1 hP1 hD1 hS1 => ?_)
  rw [cs_setA G h _ (vp_nar .boolean x) hk (by decide) (by decide) (by decide)] at hP1
  exact k H1 locs1 ls hl hP1 hS1
theorem r_alen {a : Nat} {v : Int32} (C : Cx G own cc nL ret d kc ks X) (hk : kd a = 20) (hv : Int32.ofNat (ln a) = v) (dd : decode cc pc = .ok (.arraylength, 1)) (k : R0 G X kc ks Z (pc + 1) lo (.int v :: st) h) : R0 G X kc ks Z pc lo (.ref (G.1 a) :: st) h := by
  intro H locs ls hl hP hS
  have he := cs_at G h (kd_lt hk (by decide))
  rw [ce_int hk (by decide) (by decide) (by decide)] at he
  exact va_alen C.1 C.2.1 C.2.2.2.2.2.2.2.1 hP a 0 he rfl hv dd (k H locs ls hl hP hS)
theorem r_abv {index : Nat} (C : Cx G own cc nL ret d kc ks X) (hw : Cond.fieldLink own index "ThreeThrough$Bodies" "ABOVE" "[I" ∈ WS) (dd : decode cc pc = .ok (.getstatic index, 3)) (k : R0 G X kc ks Z (pc + 3) lo (.ref (G.1 tAbv) :: st) h) : R0 G X kc ks Z pc lo st h := fun H locs ls hl hP hS => va_gets C.1 C.2.1 C.2.2.2.2.2.2.2.2.2.2.2.2.2.1.1 hS C.2.2.2.2.2.1 (C.2.2.2.2.2.2.1 _ hw) (fun _ z => z) dd (k H locs ls hl hP hS)
theorem r_own {index : Nat} (C : Cx G own cc nL ret d kc ks X) (hw : Cond.fieldLink own index "ThreeThrough$Bodies" "OWN" "[I" ∈ WS) (dd : decode cc pc = .ok (.getstatic index, 3)) (k : R0 G X kc ks Z (pc + 3) lo (.ref (G.1 tOwn) :: st) h) : R0 G X kc ks Z pc lo st h := fun H locs ls hl hP hS => va_gets C.1 C.2.1 C.2.2.2.2.2.2.2.2.2.2.2.2.2.1.2.2.1 hS C.2.2.2.2.2.1 (C.2.2.2.2.2.2.1 _ hw) (fun _ z => z) dd (k H locs ls hl hP hS)
theorem r_abvi {i : Int32} (C : Cx G own cc nL ret d kc ks X) (hi : vp_in i 8) (dd : decode cc pc = .ok (.iaload, 1)) (k : R0 G X kc ks Z (pc + 1) lo (.int (abvL.getD i.toNatClampNeg 0) :: st) h) : R0 G X kc ks Z pc lo (.int i :: .ref (G.1 tAbv) :: st) h := fun H locs ls hl hP hS => va_ti C.1 C.2.1 C.2.2.2.2.2.2.2.2.2.2.2.2.2.1.2.1 hS hi rfl dd (k H locs ls hl hP hS)
theorem r_owni {i : Int32} (C : Cx G own cc nL ret d kc ks X) (hi : vp_in i 32) (dd : decode cc pc = .ok (.iaload, 1)) (k : R0 G X kc ks Z (pc + 1) lo (.int (ownL.getD i.toNatClampNeg 0) :: st) h) : R0 G X kc ks Z pc lo (.int i :: .ref (G.1 tOwn) :: st) h := fun H locs ls hl hP hS => va_ti C.1 C.2.1 C.2.2.2.2.2.2.2.2.2.2.2.2.2.1.2.2.2 hS hi rfl dd (k H locs ls hl hP hS)
/-! calls -/
def Pw (G : GG) (h : Hp) (U : State) : Prop := inj G ∧ va_P (G.2.2.1, G.2.2.2) vwCl (cs G h) U.heap ∧ va_K (G.2.2.1, G.2.2.2) vwCl (tyG G) U ∧ stt G U U.heap
def Qw (G : GG) (Q : Option Value → Hp → Prop) : Array Value → State → Outcome → State → Prop := fun _ s0 oc t => (∃ (r : Option Value) (h' : Hp), oc = .returned r ∧ Q r h' ∧ va_P (G.2.2.1, G.2.2.2) vwCl (cs G h') t.heap) ∧ va_F (AG G) s0 t
def rmD (n : Nat) : Room := { frames := n, cells := 0, slots := 0, locals := 64 * n }
/-- the contract of a method at a call: from the world h it returns r with the world h', and Q r h' -/
def CO (G : GG) (n : Nat) (y : MethodName) (bytes : ByteArray) (mL : Nat) (rt : Option FieldType) (av : List Value) (h : Hp) (Q : Option Value → Hp → Prop) : Prop :=
  ∀ l : Launch, Met l y (.code y bytes mL rt :: WS) (rmD n) (va_Pc av (Pw G h)) (Qw G Q) 0 0 (AG G)
def ZM (G : GG) (Q : Option Value → Hp → Prop) (X : XX) : State → Prop := MQ X.2.2.2.2.2.2.2.1 (Qw G Q) X.2.2.2.2.2.2.1 X.2.2.2.2.1 0 0 (AG G)
theorem CO_of {n mL : Nat} {y : MethodName} {bytes : ByteArray} {rt : Option FieldType} {av : List Value} {Q : Option Value → Hp → Prop} (lo0 : List (Option Value)) (hy : plainName y.cls = true) (hlen : (lg_sl av).length ≤ mL) (hlo : (lg_sl av ++ List.replicate (mL - (lg_sl av).length) Slot.unset).map sOp = lo0)
    (body : ∀ X : XX, Cx G y.cls bytes mL rt n 0 0 X → R0 G X 0 0 (ZM G Q X) 0 lo0 [] h) : CO G n y bytes mL rt av h Q := by
  intro l
  refine Met.ofW (cc := bytes) (maxL := mL) (ret := rt) hy rfl ?_
  intro p e s m args below meth c s₁ B hml hv
  obtain ⟨rfl, hinj, hP, hK, hst⟩ := hv
  have hts : ∀ w ∈ WS, w.before av.toArray s = true := fun w hw => atoms_spec (ws := .code y bytes mL rt :: WS) B.pre w (List.mem_cons_of_mem _ hw)
  have hown : s.vm.findClass y.cls = some m.cls := findClass_of_methodNamed B.named
  have hC : Cx G y.cls bytes mL rt n 0 0 (p, l, e, rmD n, s, m, av.toArray, below, meth, c) := ⟨B.exec, B.bytes, hml, B.returns, B.notSynchronized, hown, hts, hK, hinj, Nat.le_refl _, Nat.le_refl _, Nat.le_refl _, Nat.le_refl _, hst⟩
  rw [lg_entry_eq]
  have hl := lR_entry av hlen
  rw [hlo] at hl
  exact body _ hC s.heap [] _ hl hP va_S.rf
theorem Pw_blind {av : List Value} : FrameBlind (va_Pc av (Pw G h)) := fun a U g mk q => ⟨q.1, q.2.1, q.2.2.1, va_K.moved (u := U) (U := U.calling g mk a) (Vm.Alike.refl U.vm) q.2.2.2.1, stt.same (u := U) (U := U.calling g mk a) rfl q.2.2.2.2⟩
theorem r_after {a0 : Array Value} {rest st0 : List Value} {Q : Option Value → Hp → Prop} {p : Program} {l : Launch} {e : Env} {R : Room} {s : State} {m : MethodId} {args : Array Value} {below : List Frame} {meth : Method} {c : Code} {H : Heap} {locs : List Loc} {ls : Array Slot}
    (hr : va_Run p l e R s m args below meth c H locs kc ks 0 0 (F0 m pc ls st0) rest (Qw G Q a0) (AG G)) (hS : va_S (AG G) s.heap H locs)
    (kk : ∀ (r : Option Value) (h' : Hp) (H1 : Heap) (locs1 : List Loc), Q r h' → va_P (G.2.2.1, G.2.2.2) vwCl (cs G h') H1 → va_S (AG G) s.heap H1 locs1 → W p l e R s m args below meth c H1 locs1 kc ks Z (F0 m (pc + 3) ls (r.toList ++ rest))) : W p l e R s m args below meth c H locs kc ks Z (F0 m pc ls st0) := by
  intro T hT Xs
  obtain ⟨v, st₀, t, T', L, h0, X', hL, e1, e2, ⟨⟨r, h', hv, hq, hP'⟩, hz, hk⟩, step⟩ := hr T hT Xs
  cases hv
  rw [h0] at hz hk
  obtain ⟨t2, a1, b1⟩ := kk v h' T'.heap (locs ++ L) hq (by rw [e1]; exact hP') ⟨Nat.le_trans hS.1 (by rw [e1]; exact hz), fun q h1 h2 => by rw [e1, hk q (Nat.lt_of_lt_of_le h1 hS.1) h2]; exact hS.2.1 q h1 h2, fun q hq' => by
      rcases List.mem_append.mp hq' with h | h
      · exact hS.2.2 q h
      · exact hL q h⟩ T' rfl X'
  exact ⟨t2, step t2 a1, b1⟩
theorem pre_now {av : List Value} {H : Heap} {locs : List Loc} (C : Cx G own cc nL ret d kc ks X) (hP : va_P (G.2.2.1, G.2.2.2) vwCl (cs G h) H) (hS : va_S (AG G) X.2.2.2.2.1.heap H locs) : ∀ U : State, U.heap = H → X.2.2.2.2.1.WarmedH U.vm → va_Pc av (Pw G h) av.toArray U := fun U hU hW =>
  ⟨rfl, C.2.2.2.2.2.2.2.2.1, by rw [hU]; exact hP, va_K.moved hW.alike C.2.2.2.2.2.2.2.1, by rw [hU]; exact C.2.2.2.2.2.2.2.2.2.2.2.2.2.warm hW (fun a h1 h2 => hS.2.1 a h1 h2)⟩
theorem r_callV {a c n N : Nat} {T : u_T} {y : MethodName} {bytes : ByteArray} {mL np index : Nat} {rt : Option FieldType} {As : List Value} {st0 : List Value} {Q : Option Value → Hp → Prop} (C : Cx G own cc nL ret d kc ks X) (hk : kd a = c) (hq : vwCl[c]? = some (y.cls, T, N) ∧ c < 20)
    (hw : Cond.methodLink own index y ∈ WS ∧ Cond.instanceMethod y ∈ WS ∧ Cond.selects y.cls y y ∈ WS ∧ Cond.initialized y.cls ∈ WS ∧ Cond.code y bytes mL rt ∈ WS)
    (hd : y.cls ≠ "java/lang/invoke/MethodHandle" ∧ y.cls ≠ "java/lang/invoke/VarHandle" ∧ (parseMethodDescriptor y.desc).map (fun d => d.parameters.length) = some np) (hR : n + 1 ≤ d ∧ mL ≤ 45) (dd : decode cc pc = .ok (.invokevirtual index, 3))
    (hM : CO G n y bytes mL rt (.ref (G.1 a) :: As) h Q) (hs : st0 = As.reverse ++ .ref (G.1 a) :: st) (hn : As.length = np) (hlo : lo.length = nL) (hr : (st.map fun v => v.category).sum ≤ 8) (k : ∀ (r : Option Value) (h' : Hp), Q r h' → R0 G X kc ks Z (pc + 3) lo (r.toList ++ st) h') : R0 G X kc ks Z pc lo st0 h := by
  obtain ⟨w1, w2, w3, w4, w5⟩ := hw
  obtain ⟨q1, q2⟩ := hq
  subst hs
  intro H locs ls hl hP hS
  have he := cs_at G h (kd_lt hk (by omega))
  rw [ce_obj hk q2] at he
  obtain ⟨r1, r2⟩ := hR
  have c1 := C.2.2.2.2.2.2.2.2.2.1
  have c2 := C.2.2.2.2.2.2.2.2.2.2.1
  have hT : GoodIn WS (wsV own index y.cls y (.code y bytes mL rt :: WS)) := ws_goodIn (fun w hw => by
    simp only [wsV, List.cons_append, List.nil_append, List.mem_cons] at hw
    rcases hw with rfl | rfl | rfl | rfl | rfl | hw
    · exact w1
    · exact w2
    · exact w3
    · exact w4
    · exact w5
    · exact hw)
  have hrun := va_runV (rest := st) (g := F0 X.2.2.2.2.2.1 pc ls (As.reverse ++ .ref (G.1 a) :: st)) (cells := kc) (slots := ks) (e := X.2.2.1) (below := X.2.2.2.2.2.2.2.1) (meth := X.2.2.2.2.2.2.2.2.1) (locs := locs) (H := H) (R := X.2.2.2.1) ⟨C.1, C.2.1, C.2.2.1, C.2.2.2.2.2.1, C.2.2.2.2.2.2.1⟩ (hM X.2.1) (cwV (rm := rmD n) (mc := 0) (ms := 0) np C.2.2.2.2.2.2.1 hT rfl rfl rfl ⟨rfl, hd⟩ ⟨Nat.le_trans r1 c1, by show 8 + (mL + 11) + 64 * n ≤ _; omega⟩)
    ⟨Pw_blind, va_recv C.2.2.2.2.2.2.2.1 hP (ci := c) (q0 := a) q1 he, pre_now C hP hS⟩ rfl hn (hl.1.trans hlo) rfl (lv_room hr) dd ⟨by have := C.2.2.2.2.2.2.2.2.2.2.2.1; omega, by have := C.2.2.2.2.2.2.2.2.2.2.2.2.1; omega⟩
  exact r_after hrun hS (fun r h' H1 locs1 hq hP1 hS1 => k r h' hq H1 locs1 ls hl hP1 hS1)

theorem r_callS {n : Nat} {y : MethodName} {bytes : ByteArray} {mL np index : Nat} {rt : Option FieldType} {As : List Value} {st0 : List Value} {Q : Option Value → Hp → Prop} (C : Cx G own cc nL ret d kc ks X)
    (hw : Cond.methodLink own index y ∈ WS ∧ Cond.static y ∈ WS ∧ Cond.initialized y.cls ∈ WS ∧ Cond.code y bytes mL rt ∈ WS)
    (hd : y.cls ≠ "java/lang/invoke/MethodHandle" ∧ y.cls ≠ "java/lang/invoke/VarHandle" ∧ (parseMethodDescriptor y.desc).map (fun d => d.parameters.length) = some np) (hR : n + 1 ≤ d ∧ mL ≤ 45) (dd : decode cc pc = .ok (.invokestatic index, 3))
    (hM : CO G n y bytes mL rt As h Q) (hs : st0 = As.reverse ++ st) (hn : As.length = np) (hlo : lo.length = nL) (hr : (st.map fun v => v.category).sum ≤ 8) (k : ∀ (r : Option Value) (h' : Hp), Q r h' → R0 G X kc ks Z (pc + 3) lo (r.toList ++ st) h') : R0 G X kc ks Z pc lo st0 h := by
  obtain ⟨w1, w2, w4, w5⟩ := hw
  subst hs
  intro H locs ls hl hP hS
  obtain ⟨r1, r2⟩ := hR
  have c1 := C.2.2.2.2.2.2.2.2.2.1
  have c2 := C.2.2.2.2.2.2.2.2.2.2.1
  have hT : GoodIn WS (va_wsS own index y (.code y bytes mL rt :: WS)) := ws_goodIn (fun w hw => by
    simp only [va_wsS, List.cons_append, List.nil_append, List.mem_cons] at hw
    rcases hw with rfl | rfl | rfl | rfl | hw
    · exact w1
    · exact w2
    · exact w4
    · exact w5
    · exact hw)
  have hrun := va_runS (rest := st) (g := F0 X.2.2.2.2.2.1 pc ls (As.reverse ++ st)) (cells := kc) (slots := ks) (e := X.2.2.1) (below := X.2.2.2.2.2.2.2.1) (meth := X.2.2.2.2.2.2.2.2.1) (locs := locs) (H := H) (R := X.2.2.2.1) ⟨C.1, C.2.1, C.2.2.1, C.2.2.2.2.2.1, C.2.2.2.2.2.2.1⟩ (hM X.2.1) (va_cwS (rm := rmD n) (mc := 0) (ms := 0) np C.2.2.2.2.2.2.1 hT rfl rfl rfl hd ⟨Nat.le_trans r1 c1, by show 8 + (mL + 11) + 64 * n ≤ _; omega⟩)
    ⟨Pw_blind, pre_now C hP hS⟩ rfl hn (hl.1.trans hlo) rfl (lv_room hr) dd ⟨by have := C.2.2.2.2.2.2.2.2.2.2.2.1; omega, by have := C.2.2.2.2.2.2.2.2.2.2.2.2.1; omega⟩
  exact r_after hrun hS (fun r h' H1 locs1 hq hP1 hS1 => k r h' hq H1 locs1 ls hl hP1 hS1)
theorem r_callSN {n : Nat} {y : MethodName} {bytes : ByteArray} {mL np index : Nat} {host : String} {rt : Option FieldType} {As : List Value} {st0 : List Value} {Q : Option Value → Hp → Prop} (C : Cx G own cc nL ret d kc ks X)
    (hw : (own, index, y, host) ∈ nsts ∧ Cond.static y ∈ WS ∧ Cond.initialized y.cls ∈ WS ∧ Cond.code y bytes mL rt ∈ WS)
    (hd : y.cls ≠ "java/lang/invoke/MethodHandle" ∧ y.cls ≠ "java/lang/invoke/VarHandle" ∧ (parseMethodDescriptor y.desc).map (fun d => d.parameters.length) = some np) (hR : n + 1 ≤ d ∧ mL ≤ 45) (dd : decode cc pc = .ok (.invokestatic index, 3))
    (hM : CO G n y bytes mL rt As h Q) (hs : st0 = As.reverse ++ st) (hn : As.length = np) (hlo : lo.length = nL) (hr : (st.map fun v => v.category).sum ≤ 8) (k : ∀ (r : Option Value) (h' : Hp), Q r h' → R0 G X kc ks Z (pc + 3) lo (r.toList ++ st) h') : R0 G X kc ks Z pc lo st0 h := by
  obtain ⟨w1, w2, w4, w5⟩ := hw
  subst hs
  intro H locs ls hl hP hS
  obtain ⟨r1, r2⟩ := hR
  have c1 := C.2.2.2.2.2.2.2.2.2.1
  have c2 := C.2.2.2.2.2.2.2.2.2.2.1
  have hT : GoodIn WS (.code y bytes mL rt :: WS) := ws_goodIn (fun w hw => by
    rcases List.mem_cons.mp hw with rfl | hw
    · exact w5
    · exact hw)
  have hrun := va_runSN (rest := st) (g := F0 X.2.2.2.2.2.1 pc ls (As.reverse ++ st)) (cells := kc) (slots := ks) (e := X.2.2.1) (below := X.2.2.2.2.2.2.2.1) (meth := X.2.2.2.2.2.2.2.2.1) (locs := locs) (H := H) (R := X.2.2.2.1) ⟨C.1, C.2.1, C.2.2.1, C.2.2.2.2.2.1, C.2.2.2.2.2.2.1⟩ (hM X.2.1) ⟨va_cnB (rm := rmD n) (mc := 0) (ms := 0) np C.2.2.2.2.2.2.1 hT rfl rfl rfl (C.2.2.2.2.2.2.2.2.2.2.2.2.2.2 _ w1) (C.2.2.2.2.2.2.1 _ w4) hd ⟨Nat.le_trans r1 c1, by show 8 + (mL + 11) + 64 * n ≤ _; omega⟩, C.2.2.2.2.2.2.1 _ w2, trivial⟩
    ⟨Pw_blind, pre_now C hP hS⟩ rfl hn (hl.1.trans hlo) rfl (lv_room hr) dd ⟨by have := C.2.2.2.2.2.2.2.2.2.2.2.1; omega, by have := C.2.2.2.2.2.2.2.2.2.2.2.2.1; omega⟩
  exact r_after hrun hS (fun r h' H1 locs1 hq hP1 hS1 => k r h' hq H1 locs1 ls hl hP1 hS1)
/-! returns -/
theorem end_now {Q : Option Value → Hp → Prop} {r : Option Value} {H : Heap} {locs : List Loc} (hq : Q r h) (hP : va_P (G.2.2.1, G.2.2.2) vwCl (cs G h) H) (hS : va_S (AG G) X.2.2.2.2.1.heap H locs) (a0 : Array Value) : ∀ t : State, t.heap = H → X.2.2.2.2.1.WarmedH t.vm → Qw G Q a0 X.2.2.2.2.1 (.returned r) t := fun t ht _ => ⟨⟨r, h, rfl, hq, by rw [ht]; exact hP⟩, hS.F ht⟩
theorem r_iret {Q : Option Value → Hp → Prop} {v : Int32} (C : Cx G own cc nL (some .int) d 0 0 X) (dd : decode cc pc = .ok (.ireturn, 1)) (hq : Q (some (.int v)) h) : R0 G X 0 0 (ZM G Q X) pc lo [.int v] h := fun H locs ls hl hP hS => W.iret C.1 C.2.1 C.2.2.2.1 (end_now hq hP hS _) hS.2.2 dd C.2.2.2.2.1
theorem r_zret {Q : Option Value → Hp → Prop} {v : Int32} (C : Cx G own cc nL (some .boolean) d 0 0 X) (dd : decode cc pc = .ok (.ireturn, 1)) (hn : narrow .boolean (.int v) = .int v) (hq : Q (some (.int v)) h) : R0 G X 0 0 (ZM G Q X) pc lo [.int v] h := fun H locs ls hl hP hS => W.zret C.1 C.2.1 C.2.2.2.1 hn (end_now hq hP hS _) hS.2.2 dd C.2.2.2.2.1
theorem r_lret {Q : Option Value → Hp → Prop} {v : Int64} (C : Cx G own cc nL (some .long) d 0 0 X) (dd : decode cc pc = .ok (.lreturn, 1)) (hq : Q (some (.long v)) h) : R0 G X 0 0 (ZM G Q X) pc lo [.long v] h := fun H locs ls hl hP hS => W.lret C.1 C.2.1 C.2.2.2.1 (end_now hq hP hS _) hS.2.2 dd C.2.2.2.2.1
theorem r_vret {Q : Option Value → Hp → Prop} (C : Cx G own cc nL none d 0 0 X) (dd : decode cc pc = .ok (.return_, 1)) (hq : Q none h) : R0 G X 0 0 (ZM G Q X) pc lo [] h := fun H locs ls hl hP hS => W.vret C.1 C.2.1 C.2.2.2.1 (end_now hq hP hS _) hS.2.2 dd C.2.2.2.2.1
/-! the JDK's -/
theorem r_mmin {index : Nat} {x y : Int32} (C : Cx G own cc nL ret d kc ks X) (hw : Cond.methodLink own index Lib.Math.min.name ∈ WS ∧ Cond.static Lib.Math.min.name ∈ WS ∧ Cond.initialized "java/lang/Math" ∈ WS ∧ Cond.code Lib.Math.min.name Lib.Math.min.code 2 (some .int) ∈ WS) (hd : 1 ≤ d) (hlo : lo.length = nL) (hr : (st.map fun v => v.category).sum ≤ 8) (dd : decode cc pc = .ok (.invokestatic index, 3)) (k : R0 G X kc ks Z (pc + 3) lo (.int (if y < x then y else x) :: st) h) : R0 G X kc ks Z pc lo (.int y :: .int x :: st) h := fun H locs ls hl hP hS =>
  va_mmin C.1 C.2.1 (C.2.2.1.trans (hlo.symm.trans hl.1.symm)) C.2.2.2.2.2.1 (C.2.2.2.2.2.2.1 _ hw.1) (C.2.2.2.2.2.2.1 _ hw.2.1) (C.2.2.2.2.2.2.1 _ hw.2.2.1) (C.2.2.2.2.2.2.1 _ hw.2.2.2) (Nat.le_trans hd C.2.2.2.2.2.2.2.2.2.1) (by have := C.2.2.2.2.2.2.2.2.2.2.1; omega) C.2.2.2.2.2.2.2.2.2.2.2.1 C.2.2.2.2.2.2.2.2.2.2.2.2.1 dd (k H locs ls hl hP hS)
theorem r_mmax {index : Nat} {x y : Int32} (C : Cx G own cc nL ret d kc ks X) (hw : Cond.methodLink own index Lib.Math.max.name ∈ WS ∧ Cond.static Lib.Math.max.name ∈ WS ∧ Cond.initialized "java/lang/Math" ∈ WS ∧ Cond.code Lib.Math.max.name Lib.Math.max.code 2 (some .int) ∈ WS) (hd : 1 ≤ d) (hlo : lo.length = nL) (hr : (st.map fun v => v.category).sum ≤ 8) (dd : decode cc pc = .ok (.invokestatic index, 3)) (k : R0 G X kc ks Z (pc + 3) lo (.int (if x < y then y else x) :: st) h) : R0 G X kc ks Z pc lo (.int y :: .int x :: st) h := fun H locs ls hl hP hS =>
  va_mmax C.1 C.2.1 (C.2.2.1.trans (hlo.symm.trans hl.1.symm)) C.2.2.2.2.2.1 (C.2.2.2.2.2.2.1 _ hw.1) (C.2.2.2.2.2.2.1 _ hw.2.1) (C.2.2.2.2.2.2.1 _ hw.2.2.1) (C.2.2.2.2.2.2.1 _ hw.2.2.2) (Nat.le_trans hd C.2.2.2.2.2.2.2.2.2.1) (by have := C.2.2.2.2.2.2.2.2.2.2.1; omega) C.2.2.2.2.2.2.2.2.2.2.2.1 C.2.2.2.2.2.2.2.2.2.2.2.2.1 dd (k H locs ls hl hP hS)
theorem r_mabs {index : Nat} {x : Int32} (C : Cx G own cc nL ret d kc ks X) (hw : Cond.methodLink own index Lib.Math.abs.name ∈ WS ∧ Cond.static Lib.Math.abs.name ∈ WS ∧ Cond.initialized "java/lang/Math" ∈ WS ∧ Cond.code Lib.Math.abs.name Lib.Math.abs.code 1 (some .int) ∈ WS) (hd : 1 ≤ d) (hlo : lo.length = nL) (hr : (st.map fun v => v.category).sum ≤ 8) (dd : decode cc pc = .ok (.invokestatic index, 3)) (k : R0 G X kc ks Z (pc + 3) lo (.int (if 0 ≤ x then x else 0 - x) :: st) h) : R0 G X kc ks Z pc lo (.int x :: st) h := fun H locs ls hl hP hS =>
  va_mabs C.1 C.2.1 (C.2.2.1.trans (hlo.symm.trans hl.1.symm)) C.2.2.2.2.2.1 (C.2.2.2.2.2.2.1 _ hw.1) (C.2.2.2.2.2.2.1 _ hw.2.1) (C.2.2.2.2.2.2.1 _ hw.2.2.1) (C.2.2.2.2.2.2.1 _ hw.2.2.2) (Nat.le_trans hd C.2.2.2.2.2.2.2.2.2.1) (by have := C.2.2.2.2.2.2.2.2.2.2.1; omega) C.2.2.2.2.2.2.2.2.2.2.2.1 C.2.2.2.2.2.2.2.2.2.2.2.2.1 dd (k H locs ls hl hP hS)
theorem r_copyi {index a b : Nat} {sp dp n : Int32} (C : Cx G own cc nL ret d kc ks X) (hw : Cond.methodLink own index arraycopyName ∈ WS ∧ Cond.native arraycopyName ∈ WS ∧ Cond.static arraycopyName ∈ WS ∧ Cond.initialized "java/lang/System" ∈ WS) (ha : kd a = 20) (hb : kd b = 20) (hc : ¬ sp < 0 ∧ ¬ dp < 0 ∧ ¬ n < 0 ∧ sp.toNatClampNeg + n.toNatClampNeg ≤ ln a ∧ dp.toNatClampNeg + n.toNatClampNeg ≤ ln b) (hd : 1 ≤ d) (hlo : lo.length = nL) (hr : (st.map fun v => v.category).sum ≤ 8) (dd : decode cc pc = .ok (.invokestatic index, 3)) (k : R0 G X kc ks Z (pc + 3) lo st (cpI h a b sp.toNatClampNeg dp.toNatClampNeg n.toNatClampNeg)) : R0 G X kc ks Z pc lo (.int n :: .int dp :: .ref (G.1 b) :: .int sp :: .ref (G.1 a) :: st) h := by
  intro H locs ls hl hP hS
  have he := cs_at G h (kd_lt ha (by decide))
  rw [ce_int ha (by decide) (by decide) (by decide)] at he
  have hf := cs_at G h (kd_lt hb (by decide))
  rw [ce_int hb (by decide) (by decide) (by decide)] at hf
  obtain ⟨h1, h2, h3, h4, h5⟩ := hc
  refine va_copyi C.1 C.2.1 (C.2.2.1.trans (hlo.symm.trans hl.1.symm)) C.2.2.2.2.2.1 (C.2.2.2.2.2.2.1 _ hw.1) (C.2.2.2.2.2.2.1 _ hw.2.1) (C.2.2.2.2.2.2.1 _ hw.2.2.1) (C.2.2.2.2.2.2.1 _ hw.2.2.2) C.2.2.2.2.2.2.2.1 hP (cs_D C.2.2.2.2.2.2.2.2.1 h) hS a b 0 0 he hf rfl rfl rfl h1 h2 h3 h4 h5 (fun i _ => rfl) (Nat.le_trans hd C.2.2.2.2.2.2.2.2.2.1) (by have := C.2.2.2.2.2.2.2.2.2.2.1; have : nativeFrameWords "java/lang/System" "arraycopy" 5 ≤ 40 := (by decide); omega) dd (fun H1 locs1 hP1 hD1 hS1 => ?_)
  rw [cs_setC G h _ _ _ hb (by decide) (by decide) (by decide)] at hP1
  exact k H1 locs1 ls hl hP1 hS1
theorem r_copyl {index a b : Nat} {sp dp n : Int32} (C : Cx G own cc nL ret d kc ks X) (hw : Cond.methodLink own index arraycopyName ∈ WS ∧ Cond.native arraycopyName ∈ WS ∧ Cond.static arraycopyName ∈ WS ∧ Cond.initialized "java/lang/System" ∈ WS) (ha : kd a = 21) (hb : kd b = 21) (hc : ¬ sp < 0 ∧ ¬ dp < 0 ∧ ¬ n < 0 ∧ sp.toNatClampNeg + n.toNatClampNeg ≤ ln a ∧ dp.toNatClampNeg + n.toNatClampNeg ≤ ln b) (hd : 1 ≤ d) (hlo : lo.length = nL) (hr : (st.map fun v => v.category).sum ≤ 8) (dd : decode cc pc = .ok (.invokestatic index, 3)) (k : R0 G X kc ks Z (pc + 3) lo st (cpL h a b sp.toNatClampNeg dp.toNatClampNeg n.toNatClampNeg)) : R0 G X kc ks Z pc lo (.int n :: .int dp :: .ref (G.1 b) :: .int sp :: .ref (G.1 a) :: st) h := by
  intro H locs ls hl hP hS
  have he := cs_at G h (kd_lt ha (by decide))
  rw [ce_long ha] at he
  have hf := cs_at G h (kd_lt hb (by decide))
  rw [ce_long hb] at hf
  obtain ⟨h1, h2, h3, h4, h5⟩ := hc
  refine va_copyl C.1 C.2.1 (C.2.2.1.trans (hlo.symm.trans hl.1.symm)) C.2.2.2.2.2.1 (C.2.2.2.2.2.2.1 _ hw.1) (C.2.2.2.2.2.2.1 _ hw.2.1) (C.2.2.2.2.2.2.1 _ hw.2.2.1) (C.2.2.2.2.2.2.1 _ hw.2.2.2) C.2.2.2.2.2.2.2.1 hP (cs_D C.2.2.2.2.2.2.2.2.1 h) hS a b 1 1 he hf rfl rfl rfl h1 h2 h3 h4 h5 (fun i _ => rfl) (Nat.le_trans hd C.2.2.2.2.2.2.2.2.2.1) (by have := C.2.2.2.2.2.2.2.2.2.2.1; have : nativeFrameWords "java/lang/System" "arraycopy" 5 ≤ 40 := (by decide); omega) dd (fun H1 locs1 hP1 hD1 hS1 => ?_)
  rw [cs_setCL G h _ _ _ hb] at hP1
  exact k H1 locs1 ls hl hP1 hS1
/-! loops -/
def lpN {σ : Type} (F : (σ → Prop) → σ → Prop) : Nat → σ → Prop
  | 0, _ => False
  | n + 1, s => F (lpN F n) s
theorem lp_ind {σ : Type} {F : (σ → Prop) → σ → Prop} (I : σ → Prop) (μ : σ → Nat) (hs : ∀ s, I s → ∀ K : σ → Prop, (∀ s', I s' → μ s' < μ s → K s') → F K s) (s : σ) (h : I s) : ∃ n, lpN F n s := by
  have key : ∀ n s, I s → μ s < n → lpN F n s := by
    intro n
    induction n with
    | zero => intro s _ hn; omega
    | succ n ih => intro s hI hn; exact hs s hI (lpN F n) (fun s' hI' hm => ih s' hI' (by omega))
  exact ⟨μ s + 1, key _ s h (Nat.lt_succ_self _)⟩
end RR
